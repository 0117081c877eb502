def f_X3_written (q0 : Nat) (v1 : Int32) (v2 : Int32) (M : Mem) : Option (Int32 × Mem) :=
  if v1 < 0 then (some ((-9), M)) else (if (M (iSt q0) 2) ≤ v1 then (some ((-9), M)) else (if v2 < 0 then (some ((-9), M)) else (if (M (iSt q0) 3) ≤ v2 then (some ((-9), M)) else (if inb ((v1 * 16) + v2) 64 then (some (M (iSt q0 + 2) (Int32.toNatClampNeg ((v1 * 16) + v2)), M)) else none))))
def f_X3_sounding_b2 (q0 : Nat) (v1 : Int32) (k2 : Int32 → Mem → Option (Int32 × Mem)) (v3 : Int32) (M : Mem) : Option (Int32 × Mem) :=
  if v3 < 0 then (some ((-9), M)) else (ob (f_X3_written q0 v1 v3 M) (fun x1 M2 => if x1 = 99 then (k2 (v3 + (-1)) M2) else (some (x1, M2))))
def f_X3_sounding (q0 : Nat) (v1 : Int32) (v2 : Int32) (M : Mem) : Option (Int32 × Mem) :=
  lq1 (f_X3_sounding_b2 q0 v1) 9999 v2 M
def f_X0_readNotes_b46 (b0 : Nat) (q1 : Nat) (v2 : Int32) (v3 : Int32) (k7 : Int32 → Mem → Option (Unit × Mem)) (s0 : Int32) (s1 : Int32) (s2 : Nat) (M : Mem) : Option (Unit × Mem) :=
  if inb s1 4 then (ob (f_X3_written q1 v3 v2 (mw M s2 (Int32.toNatClampNeg s1) s0)) (fun x3 M4 => if x3 = 99 then (k7 (v3 + 1) (mw M4 (iCh b0) 6 ((M4 (iCh b0) 6) ||| (1 <<< (v3 &&& 31))))) else (k7 (v3 + 1) M4))) else none
def f_X0_readNotes_b7 (b0 : Nat) (q1 : Nat) (v2 : Int32) (k7 : Int32 → Mem → Option (Unit × Mem)) (v3 : Int32) (M : Mem) : Option (Unit × Mem) :=
  if 4 ≤ v3 then (some ((), M)) else (ob (f_X3_sounding q1 v3 v2 M) (fun x1 M2 => if inb v3 4 then (if inb v3 4 then (if ((mw M2 (iCh b0 + 2) (Int32.toNatClampNeg v3) x1) (iCh b0 + 2) (Int32.toNatClampNeg v3)) = (-9) then (f_X0_readNotes_b46 b0 q1 v2 v3 k7 (-9) v3 (iCh b0 + 3) (mw M2 (iCh b0 + 2) (Int32.toNatClampNeg v3) x1)) else (f_X0_readNotes_b46 b0 q1 v2 v3 k7 0 v3 (iCh b0 + 3) (mw M2 (iCh b0 + 2) (Int32.toNatClampNeg v3) x1))) else none) else none))
def f_X0_readNotes (b0 : Nat) (q1 : Nat) (v2 : Int32) (M : Mem) : Option (Unit × Mem) :=
  lq1 (f_X0_readNotes_b7 b0 q1 v2) 9999 0 (mw M (iCh b0) 6 0)
def f_X3_isSetting (v0 : Int32) (M : Mem) : Option (Int32 × Mem) :=
  if v0 < 0 then (some (0, M)) else (if 6 ≤ v0 then (some (0, M)) else (some (1, M)))
def f_X3_settingAt (q0 : Nat) (v1 : Int32) (M : Mem) : Option (Int32 × Mem) :=
  ob (f_X3_isSetting v1 M) (fun x1 M2 => if x1 = 0 then (some (0, M2)) else (if inb v1 6 then (some (M2 (iSt q0 + 1) (Int32.toNatClampNeg v1), M2)) else none))
def f_X0_readSettings_b24 (b0 : Nat) (q1 : Nat) (M : Mem) : Option (Unit × Mem) :=
  ob (f_X3_settingAt q1 2 M) (fun x3 M4 => ob (f_X3_settingAt q1 3 (mw M4 (iCh b0) 1 x3)) (fun x5 M6 => ob (f_X3_settingAt q1 4 (mw M6 (iCh b0) 2 x5)) (fun x7 M8 => if x7 = 1 then (some ((), (mw M8 (iCh b0) 3 1))) else (some ((), (mw M8 (iCh b0) 3 0))))))
def f_X0_readSettings_b2 (b0 : Nat) (q1 : Nat) (k2 : Int32 → Mem → Option (Unit × Mem)) (v2 : Int32) (M : Mem) : Option (Unit × Mem) :=
  if 2 ≤ v2 then (f_X0_readSettings_b24 b0 q1 M) else (ob (f_X3_settingAt q1 v2 M) (fun x1 M2 => if inb v2 2 then (k2 (v2 + 1) (mw M2 (iCh b0 + 1) (Int32.toNatClampNeg v2) x1)) else none))
def f_X0_readSettings (b0 : Nat) (q1 : Nat) (M : Mem) : Option (Unit × Mem) :=
  lq1 (f_X0_readSettings_b2 b0 q1) 9999 0 M
def f_X0_reasonFor_b23 (b0 : Nat) (v1 : Int32) (v2 : Int32) (v3 : Int32) (v4 : Int32) (k5 : Int32 → Int32 → Mem → Option (Int32 × Mem)) (M : Mem) : Option (Int32 × Mem) :=
  if inb v4 4 then (if (M (iCh b0 + 3) (Int32.toNatClampNeg v4)) = 0 then (if inb v1 4 then (if inb v4 4 then (if (if 0 ≤ ((M (iCh b0 + 2) (Int32.toNatClampNeg v1)) - (M (iCh b0 + 2) (Int32.toNatClampNeg v4))) then ((M (iCh b0 + 2) (Int32.toNatClampNeg v1)) - (M (iCh b0 + 2) (Int32.toNatClampNeg v4))) else 0 - ((M (iCh b0 + 2) (Int32.toNatClampNeg v1)) - (M (iCh b0 + 2) (Int32.toNatClampNeg v4)))) = 0 then (some (1, M)) else (if (M (iCh b0) 3) = 0 then (k5 v3 (v4 + 1) M) else (if ((if 0 ≤ ((M (iCh b0 + 2) (Int32.toNatClampNeg v1)) - (M (iCh b0 + 2) (Int32.toNatClampNeg v4))) then ((M (iCh b0 + 2) (Int32.toNatClampNeg v1)) - (M (iCh b0 + 2) (Int32.toNatClampNeg v4))) else 0 - ((M (iCh b0 + 2) (Int32.toNatClampNeg v1)) - (M (iCh b0 + 2) (Int32.toNatClampNeg v4)))) - (if 0 ≤ ((M (iCh b0 + 2) (Int32.toNatClampNeg v1)) - (M (iCh b0 + 2) (Int32.toNatClampNeg v4))) then ((M (iCh b0 + 2) (Int32.toNatClampNeg v1)) - (M (iCh b0 + 2) (Int32.toNatClampNeg v4))) else 0 - ((M (iCh b0 + 2) (Int32.toNatClampNeg v1)) - (M (iCh b0 + 2) (Int32.toNatClampNeg v4)))) / 12 * 12) = 0 then (k5 2 (v4 + 1) M) else (k5 v3 (v4 + 1) M)))) else none) else none) else (k5 v3 (v4 + 1) M)) else none
def f_X0_reasonFor_b5 (b0 : Nat) (v1 : Int32) (v2 : Int32) (k5 : Int32 → Int32 → Mem → Option (Int32 × Mem)) (v3 : Int32) (v4 : Int32) (M : Mem) : Option (Int32 × Mem) :=
  if 4 ≤ v4 then (some (v3, M)) else (if v4 < v1 then (f_X0_reasonFor_b23 b0 v1 v2 v3 v4 k5 M) else (if v4 = v2 then (f_X0_reasonFor_b23 b0 v1 v2 v3 v4 k5 M) else (k5 v3 (v4 + 1) M)))
def f_X0_reasonFor (b0 : Nat) (v1 : Int32) (v2 : Int32) (M : Mem) : Option (Int32 × Mem) :=
  lq2 (f_X0_reasonFor_b5 b0 v1 v2) 9999 0 0 M
def f_X0_countOf (b0 : Nat) (v1 : Int32) (v2 : Int32) (M : Mem) : Option (Int32 × Mem) :=
  if v1 = 0 then (some (v2, M)) else (some ((M (iCh b0) 9) - v2, M))
def f_X0_stavesOf (b0 : Nat) (v1 : Int32) (v2 : Int32) (M : Mem) : Option (Int32 × Mem) :=
  if v1 = 0 then (if inb v2 5 then (some (M (iCh b0 + 5) (Int32.toNatClampNeg v2), M)) else none) else (if inb (M (iCh b0) 9) 5 then (if inb v2 5 then (some ((M (iCh b0 + 5) (Int32.toNatClampNeg (M (iCh b0) 9))) &&& ((M (iCh b0 + 5) (Int32.toNatClampNeg v2)) ^^^ (-1)), M)) else none) else none)
def f_X0_canPlay_b49 (b0 : Nat) (v1 : Int32) (v2 : Int32) (s0 : Int32) (M : Mem) : Option (Int32 × Mem) :=
  if inb v1 2 then (if inb v2 5 then (if s0 < (M (iCh b0 + 10 + Int32.toNatClampNeg v1) (Int32.toNatClampNeg v2)) then (some (0, M)) else (some (1, M))) else none) else none
def f_X0_canPlay (b0 : Nat) (v1 : Int32) (v2 : Int32) (M : Mem) : Option (Int32 × Mem) :=
  ob (f_X0_countOf b0 v1 v2 M) (fun x1 M2 => if x1 ≤ (M2 (iCh b0) 1) then (ob (f_X0_stavesOf b0 v1 v2 M2) (fun x3 M4 => if (x3 &&& (M4 (iCh b0) 6)) = 0 then (if inb v1 2 then (f_X0_canPlay_b49 b0 v1 v2 ((M4 (iCh b0 + 1) (Int32.toNatClampNeg v1)) + (M4 (iCh b0) 2)) M4) else none) else (if inb v1 2 then (f_X0_canPlay_b49 b0 v1 v2 (M4 (iCh b0 + 1) (Int32.toNatClampNeg v1)) M4) else none))) else (some (0, M2)))
def f_X0_insert_b51 (b0 : Nat) (v1 : Int32) (v2 : Int32) (M : Mem) : Option (Unit × Mem) :=
  if inb v2 4 then (some ((), (mw (mw M (iCh b0 + 4) (Int32.toNatClampNeg v2) v1) (iCh b0) 9 (((mw M (iCh b0 + 4) (Int32.toNatClampNeg v2) v1) (iCh b0) 9) + 1)))) else none
def f_X0_insert_b5 (b0 : Nat) (v1 : Int32) (k5 : Int32 → Mem → Option (Unit × Mem)) (v2 : Int32) (M : Mem) : Option (Unit × Mem) :=
  if v2 ≤ 0 then (f_X0_insert_b51 b0 v1 v2 M) else (if inb (v2 - 1) 4 then (if inb (M (iCh b0 + 4) (Int32.toNatClampNeg (v2 - 1))) 4 then (if inb v1 4 then (if (M (iCh b0 + 2) (Int32.toNatClampNeg (M (iCh b0 + 4) (Int32.toNatClampNeg (v2 - 1))))) ≤ (M (iCh b0 + 2) (Int32.toNatClampNeg v1)) then (f_X0_insert_b51 b0 v1 v2 M) else (if inb (v2 - 1) 4 then (if inb v2 4 then (k5 (v2 + (-1)) (mw M (iCh b0 + 4) (Int32.toNatClampNeg v2) (M (iCh b0 + 4) (Int32.toNatClampNeg (v2 - 1))))) else none) else none)) else none) else none) else none)
def f_X0_insert (b0 : Nat) (v1 : Int32) (M : Mem) : Option (Unit × Mem) :=
  lq1 (f_X0_insert_b5 b0 v1) 9999 (M (iCh b0) 9) M
def f_X0_measure (b0 : Nat) (v1 : Int32) (v2 : Int32) (v3 : Int32) (v4 : Int32) (M : Mem) : Option (Unit × Mem) :=
  if v4 ≤ v3 then (if inb v1 2 then (if inb v2 5 then (if inb v1 2 then (if inb v2 5 then (some ((), (mw (mw M (iCh b0 + 7 + Int32.toNatClampNeg v1) (Int32.toNatClampNeg v2) (-9)) (iCh b0 + 10 + Int32.toNatClampNeg v1) (Int32.toNatClampNeg v2) 0))) else none) else none) else none) else none) else (if inb v1 2 then (if inb v3 4 then (if inb (M (iCh b0 + 4) (Int32.toNatClampNeg v3)) 4 then (if inb v2 5 then (if inb v1 2 then (if inb (v4 - 1) 4 then (if inb ((mw M (iCh b0 + 7 + Int32.toNatClampNeg v1) (Int32.toNatClampNeg v2) (M (iCh b0 + 2) (Int32.toNatClampNeg (M (iCh b0 + 4) (Int32.toNatClampNeg v3))))) (iCh b0 + 4) (Int32.toNatClampNeg (v4 - 1))) 4 then (if inb v3 4 then (if inb ((mw M (iCh b0 + 7 + Int32.toNatClampNeg v1) (Int32.toNatClampNeg v2) (M (iCh b0 + 2) (Int32.toNatClampNeg (M (iCh b0 + 4) (Int32.toNatClampNeg v3))))) (iCh b0 + 4) (Int32.toNatClampNeg v3)) 4 then (if inb v2 5 then (some ((), (mw (mw M (iCh b0 + 7 + Int32.toNatClampNeg v1) (Int32.toNatClampNeg v2) (M (iCh b0 + 2) (Int32.toNatClampNeg (M (iCh b0 + 4) (Int32.toNatClampNeg v3))))) (iCh b0 + 10 + Int32.toNatClampNeg v1) (Int32.toNatClampNeg v2) (((mw M (iCh b0 + 7 + Int32.toNatClampNeg v1) (Int32.toNatClampNeg v2) (M (iCh b0 + 2) (Int32.toNatClampNeg (M (iCh b0 + 4) (Int32.toNatClampNeg v3))))) (iCh b0 + 2) (Int32.toNatClampNeg ((mw M (iCh b0 + 7 + Int32.toNatClampNeg v1) (Int32.toNatClampNeg v2) (M (iCh b0 + 2) (Int32.toNatClampNeg (M (iCh b0 + 4) (Int32.toNatClampNeg v3))))) (iCh b0 + 4) (Int32.toNatClampNeg (v4 - 1))))) - ((mw M (iCh b0 + 7 + Int32.toNatClampNeg v1) (Int32.toNatClampNeg v2) (M (iCh b0 + 2) (Int32.toNatClampNeg (M (iCh b0 + 4) (Int32.toNatClampNeg v3))))) (iCh b0 + 2) (Int32.toNatClampNeg ((mw M (iCh b0 + 7 + Int32.toNatClampNeg v1) (Int32.toNatClampNeg v2) (M (iCh b0 + 2) (Int32.toNatClampNeg (M (iCh b0 + 4) (Int32.toNatClampNeg v3))))) (iCh b0 + 4) (Int32.toNatClampNeg v3)))))))) else none) else none) else none) else none) else none) else none) else none) else none) else none) else none)
def f_X0_share_b95 (b0 : Nat) (k95 : Int32 → Mem → Option (Unit × Mem)) (v1 : Int32) (M : Mem) : Option (Unit × Mem) :=
  if (M (iCh b0) 9) < v1 then (some ((), M)) else (ob (f_X0_measure b0 0 v1 0 v1 M) (fun x3 M4 => ob (f_X0_measure b0 1 v1 v1 (M4 (iCh b0) 9) M4) (fun x5 M6 => ob (f_X0_canPlay b0 0 v1 M6) (fun x7 M8 => if x7 = 0 then (k95 (v1 + 1) M8) else (ob (f_X0_canPlay b0 1 v1 M8) (fun x9 M10 => if x9 = 0 then (k95 (v1 + 1) M10) else (k95 (v1 + 1) (mw M10 (iCh b0) 10 ((M10 (iCh b0) 10) ||| (1 <<< (v1 &&& 31)))))))))))
def f_X0_share_b70 (b0 : Nat) (M : Mem) : Option (Unit × Mem) :=
  if inb (M (iCh b0) 9) 5 then (lq1 (f_X0_share_b95 b0) 9999 0 (mw (mw M (iCh b0) 7 ((M (iCh b0) 6) &&& (M (iCh b0 + 5) (Int32.toNatClampNeg (M (iCh b0) 9))))) (iCh b0) 10 0)) else none
def f_X0_share_b33 (b0 : Nat) (k33 : Int32 → Mem → Option (Unit × Mem)) (v1 : Int32) (M : Mem) : Option (Unit × Mem) :=
  if (M (iCh b0) 9) ≤ v1 then (f_X0_share_b70 b0 M) else (if inb v1 5 then (if inb v1 4 then (if inb (v1 + 1) 5 then (k33 (v1 + 1) (mw M (iCh b0 + 5) (Int32.toNatClampNeg (v1 + 1)) ((M (iCh b0 + 5) (Int32.toNatClampNeg v1)) ||| (1 <<< ((M (iCh b0 + 4) (Int32.toNatClampNeg v1)) &&& 31))))) else none) else none) else none)
def f_X0_share_b31 (b0 : Nat) (M : Mem) : Option (Unit × Mem) :=
  lq1 (f_X0_share_b33 b0) 9999 0 M
def f_X0_share_b7 (b0 : Nat) (k7 : Int32 → Mem → Option (Unit × Mem)) (v1 : Int32) (M : Mem) : Option (Unit × Mem) :=
  if v1 < 0 then (f_X0_share_b31 b0 M) else (if inb v1 4 then (if (M (iCh b0 + 3) (Int32.toNatClampNeg v1)) = 0 then (ob (f_X0_insert b0 v1 M) (fun x1 M2 => k7 (v1 + (-1)) M2)) else (k7 (v1 + (-1)) M)) else none)
def f_X0_share (b0 : Nat) (M : Mem) : Option (Unit × Mem) :=
  lq1 (f_X0_share_b7 b0) 9999 3 (mw M (iCh b0) 9 0)
def f_X0_read_b66 (b0 : Nat) (k66 : Int32 → Mem → Option (Unit × Mem)) (v4 : Int32) (M : Mem) : Option (Unit × Mem) :=
  if v4 < 1 then (some ((), M)) else (if (M (iCh b0) 10) = 0 then (if inb v4 4 then (if (M (iCh b0 + 3) (Int32.toNatClampNeg v4)) = 0 then (if inb v4 4 then (ob (f_X0_share b0 (mw M (iCh b0 + 3) (Int32.toNatClampNeg v4) 3)) (fun x9 M10 => k66 (v4 + (-1)) M10)) else none) else (k66 (v4 + (-1)) M)) else none) else (some ((), M)))
def f_X0_read_b57 (b0 : Nat) (v3 : Int32) (M : Mem) : Option (Unit × Mem) :=
  ob (f_X0_share b0 M) (fun x7 M8 => lq1 (f_X0_read_b66 b0) 9999 (v3 - 1) M8)
def f_X0_read_b21 (b0 : Nat) (v3 : Int32) (k21 : Int32 → Mem → Option (Unit × Mem)) (v4 : Int32) (M : Mem) : Option (Unit × Mem) :=
  if v3 ≤ v4 then (f_X0_read_b57 b0 v3 M) else (if inb v4 4 then (if (M (iCh b0 + 3) (Int32.toNatClampNeg v4)) = 0 then (ob (f_X0_reasonFor b0 v4 v3 M) (fun x5 M6 => if inb v4 4 then (k21 (v4 + 1) (mw M6 (iCh b0 + 3) (Int32.toNatClampNeg v4) x5)) else none)) else (k21 (v4 + 1) M)) else none)
def f_X0_read (b0 : Nat) (q1 : Nat) (v2 : Int32) (M : Mem) : Option (Unit × Mem) :=
  ob (f_X0_readSettings b0 q1 M) (fun x1 M2 => ob (f_X0_readNotes b0 q1 v2 M2) (fun x3 M4 => lq1 (f_X0_read_b21 b0 ((M4 (iSt q1) 2) - 1)) 9999 1 M4))
def f_X0_isPossible (b0 : Nat) (v1 : Int32) (M : Mem) : Option (Int32 × Mem) :=
  if (((M (iCh b0) 10) >>> (v1 &&& 31)) &&& 1) = 1 then (some (1, M)) else (some (0, M))
def f_X0_isRolled (b0 : Nat) (v1 : Int32) (v2 : Int32) (M : Mem) : Option (Int32 × Mem) :=
  if inb v1 2 then (if inb v2 5 then (if inb v1 2 then (if (M (iCh b0 + 10 + Int32.toNatClampNeg v1) (Int32.toNatClampNeg v2)) ≤ (M (iCh b0 + 1) (Int32.toNatClampNeg v1)) then (some (0, M)) else (some (1, M))) else none) else none) else none
def f_X0_countRolled_b14 (b0 : Nat) (v1 : Int32) (s0 : Int32) (M : Mem) : Option (Int32 × Mem) :=
  ob (f_X0_isRolled b0 1 v1 M) (fun x3 M4 => if x3 = 0 then (some (s0 + 0, M4)) else (some (s0 + 1, M4)))
def f_X0_countRolled (b0 : Nat) (v1 : Int32) (M : Mem) : Option (Int32 × Mem) :=
  ob (f_X0_isRolled b0 0 v1 M) (fun x1 M2 => if x1 = 0 then (f_X0_countRolled_b14 b0 v1 0 M2) else (f_X0_countRolled_b14 b0 v1 1 M2))
def f_X0_move (b0 : Nat) (v1 : Int32) (v2 : Int32) (b3 : Nat) (v4 : Int32) (M : Mem) : Option (Int32 × Mem) :=
  if inb v1 2 then (if inb v4 5 then (if inb v1 2 then (if inb v2 5 then (if (M (iCh b3 + 7 + Int32.toNatClampNeg v1) (Int32.toNatClampNeg v4)) = (-9) then (some (0, M)) else (if (M (iCh b0 + 7 + Int32.toNatClampNeg v1) (Int32.toNatClampNeg v2)) = (-9) then (some (0, M)) else (if (M (iCh b0 + 7 + Int32.toNatClampNeg v1) (Int32.toNatClampNeg v2)) ≤ (M (iCh b3 + 7 + Int32.toNatClampNeg v1) (Int32.toNatClampNeg v4)) then (some ((M (iCh b3 + 7 + Int32.toNatClampNeg v1) (Int32.toNatClampNeg v4)) - (M (iCh b0 + 7 + Int32.toNatClampNeg v1) (Int32.toNatClampNeg v2)), M)) else (some ((M (iCh b0 + 7 + Int32.toNatClampNeg v1) (Int32.toNatClampNeg v2)) - (M (iCh b3 + 7 + Int32.toNatClampNeg v1) (Int32.toNatClampNeg v4)), M))))) else none) else none) else none) else none
def f_X0_cutStaves (b0 : Nat) (v1 : Int32) (b2 : Nat) (v3 : Int32) (M : Mem) : Option (Int32 × Mem) :=
  if inb (M (iCh b2) 9) 5 then (if inb v1 5 then (if inb v3 5 then (some ((M (iCh b0) 7) &&& (((M (iCh b2 + 5) (Int32.toNatClampNeg (M (iCh b2) 9))) ^^^ (-1)) ||| ((M (iCh b0 + 5) (Int32.toNatClampNeg v1)) ^^^ (M (iCh b2 + 5) (Int32.toNatClampNeg v3)))), M)) else none) else none) else none
def f_J6_bitCount_0f7a4 (v0 : Int32) (M : Mem) : Option (Int32 × Mem) :=
  some ((((((((v0 - (((Int32.toUInt32 v0 >>> (Int32.toUInt32 1 &&& Int32.toUInt32 31)).toInt32) &&& 1431655765)) &&& 858993459) + (((Int32.toUInt32 (v0 - (((Int32.toUInt32 v0 >>> (Int32.toUInt32 1 &&& Int32.toUInt32 31)).toInt32) &&& 1431655765)) >>> (Int32.toUInt32 2 &&& Int32.toUInt32 31)).toInt32) &&& 858993459)) + ((Int32.toUInt32 (((v0 - (((Int32.toUInt32 v0 >>> (Int32.toUInt32 1 &&& Int32.toUInt32 31)).toInt32) &&& 1431655765)) &&& 858993459) + (((Int32.toUInt32 (v0 - (((Int32.toUInt32 v0 >>> (Int32.toUInt32 1 &&& Int32.toUInt32 31)).toInt32) &&& 1431655765)) >>> (Int32.toUInt32 2 &&& Int32.toUInt32 31)).toInt32) &&& 858993459)) >>> (Int32.toUInt32 4 &&& Int32.toUInt32 31)).toInt32)) &&& 252645135) + ((Int32.toUInt32 (((((v0 - (((Int32.toUInt32 v0 >>> (Int32.toUInt32 1 &&& Int32.toUInt32 31)).toInt32) &&& 1431655765)) &&& 858993459) + (((Int32.toUInt32 (v0 - (((Int32.toUInt32 v0 >>> (Int32.toUInt32 1 &&& Int32.toUInt32 31)).toInt32) &&& 1431655765)) >>> (Int32.toUInt32 2 &&& Int32.toUInt32 31)).toInt32) &&& 858993459)) + ((Int32.toUInt32 (((v0 - (((Int32.toUInt32 v0 >>> (Int32.toUInt32 1 &&& Int32.toUInt32 31)).toInt32) &&& 1431655765)) &&& 858993459) + (((Int32.toUInt32 (v0 - (((Int32.toUInt32 v0 >>> (Int32.toUInt32 1 &&& Int32.toUInt32 31)).toInt32) &&& 1431655765)) >>> (Int32.toUInt32 2 &&& Int32.toUInt32 31)).toInt32) &&& 858993459)) >>> (Int32.toUInt32 4 &&& Int32.toUInt32 31)).toInt32)) &&& 252645135) >>> (Int32.toUInt32 8 &&& Int32.toUInt32 31)).toInt32)) + ((Int32.toUInt32 ((((((v0 - (((Int32.toUInt32 v0 >>> (Int32.toUInt32 1 &&& Int32.toUInt32 31)).toInt32) &&& 1431655765)) &&& 858993459) + (((Int32.toUInt32 (v0 - (((Int32.toUInt32 v0 >>> (Int32.toUInt32 1 &&& Int32.toUInt32 31)).toInt32) &&& 1431655765)) >>> (Int32.toUInt32 2 &&& Int32.toUInt32 31)).toInt32) &&& 858993459)) + ((Int32.toUInt32 (((v0 - (((Int32.toUInt32 v0 >>> (Int32.toUInt32 1 &&& Int32.toUInt32 31)).toInt32) &&& 1431655765)) &&& 858993459) + (((Int32.toUInt32 (v0 - (((Int32.toUInt32 v0 >>> (Int32.toUInt32 1 &&& Int32.toUInt32 31)).toInt32) &&& 1431655765)) >>> (Int32.toUInt32 2 &&& Int32.toUInt32 31)).toInt32) &&& 858993459)) >>> (Int32.toUInt32 4 &&& Int32.toUInt32 31)).toInt32)) &&& 252645135) + ((Int32.toUInt32 (((((v0 - (((Int32.toUInt32 v0 >>> (Int32.toUInt32 1 &&& Int32.toUInt32 31)).toInt32) &&& 1431655765)) &&& 858993459) + (((Int32.toUInt32 (v0 - (((Int32.toUInt32 v0 >>> (Int32.toUInt32 1 &&& Int32.toUInt32 31)).toInt32) &&& 1431655765)) >>> (Int32.toUInt32 2 &&& Int32.toUInt32 31)).toInt32) &&& 858993459)) + ((Int32.toUInt32 (((v0 - (((Int32.toUInt32 v0 >>> (Int32.toUInt32 1 &&& Int32.toUInt32 31)).toInt32) &&& 1431655765)) &&& 858993459) + (((Int32.toUInt32 (v0 - (((Int32.toUInt32 v0 >>> (Int32.toUInt32 1 &&& Int32.toUInt32 31)).toInt32) &&& 1431655765)) >>> (Int32.toUInt32 2 &&& Int32.toUInt32 31)).toInt32) &&& 858993459)) >>> (Int32.toUInt32 4 &&& Int32.toUInt32 31)).toInt32)) &&& 252645135) >>> (Int32.toUInt32 8 &&& Int32.toUInt32 31)).toInt32)) >>> (Int32.toUInt32 16 &&& Int32.toUInt32 31)).toInt32)) &&& 63, M)
def f_X0_costs (b0 : Nat) (v1 : Int32) (b2 : Nat) (v3 : Int32) (M : Mem) : Option (Int32 × Mem) :=
  ob (f_X0_cutStaves b0 v1 b2 v3 M) (fun x1 M2 => ob (f_J6_bitCount_0f7a4 x1 M2) (fun x3 M4 => ob (f_X0_countRolled b0 v1 M4) (fun x5 M6 => ob (f_X0_move b0 0 v1 b2 v3 M6) (fun x7 M8 => ob (f_X0_move b0 1 v1 b2 v3 M8) (fun x9 M10 => some ((((10 * x3) + (5 * x5)) + x7) + x9, M10))))))
def f_X0_countLeftOut_b4 (b0 : Nat) (v1 : Int32) (k4 : Int32 → Int32 → Mem → Option (Int32 × Mem)) (v2 : Int32) (v3 : Int32) (M : Mem) : Option (Int32 × Mem) :=
  if 4 ≤ v3 then (some (v2, M)) else (if inb v3 4 then (if (M (iCh b0 + 3) (Int32.toNatClampNeg v3)) = v1 then (k4 (v2 + 1) (v3 + 1) M) else (k4 v2 (v3 + 1) M)) else none)
def f_X0_countLeftOut (b0 : Nat) (v1 : Int32) (M : Mem) : Option (Int32 × Mem) :=
  lq2 (f_X0_countLeftOut_b4 b0 v1) 9999 0 0 M
def f_X1_isEmpty  (M : Mem) : Option (Int32 × Mem) :=
  if (M 3 2) = 0 then (some (1, M)) else (some (0, M))
def f_X1_forget  (M : Mem) : Option (Unit × Mem) :=
  some ((), (mw M 3 2 0))
def f_X3_takeFrom_b44 (q0 : Nat) (q1 : Nat) (k44 : Int32 → Mem → Option (Unit × Mem)) (v2 : Int32) (M : Mem) : Option (Unit × Mem) :=
  if 64 ≤ v2 then (some ((), M)) else (if inb v2 64 then (if inb v2 64 then (k44 (v2 + 1) (mw M (iSt q0 + 2) (Int32.toNatClampNeg v2) (M (iSt q1 + 2) (Int32.toNatClampNeg v2)))) else none) else none)
def f_X3_takeFrom_b42 (q0 : Nat) (q1 : Nat) (M : Mem) : Option (Unit × Mem) :=
  lq1 (f_X3_takeFrom_b44 q0 q1) 9999 0 M
def f_X3_takeFrom_b18 (q0 : Nat) (q1 : Nat) (k18 : Int32 → Mem → Option (Unit × Mem)) (v2 : Int32) (M : Mem) : Option (Unit × Mem) :=
  if 6 ≤ v2 then (f_X3_takeFrom_b42 q0 q1 M) else (if inb v2 6 then (if inb v2 6 then (k18 (v2 + 1) (mw M (iSt q0 + 1) (Int32.toNatClampNeg v2) (M (iSt q1 + 1) (Int32.toNatClampNeg v2)))) else none) else none)
def f_X3_takeFrom (q0 : Nat) (q1 : Nat) (M : Mem) : Option (Unit × Mem) :=
  lq1 (f_X3_takeFrom_b18 q0 q1) 9999 0 (mw (mw M (iSt q0) 2 (M (iSt q1) 2)) (iSt q0) 3 ((mw M (iSt q0) 2 (M (iSt q1) 2)) (iSt q1) 3))
def f_X1_remember (q1 : Nat) (M : Mem) : Option (Unit × Mem) :=
  if inb (M 3 1) 14 then (ob (f_X3_takeFrom (4 + Int32.toNatClampNeg (M 3 1)) q1 M) (fun x2 M3 => if 14 ≤ ((mw M3 3 1 (((M3 3 1) + 1) - ((M3 3 1) + 1) / 14 * 14)) 3 2) then (some ((), (mw M3 3 1 (((M3 3 1) + 1) - ((M3 3 1) + 1) / 14 * 14)))) else (some ((), (mw (mw M3 3 1 (((M3 3 1) + 1) - ((M3 3 1) + 1) / 14 * 14)) 3 2 (((mw M3 3 1 (((M3 3 1) + 1) - ((M3 3 1) + 1) / 14 * 14)) 3 2) + 1)))))) else none
def f_X1_takeBack (q1 : Nat) (M : Mem) : Option (Int32 × Mem) :=
  if (M 3 2) ≤ 0 then (some (M 3 2, M)) else (if inb ((mw M 3 1 ((((M 3 1) + 14) - 1) - (((M 3 1) + 14) - 1) / 14 * 14)) 3 1) 14 then (ob (f_X3_takeFrom q1 (4 + Int32.toNatClampNeg ((mw M 3 1 ((((M 3 1) + 14) - 1) - (((M 3 1) + 14) - 1) / 14 * 14)) 3 1)) (mw M 3 1 ((((M 3 1) + 14) - 1) - (((M 3 1) + 14) - 1) / 14 * 14))) (fun x2 M3 => some ((mw M3 3 2 ((M3 3 2) - 1)) 3 2, (mw M3 3 2 ((M3 3 2) - 1))))) else none)
def f_X2_chordAt (v1 : Int32) (M : Mem) : Option (Nat × Mem) :=
  if v1 < 0 then (some (16, M)) else (if (M 7 4) ≤ v1 then (some (16, M)) else (if inb v1 16 then (some (Int32.toNatClampNeg v1, M)) else none))
def f_X2_bestSplit_b17 (v1 : Int32) (b2 : Nat) (v3 : Int32) (b4 : Nat) (k17 : Int32 → Int32 → Int32 → Mem → Option (Int32 × Mem)) (v5 : Int32) (v6 : Int32) (v7 : Int32) (M : Mem) : Option (Int32 × Mem) :=
  if 5 ≤ v7 then (some (v5, M)) else (ob (f_X0_isPossible b4 v7 M) (fun x4 M5 => if x4 = 0 then (k17 v5 v6 (v7 + 1) M5) else (ob (f_X0_costs b4 v7 b2 v3 M5) (fun x6 M7 => if inb v1 16 then (if inb v7 5 then (if v6 ≤ (x6 + (M7 (11 + Int32.toNatClampNeg v1) (Int32.toNatClampNeg v7))) then (k17 v5 v6 (v7 + 1) M7) else (k17 v7 (x6 + (M7 (11 + Int32.toNatClampNeg v1) (Int32.toNatClampNeg v7))) (v7 + 1) M7)) else none) else none))))
def f_X2_bestSplit (v1 : Int32) (b2 : Nat) (v3 : Int32) (M : Mem) : Option (Int32 × Mem) :=
  ob (f_X2_chordAt v1 M) (fun x1 M2 => if x1 < 17 then (lq3 (f_X2_bestSplit_b17 v1 b2 v3 x1) 9999 0 1000000 0 M2) else none)
def f_X2_lookAhead_b20 (v1 : Int32) (v2 : Int32) (b3 : Nat) (k7 : Int32 → Mem → Option (Unit × Mem)) (k20 : Int32 → Mem → Option (Unit × Mem)) (v4 : Int32) (M : Mem) : Option (Unit × Mem) :=
  if 5 ≤ v4 then (k7 (v2 + (-1)) M) else (if inb v2 16 then (if inb v4 5 then (if v1 = 0 then (k20 (v4 + 1) (mw M (11 + Int32.toNatClampNeg v2) (Int32.toNatClampNeg v4) 0)) else (if (((mw M (11 + Int32.toNatClampNeg v2) (Int32.toNatClampNeg v4) 0) 7 4) - 1) ≤ v2 then (k20 (v4 + 1) (mw M (11 + Int32.toNatClampNeg v2) (Int32.toNatClampNeg v4) 0)) else (ob (f_X0_isPossible b3 v4 (mw M (11 + Int32.toNatClampNeg v2) (Int32.toNatClampNeg v4) 0)) (fun x5 M6 => if x5 = 0 then (k20 (v4 + 1) M6) else (ob (f_X2_bestSplit (v2 + 1) b3 v4 M6) (fun x7 M8 => if inb v2 16 then (ob (f_X2_chordAt (v2 + 1) M8) (fun x10 M11 => if x10 < 17 then (ob (f_X0_costs x10 x7 b3 v4 M11) (fun x13 M14 => if inb (v2 + 1) 16 then (if inb x7 5 then (if inb v4 5 then (k20 (v4 + 1) (mw M14 (11 + Int32.toNatClampNeg v2) (Int32.toNatClampNeg v4) (x13 + (M14 (11 + Int32.toNatClampNeg (v2 + 1)) (Int32.toNatClampNeg x7))))) else none) else none) else none)) else none)) else none)))))) else none) else none)
def f_X2_lookAhead_b7 (v1 : Int32) (k7 : Int32 → Mem → Option (Unit × Mem)) (v2 : Int32) (M : Mem) : Option (Unit × Mem) :=
  if v2 < 0 then (some ((), M)) else (ob (f_X2_chordAt v2 M) (fun x1 M2 => if x1 < 17 then (lq1 (f_X2_lookAhead_b20 v1 v2 x1 k7) 9999 0 M2) else none))
def f_X2_lookAhead (v1 : Int32) (M : Mem) : Option (Unit × Mem) :=
  lq1 (f_X2_lookAhead_b7 v1) 9999 ((M 7 4) - 1) M
def f_X2_splitAt (v1 : Int32) (M : Mem) : Option (Int32 × Mem) :=
  if v1 < 0 then (some (0, M)) else (if (M 7 4) ≤ v1 then (some (0, M)) else (if inb v1 16 then (some (M 9 (Int32.toNatClampNeg v1), M)) else none))
def f_X2_make_b55 (k55 : Int32 → Mem → Option (Unit × Mem)) (v2 : Int32) (M : Mem) : Option (Unit × Mem) :=
  if (M 7 4) ≤ v2 then (some ((), M)) else (ob (f_X2_chordAt (v2 - 1) M) (fun x8 M9 => if x8 < 17 then (ob (f_X2_splitAt (v2 - 1) M9) (fun x11 M12 => ob (f_X2_bestSplit v2 x8 x11 M12) (fun x13 M14 => if inb v2 16 then (k55 (v2 + 1) (mw M14 9 (Int32.toNatClampNeg v2) x13)) else none))) else none))
def f_X2_make_b50 (s0 : Int32) (M : Mem) : Option (Unit × Mem) :=
  ob (f_X2_lookAhead s0 M) (fun x6 M7 => lq1 (f_X2_make_b55 ) 9999 0 M7)
def f_X2_make_b35 (q1 : Nat) (M : Mem) : Option (Unit × Mem) :=
  ob (f_X3_settingAt q1 5 M) (fun x4 M5 => if x4 = 1 then (f_X2_make_b50 1 M5) else (f_X2_make_b50 0 M5))
def f_X2_make_b10 (q1 : Nat) (k10 : Int32 → Mem → Option (Unit × Mem)) (v2 : Int32) (M : Mem) : Option (Unit × Mem) :=
  if (M 7 4) ≤ v2 then (f_X2_make_b35 q1 M) else (if inb v2 16 then (ob (f_X0_read (Int32.toNatClampNeg v2) q1 v2 M) (fun x2 M3 => k10 (v2 + 1) M3)) else none)
def f_X2_make (q1 : Nat) (M : Mem) : Option (Unit × Mem) :=
  lq1 (f_X2_make_b10 q1) 9999 0 (mw M 7 4 (M (iSt q1) 3))
def f_X2_cutStaves (v1 : Int32) (M : Mem) : Option (Int32 × Mem) :=
  ob (f_X2_chordAt v1 M) (fun x1 M2 => if x1 < 17 then (ob (f_X2_splitAt v1 M2) (fun x4 M5 => ob (f_X2_chordAt (v1 - 1) M5) (fun x6 M7 => if x6 < 17 then (ob (f_X2_splitAt (v1 - 1) M7) (fun x9 M10 => ob (f_X0_cutStaves x1 x4 x6 x9 M10) (fun x11 M12 => some (x11, M12)))) else none))) else none)
def f_X2_move (v1 : Int32) (v2 : Int32) (M : Mem) : Option (Int32 × Mem) :=
  ob (f_X2_chordAt v2 M) (fun x1 M2 => if x1 < 17 then (ob (f_X2_splitAt v2 M2) (fun x4 M5 => ob (f_X2_chordAt (v2 - 1) M5) (fun x6 M7 => if x6 < 17 then (ob (f_X2_splitAt (v2 - 1) M7) (fun x9 M10 => ob (f_X0_move x1 v1 x4 x6 x9 M10) (fun x11 M12 => some (x11, M12)))) else none))) else none)
def f_X2_costs (v1 : Int32) (M : Mem) : Option (Int32 × Mem) :=
  ob (f_X2_chordAt v1 M) (fun x1 M2 => if x1 < 17 then (ob (f_X2_splitAt v1 M2) (fun x4 M5 => ob (f_X2_chordAt (v1 - 1) M5) (fun x6 M7 => if x6 < 17 then (ob (f_X2_splitAt (v1 - 1) M7) (fun x9 M10 => ob (f_X0_costs x1 x4 x6 x9 M10) (fun x11 M12 => some (x11, M12)))) else none))) else none)
def f_X2_numberOfNote_b98 (v6 : Int32) (s0 : Int32) (M : Mem) : Option (Int32 × Mem) :=
  if s0 = 0 then (some (1, M)) else (if v6 = 0 then (some (0, M)) else (some (1, M)))
def f_X2_numberOfNote_b49 (v1 : Int32) (v2 : Int32) (v3 : Int32) (b4 : Nat) (v5 : Int32) (s0 : Int32) (M : Mem) : Option (Int32 × Mem) :=
  if v3 = 3 then (if s0 = 0 then (some (0, M)) else (some (1, M))) else (if v5 = 0 then (if v3 = 2 then (if (((M (iCh b4) 6) >>> (v1 &&& 31)) &&& 1) = 1 then (f_X2_numberOfNote_b98 s0 1 M) else (f_X2_numberOfNote_b98 s0 0 M)) else (ob (f_X2_splitAt v2 M) (fun x6 M7 => ob (f_X0_stavesOf b4 0 x6 M7) (fun x8 M9 => if ((x8 >>> (v1 &&& 31)) &&& 1) = 1 then (some (0, M9)) else (some (1, M9)))))) else (some ((-9), M)))
def f_X2_numberOfNote (v1 : Int32) (v2 : Int32) (v3 : Int32) (M : Mem) : Option (Int32 × Mem) :=
  ob (f_X2_chordAt v2 M) (fun x1 M2 => if x1 < 17 then (if inb v1 4 then (if (M2 (iCh x1 + 3) (Int32.toNatClampNeg v1)) = (-9) then (some (M2 (iCh x1 + 3) (Int32.toNatClampNeg v1), M2)) else (if v3 = 1 then (some (M2 (iCh x1 + 3) (Int32.toNatClampNeg v1), M2)) else (ob (f_X2_cutStaves v2 M2) (fun x4 M5 => if ((x4 >>> (v1 &&& 31)) &&& 1) = 1 then (f_X2_numberOfNote_b49 v1 v2 v3 x1 (M2 (iCh x1 + 3) (Int32.toNatClampNeg v1)) 1 M5) else (f_X2_numberOfNote_b49 v1 v2 v3 x1 (M2 (iCh x1 + 3) (Int32.toNatClampNeg v1)) 0 M5))))) else none) else none)
def f_X2_numberOfHand (v1 : Int32) (v2 : Int32) (v3 : Int32) (M : Mem) : Option (Int32 × Mem) :=
  ob (f_X2_chordAt v2 M) (fun x1 M2 => if x1 < 17 then (ob (f_X2_splitAt v2 M2) (fun x4 M5 => if v3 = 0 then (ob (f_X0_countOf x1 v1 x4 M5) (fun x6 M7 => some (x6, M7))) else (if v3 = 1 then (if inb v1 2 then (if inb x4 5 then (some (M5 (iCh x1 + 7 + Int32.toNatClampNeg v1) (Int32.toNatClampNeg x4), M5)) else none) else none) else (if v3 = 2 then (if inb v1 2 then (if inb x4 5 then (some (M5 (iCh x1 + 10 + Int32.toNatClampNeg v1) (Int32.toNatClampNeg x4), M5)) else none) else none) else (if v3 = 3 then (ob (f_X0_isRolled x1 v1 x4 M5) (fun x10 M11 => if x10 = 0 then (some (0, M11)) else (some (1, M11)))) else (ob (f_X2_move v1 v2 M5) (fun x12 M13 => some (x12, M13)))))))) else none)
def f_X2_numberOfBeat (v1 : Int32) (v2 : Int32) (M : Mem) : Option (Int32 × Mem) :=
  ob (f_X2_chordAt v1 M) (fun x1 M2 => if x1 < 17 then (if v2 = 0 then (ob (f_X2_splitAt v1 M2) (fun x4 M5 => some (x4, M5))) else (if v2 = 1 then (ob (f_J6_bitCount_0f7a4 (M2 (iCh x1) 10) M2) (fun x6 M7 => some (x6, M7))) else (if v2 = 2 then (ob (f_X2_costs v1 M2) (fun x8 M9 => some (x8, M9))) else (if v2 = 3 then (some (M2 (iCh x1) 9, M2)) else (some (M2 (iCh x1) 10, M2)))))) else none)
def f_X2_shareOfBeat_b112 (v2 : Int32) (b3 : Nat) (M : Mem) : Option (Int32 × Mem) :=
  ob (f_X0_countLeftOut b3 v2 M) (fun x22 M23 => some (x22, M23))
def f_X2_shareOfBeat (v1 : Int32) (v2 : Int32) (M : Mem) : Option (Int32 × Mem) :=
  ob (f_X2_chordAt v1 M) (fun x1 M2 => if x1 < 17 then (if v2 = 0 then (ob (f_X2_costs v1 M2) (fun x4 M5 => some (x4, M5))) else (if v2 = 1 then (f_X2_shareOfBeat_b112 v2 x1 M2) else (if v2 = 2 then (f_X2_shareOfBeat_b112 v2 x1 M2) else (if v2 = 3 then (f_X2_shareOfBeat_b112 v2 x1 M2) else (if v2 = 4 then (ob (f_X2_cutStaves v1 M2) (fun x6 M7 => ob (f_J6_bitCount_0f7a4 x6 M7) (fun x8 M9 => some (x8, M9)))) else (if v2 = 5 then (ob (f_X2_splitAt v1 M2) (fun x10 M11 => ob (f_X0_countRolled x1 x10 M11) (fun x12 M13 => some (x12, M13)))) else (if v2 = 6 then (ob (f_X2_move 0 v1 M2) (fun x14 M15 => ob (f_X2_move 1 v1 M15) (fun x16 M17 => some (x14 + x16, M17)))) else (if v2 = 7 then (ob (f_X2_cutStaves v1 M2) (fun x18 M19 => ob (f_J6_bitCount_0f7a4 ((M2 (iCh x1) 7) &&& (x18 ^^^ (-1))) M19) (fun x20 M21 => some ((M2 (iCh x1) 9) - x20, M21)))) else (f_X2_shareOfBeat_b112 v2 x1 M2))))))))) else none)
def f_X2_numberOfWhole_b4 (v1 : Int32) (k4 : Int32 → Int32 → Mem → Option (Int32 × Mem)) (v2 : Int32) (v3 : Int32) (M : Mem) : Option (Int32 × Mem) :=
  if (M 7 4) ≤ v3 then (some (v2, M)) else (ob (f_X2_shareOfBeat v3 v1 M) (fun x1 M2 => k4 (v2 + x1) (v3 + 1) M2))
def f_X2_numberOfWhole (v1 : Int32) (M : Mem) : Option (Int32 × Mem) :=
  lq2 (f_X2_numberOfWhole_b4 v1) 9999 0 0 M
def f_X3_becomeRests_b12 (q0 : Nat) (k12 : Int32 → Mem → Option (Unit × Mem)) (v3 : Int32) (M : Mem) : Option (Unit × Mem) :=
  if 64 ≤ v3 then (some ((), M)) else (if inb v3 64 then (k12 (v3 + 1) (mw M (iSt q0 + 2) (Int32.toNatClampNeg v3) (-9))) else none)
def f_X3_becomeRests (q0 : Nat) (v1 : Int32) (v2 : Int32) (M : Mem) : Option (Unit × Mem) :=
  lq1 (f_X3_becomeRests_b12 q0) 9999 0 (mw (mw M (iSt q0) 2 v1) (iSt q0) 3 v2)
def f_X3_resetSettings_b2 (q0 : Nat) (k2 : Int32 → Mem → Option (Unit × Mem)) (v1 : Int32) (M : Mem) : Option (Unit × Mem) :=
  if 6 ≤ v1 then (some ((), M)) else (if inb v1 6 then (if inb v1 6 then (k2 (v1 + 1) (mw M (iSt q0 + 1) (Int32.toNatClampNeg v1) (sa_first.getD v1.toNatClampNeg 0))) else none) else none)
def f_X3_resetSettings (q0 : Nat) (M : Mem) : Option (Unit × Mem) :=
  lq1 (f_X3_resetSettings_b2 q0) 9999 0 M
def f_X3_isPitch (v0 : Int32) (M : Mem) : Option (Int32 × Mem) :=
  if v0 < 0 then (some (0, M)) else (if 60 < v0 then (some (0, M)) else (some (1, M)))
def f_X3_allowsSetting (v0 : Int32) (v1 : Int32) (M : Mem) : Option (Int32 × Mem) :=
  ob (f_X3_isSetting v0 M) (fun x1 M2 => if x1 = 0 then (some (0, M2)) else (if inb v0 6 then (if v1 < (sa_least.getD v0.toNatClampNeg 0) then (some (0, M2)) else (if inb v0 6 then (if (sa_most.getD v0.toNatClampNeg 0) < v1 then (some (0, M2)) else (some (1, M2))) else none)) else none))
def f_X3_hasStaff (q0 : Nat) (v1 : Int32) (M : Mem) : Option (Int32 × Mem) :=
  if v1 < 0 then (some (0, M)) else (if (M (iSt q0) 2) ≤ v1 then (some (0, M)) else (some (1, M)))
def f_X3_hasBeat (q0 : Nat) (v1 : Int32) (M : Mem) : Option (Int32 × Mem) :=
  if v1 < 0 then (some (0, M)) else (if (M (iSt q0) 3) ≤ v1 then (some (0, M)) else (some (1, M)))
def f_X3_hasCell (q0 : Nat) (v1 : Int32) (v2 : Int32) (M : Mem) : Option (Int32 × Mem) :=
  ob (f_X3_hasStaff q0 v1 M) (fun x1 M2 => if x1 = 0 then (some (0, M2)) else (ob (f_X3_hasBeat q0 v2 M2) (fun x3 M4 => if x3 = 0 then (some (0, M4)) else (some (1, M4)))))
def f_X3_allowsHold (q0 : Nat) (v1 : Int32) (v2 : Int32) (M : Mem) : Option (Int32 × Mem) :=
  ob (f_X3_written q0 v1 (v2 - 1) M) (fun x1 M2 => if x1 = (-9) then (some (0, M2)) else (some (1, M2)))
def f_X3_allowsMoving_b2 (q0 : Nat) (v1 : Int32) (v2 : Int32) (k2 : Int32 → Mem → Option (Int32 × Mem)) (v3 : Int32) (M : Mem) : Option (Int32 × Mem) :=
  if (M (iSt q0) 3) ≤ v3 then (some (1, M)) else (ob (f_X3_written q0 v1 v3 M) (fun x1 M2 => ob (f_X3_isPitch x1 M2) (fun x3 M4 => if x3 = 0 then (k2 (v3 + 1) M4) else (ob (f_X3_isPitch (x1 + v2) M4) (fun x5 M6 => if x5 = 0 then (some (0, M6)) else (k2 (v3 + 1) M6))))))
def f_X3_allowsMoving (q0 : Nat) (v1 : Int32) (v2 : Int32) (M : Mem) : Option (Int32 × Mem) :=
  lq1 (f_X3_allowsMoving_b2 q0 v1 v2) 9999 0 M
def f_X3_countStruckOf_b4 (q0 : Nat) (v1 : Int32) (k4 : Int32 → Int32 → Mem → Option (Int32 × Mem)) (v2 : Int32) (v3 : Int32) (M : Mem) : Option (Int32 × Mem) :=
  if (M (iSt q0) 3) ≤ v3 then (some (v2, M)) else (ob (f_X3_written q0 v1 v3 M) (fun x1 M2 => ob (f_X3_isPitch x1 M2) (fun x3 M4 => if x3 = 0 then (k4 v2 (v3 + 1) M4) else (k4 (v2 + 1) (v3 + 1) M4))))
def f_X3_countStruckOf (q0 : Nat) (v1 : Int32) (M : Mem) : Option (Int32 × Mem) :=
  lq2 (f_X3_countStruckOf_b4 q0 v1) 9999 0 0 M
def f_X3_countStruck_b4 (q0 : Nat) (k4 : Int32 → Int32 → Mem → Option (Int32 × Mem)) (v1 : Int32) (v2 : Int32) (M : Mem) : Option (Int32 × Mem) :=
  if (M (iSt q0) 2) ≤ v2 then (some (v1, M)) else (ob (f_X3_countStruckOf q0 v2 M) (fun x1 M2 => k4 (v1 + x1) (v2 + 1) M2))
def f_X3_countStruck (q0 : Nat) (M : Mem) : Option (Int32 × Mem) :=
  lq2 (f_X3_countStruck_b4 q0) 9999 0 0 M
def f_X3_countHolds_b14 (q0 : Nat) (v2 : Int32) (k4 : Int32 → Int32 → Mem → Option (Int32 × Mem)) (k14 : Int32 → Int32 → Mem → Option (Int32 × Mem)) (v1 : Int32) (v3 : Int32) (M : Mem) : Option (Int32 × Mem) :=
  if (M (iSt q0) 3) ≤ v3 then (k4 v1 (v2 + 1) M) else (ob (f_X3_written q0 v2 v3 M) (fun x1 M2 => if x1 = 99 then (k14 (v1 + 1) (v3 + 1) M2) else (k14 v1 (v3 + 1) M2)))
def f_X3_countHolds_b4 (q0 : Nat) (k4 : Int32 → Int32 → Mem → Option (Int32 × Mem)) (v1 : Int32) (v2 : Int32) (M : Mem) : Option (Int32 × Mem) :=
  if (M (iSt q0) 2) ≤ v2 then (some (v1, M)) else (lq2 (f_X3_countHolds_b14 q0 v2 k4) 9999 v1 0 M)
def f_X3_countHolds (q0 : Nat) (M : Mem) : Option (Int32 × Mem) :=
  lq2 (f_X3_countHolds_b4 q0) 9999 0 0 M
def f_X3_changeSetting (q0 : Nat) (v1 : Int32) (v2 : Int32) (M : Mem) : Option (Unit × Mem) :=
  ob (f_X3_isSetting v1 M) (fun x1 M2 => if x1 = 0 then (some ((), M2)) else (if inb v1 6 then (some ((), (mw M2 (iSt q0 + 1) (Int32.toNatClampNeg v1) v2))) else none))
def f_X3_put (q0 : Nat) (v1 : Int32) (v2 : Int32) (v3 : Int32) (M : Mem) : Option (Unit × Mem) :=
  ob (f_X3_hasCell q0 v1 v2 M) (fun x1 M2 => if x1 = 0 then (some ((), M2)) else (if inb ((v1 * 16) + v2) 64 then (some ((), (mw M2 (iSt q0 + 2) (Int32.toNatClampNeg ((v1 * 16) + v2)) v3))) else none))
def f_X3_silenceStaff_b2 (q0 : Nat) (v1 : Int32) (k2 : Int32 → Mem → Option (Unit × Mem)) (v2 : Int32) (M : Mem) : Option (Unit × Mem) :=
  if (M (iSt q0) 3) ≤ v2 then (some ((), M)) else (ob (f_X3_put q0 v1 v2 (-9) M) (fun x1 M2 => k2 (v2 + 1) M2))
def f_X3_silenceStaff (q0 : Nat) (v1 : Int32) (M : Mem) : Option (Unit × Mem) :=
  lq1 (f_X3_silenceStaff_b2 q0 v1) 9999 0 M
def f_X3_moveStaff_b42 (q0 : Nat) (v1 : Int32) (M : Mem) : Option (Int32 × Mem) :=
  ob (f_X3_countStruckOf q0 v1 M) (fun x7 M8 => some (x7, M8))
def f_X3_moveStaff_b2 (q0 : Nat) (v1 : Int32) (v2 : Int32) (k2 : Int32 → Mem → Option (Int32 × Mem)) (v3 : Int32) (M : Mem) : Option (Int32 × Mem) :=
  if (M (iSt q0) 3) ≤ v3 then (f_X3_moveStaff_b42 q0 v1 M) else (ob (f_X3_written q0 v1 v3 M) (fun x1 M2 => ob (f_X3_isPitch x1 M2) (fun x3 M4 => if x3 = 0 then (k2 (v3 + 1) M4) else (ob (f_X3_put q0 v1 v3 (x1 + v2) M4) (fun x5 M6 => k2 (v3 + 1) M6)))))
def f_X3_moveStaff (q0 : Nat) (v1 : Int32) (v2 : Int32) (M : Mem) : Option (Int32 × Mem) :=
  lq1 (f_X3_moveStaff_b2 q0 v1 v2) 9999 0 M
def f_X3_swapStaves_b5 (q0 : Nat) (v1 : Int32) (v2 : Int32) (k5 : Int32 → Int32 → Mem → Option (Int32 × Mem)) (v3 : Int32) (v4 : Int32) (M : Mem) : Option (Int32 × Mem) :=
  if (M (iSt q0) 3) ≤ v4 then (some (v3, M)) else (ob (f_X3_written q0 v1 v4 M) (fun x1 M2 => ob (f_X3_written q0 v2 v4 M2) (fun x3 M4 => if x1 = x3 then (k5 v3 (v4 + 1) M4) else (ob (f_X3_put q0 v1 v4 x3 M4) (fun x5 M6 => ob (f_X3_put q0 v2 v4 x1 M6) (fun x7 M8 => k5 (v3 + 1) (v4 + 1) M8))))))
def f_X3_swapStaves (q0 : Nat) (v1 : Int32) (v2 : Int32) (M : Mem) : Option (Int32 × Mem) :=
  lq2 (f_X3_swapStaves_b5 q0 v1 v2) 9999 0 0 M
def f_X3_addStaff (q0 : Nat) (M : Mem) : Option (Unit × Mem) :=
  if 4 ≤ (M (iSt q0) 2) then (some ((), M)) else (ob (f_X3_silenceStaff q0 (((mw M (iSt q0) 2 ((M (iSt q0) 2) + 1)) (iSt q0) 2) - 1) (mw M (iSt q0) 2 ((M (iSt q0) 2) + 1))) (fun x1 M2 => some ((), M2)))
def f_X3_dropStaff (q0 : Nat) (M : Mem) : Option (Unit × Mem) :=
  if (M (iSt q0) 2) ≤ 1 then (some ((), M)) else (some ((), (mw M (iSt q0) 2 ((M (iSt q0) 2) - 1))))
def f_X3_openBeat_b62 (q0 : Nat) (v1 : Int32) (v2 : Int32) (k22 : Int32 → Mem → Option (Unit × Mem)) (M : Mem) : Option (Unit × Mem) :=
  ob (f_X3_put q0 v2 v1 (-9) M) (fun x5 M6 => k22 (v2 + 1) M6)
def f_X3_openBeat_b37 (q0 : Nat) (v1 : Int32) (v2 : Int32) (k22 : Int32 → Mem → Option (Unit × Mem)) (k37 : Int32 → Mem → Option (Unit × Mem)) (v3 : Int32) (M : Mem) : Option (Unit × Mem) :=
  if v3 ≤ v1 then (f_X3_openBeat_b62 q0 v1 v2 k22 M) else (ob (f_X3_written q0 v2 (v3 - 1) M) (fun x1 M2 => ob (f_X3_put q0 v2 v3 x1 M2) (fun x3 M4 => k37 (v3 + (-1)) M4)))
def f_X3_openBeat_b22 (q0 : Nat) (v1 : Int32) (k22 : Int32 → Mem → Option (Unit × Mem)) (v2 : Int32) (M : Mem) : Option (Unit × Mem) :=
  if (M (iSt q0) 2) ≤ v2 then (some ((), M)) else (lq1 (f_X3_openBeat_b37 q0 v1 v2 k22) 9999 ((M (iSt q0) 3) - 1) M)
def f_X3_openBeat (q0 : Nat) (v1 : Int32) (M : Mem) : Option (Unit × Mem) :=
  if (M (iSt q0) 3) < 16 then (lq1 (f_X3_openBeat_b22 q0 v1) 9999 0 (mw M (iSt q0) 3 ((M (iSt q0) 3) + 1))) else (some ((), M))
def f_X3_closeBeat_b21 (q0 : Nat) (v1 : Int32) (v2 : Int32) (k11 : Int32 → Mem → Option (Unit × Mem)) (k21 : Int32 → Mem → Option (Unit × Mem)) (v3 : Int32) (M : Mem) : Option (Unit × Mem) :=
  if ((M (iSt q0) 3) - 1) ≤ v3 then (k11 (v2 + 1) M) else (ob (f_X3_written q0 v2 (v3 + 1) M) (fun x1 M2 => ob (f_X3_put q0 v2 v3 x1 M2) (fun x3 M4 => k21 (v3 + 1) M4)))
def f_X3_closeBeat_b57 (q0 : Nat) (M : Mem) : Option (Unit × Mem) :=
  some ((), (mw M (iSt q0) 3 ((M (iSt q0) 3) - 1)))
def f_X3_closeBeat_b11 (q0 : Nat) (v1 : Int32) (k11 : Int32 → Mem → Option (Unit × Mem)) (v2 : Int32) (M : Mem) : Option (Unit × Mem) :=
  if (M (iSt q0) 2) ≤ v2 then (f_X3_closeBeat_b57 q0 M) else (lq1 (f_X3_closeBeat_b21 q0 v1 v2 k11) 9999 v1 M)
def f_X3_closeBeat (q0 : Nat) (v1 : Int32) (M : Mem) : Option (Unit × Mem) :=
  if 1 < (M (iSt q0) 3) then (lq1 (f_X3_closeBeat_b11 q0 v1) 9999 0 M) else (some ((), M))
def f_X3_dropLooseHolds_b12 (q0 : Nat) (v1 : Int32) (k2 : Int32 → Mem → Option (Unit × Mem)) (k12 : Int32 → Mem → Option (Unit × Mem)) (v2 : Int32) (M : Mem) : Option (Unit × Mem) :=
  if (M (iSt q0) 3) ≤ v2 then (k2 (v1 + 1) M) else (ob (f_X3_written q0 v1 v2 M) (fun x1 M2 => if x1 = 99 then (ob (f_X3_allowsHold q0 v1 v2 M2) (fun x3 M4 => if x3 = 0 then (ob (f_X3_put q0 v1 v2 (-9) M4) (fun x5 M6 => k12 (v2 + 1) M6)) else (k12 (v2 + 1) M4))) else (k12 (v2 + 1) M2)))
def f_X3_dropLooseHolds_b2 (q0 : Nat) (k2 : Int32 → Mem → Option (Unit × Mem)) (v1 : Int32) (M : Mem) : Option (Unit × Mem) :=
  if (M (iSt q0) 2) ≤ v1 then (some ((), M)) else (lq1 (f_X3_dropLooseHolds_b12 q0 v1 k2) 9999 0 M)
def f_X3_dropLooseHolds (q0 : Nat) (M : Mem) : Option (Unit × Mem) :=
  lq1 (f_X3_dropLooseHolds_b2 q0) 9999 0 M
def f_X4_isFull  (M : Mem) : Option (Int32 × Mem) :=
  if (M 1 1) < 140 then (some (0, M)) else (some (1, M))
def f_X4_add (v1 : Int32) (M : Mem) : Option (Int32 × Mem) :=
  ob (f_X4_isFull  M) (fun x1 M2 => if x1 = 0 then (if inb (M2 1 1) 140 then (some ((mw (mw M2 2 (Int32.toNatClampNeg (M2 1 1)) (vp_nar .char v1)) 1 1 (((mw M2 2 (Int32.toNatClampNeg (M2 1 1)) (vp_nar .char v1)) 1 1) + 1)) 1 1, (mw (mw M2 2 (Int32.toNatClampNeg (M2 1 1)) (vp_nar .char v1)) 1 1 (((mw M2 2 (Int32.toNatClampNeg (M2 1 1)) (vp_nar .char v1)) 1 1) + 1)))) else none) else (some (M2 1 1, M2)))
def f_X4_empty  (M : Mem) : Option (Int32 × Mem) :=
  some (M 1 1, (mw M 1 1 0))
def f_X4_signAt (v1 : Int32) (M : Mem) : Option (Int32 × Mem) :=
  if v1 < 0 then (some ((-1), M)) else (if (M 1 1) ≤ v1 then (some ((-1), M)) else (if inb v1 140 then (some (M 2 (Int32.toNatClampNeg v1), M)) else none))
def f_X4_digitAt (v1 : Int32) (M : Mem) : Option (Int32 × Mem) :=
  ob (f_X4_signAt v1 M) (fun x1 M2 => if x1 < 48 then (some ((-1), M2)) else (if 57 < x1 then (some ((-1), M2)) else (some (x1 - 48, M2))))
def f_X4_readCell_b50 (s0 : Int32) (s1 : Int32) (s2 : Int32) (s3 : Nat) (M : Mem) : Option (Int32 × Mem) :=
  ob (f_X3_put s3 s2 s1 s0 M) (fun x13 M14 => some (1, (mw M14 1 2 ((M14 1 2) + 1))))
def f_X4_readCell_b33 (q1 : Nat) (v2 : Int32) (v3 : Int32) (v4 : Int32) (M : Mem) : Option (Int32 × Mem) :=
  if v4 = 45 then (f_X4_readCell_b50 (-9) v3 v2 q1 M) else (f_X4_readCell_b50 99 v3 v2 q1 M)
def f_X4_readCell_b65 (q1 : Nat) (v2 : Int32) (v3 : Int32) (M : Mem) : Option (Int32 × Mem) :=
  ob (f_X4_digitAt (M 1 2) M) (fun x5 M6 => if x5 < 0 then (some (0, M6)) else (if x5 ≤ 6 then (ob (f_X4_digitAt ((mw M6 1 2 ((M6 1 2) + 1)) 1 2) (mw M6 1 2 ((M6 1 2) + 1))) (fun x7 M8 => if x7 = (-1) then (some (0, M8)) else (ob (f_X3_isPitch ((10 * x5) + x7) M8) (fun x9 M10 => if x9 = 0 then (some (0, M10)) else (ob (f_X3_put q1 v2 v3 ((10 * x5) + x7) (mw M10 1 2 ((M10 1 2) + 1))) (fun x11 M12 => some (1, M12))))))) else (some (0, M6))))
def f_X4_readCell (q1 : Nat) (v2 : Int32) (v3 : Int32) (M : Mem) : Option (Int32 × Mem) :=
  ob (f_X4_signAt (M 1 2) M) (fun x1 M2 => if x1 = 45 then (f_X4_readCell_b33 q1 v2 v3 x1 M2) else (if x1 = 61 then (ob (f_X3_allowsHold q1 v2 v3 M2) (fun x3 M4 => if x3 = 0 then (f_X4_readCell_b65 q1 v2 v3 M4) else (f_X4_readCell_b33 q1 v2 v3 x1 M4))) else (f_X4_readCell_b65 q1 v2 v3 M2)))
def f_X4_readInto_b108 (q1 : Nat) (v2 : Int32) (v5 : Int32) (v6 : Int32) (k99 : Int32 → Mem → Option (Int32 × Mem)) (k108 : Int32 → Mem → Option (Int32 × Mem)) (v7 : Int32) (M : Mem) : Option (Int32 × Mem) :=
  if v5 ≤ v7 then (k99 (v6 + 1) M) else (ob (f_X4_readCell q1 v6 v7 M) (fun x11 M12 => if x11 = 0 then (some (M12 1 2, M12)) else (k108 (v7 + 1) M12)))
def f_X4_readInto_b144  (M : Mem) : Option (Int32 × Mem) :=
  if (M 1 2) = (M 1 1) then (some ((-9), M)) else (some (M 1 2, M))
def f_X4_readInto_b99 (q1 : Nat) (v2 : Int32) (v5 : Int32) (k99 : Int32 → Mem → Option (Int32 × Mem)) (v6 : Int32) (M : Mem) : Option (Int32 × Mem) :=
  if v2 ≤ v6 then (f_X4_readInto_b144  M) else (lq1 (f_X4_readInto_b108 q1 v2 v5 v6 k99) 9999 0 M)
def f_X4_readInto (q1 : Nat) (M : Mem) : Option (Int32 × Mem) :=
  ob (f_X4_signAt 0 M) (fun x1 M2 => if x1 = 77 then (ob (f_X4_digitAt 1 M2) (fun x3 M4 => if x3 < 1 then (some (1, M4)) else (if x3 ≤ 4 then (ob (f_X4_digitAt 2 M4) (fun x5 M6 => if x5 < 0 then (some (2, M6)) else (if x5 ≤ 1 then (ob (f_X4_digitAt 3 M6) (fun x7 M8 => if x7 = (-1) then (some (3, M8)) else (if ((10 * x5) + x7) < 1 then (some (3, M8)) else (if ((10 * x5) + x7) ≤ 16 then (ob (f_X3_becomeRests q1 x3 ((10 * x5) + x7) M8) (fun x9 M10 => lq1 (f_X4_readInto_b99 q1 x3 ((10 * x5) + x7)) 9999 0 (mw M10 1 2 4))) else (some (3, M8)))))) else (some (2, M6))))) else (some (1, M4))))) else (some (0, M2)))
def f_X5_append (v1 : Int32) (M : Mem) : Option (Except Nat Int32 × Mem) :=
  if v1 < 0 then (some (.error 0, M)) else (if v1 ≤ 255 then (ob (f_X4_isFull  M) (fun x1 M2 => if x1 = 0 then (ob (f_X4_add ((Int32.toUInt32 v1 % 65536).toInt32) M2) (fun x3 M4 => some (.ok x3, M4))) else (some (.error 1, M2)))) else (some (.error 0, M)))
def f_X5_clearText  (M : Mem) : Option (Int32 × Mem) :=
  ob (f_X4_empty  M) (fun x1 M2 => some (x1, M2))
def f_X5_errorPosition  (M : Mem) : Option (Int32 × Mem) :=
  ob (f_X4_readInto 1 M) (fun x1 M2 => some (x1, M2))
def f_X5_load_b51 (k51 : Int32 → Mem → Option (Except Nat Int32 × Mem)) (v1 : Int32) (M : Mem) : Option (Except Nat Int32 × Mem) :=
  if 2 ≤ v1 then (some (.ok (M (iSt 0) 3), M)) else (if inb v1 2 then (k51 (v1 + 1) (mw M 6 (Int32.toNatClampNeg v1) (vp_nar .boolean 0))) else none)
def f_X5_load  (M : Mem) : Option (Except Nat Int32 × Mem) :=
  ob (f_X4_readInto 1 M) (fun x1 M2 => if x1 = (-9) then (ob (f_X3_resetSettings 1 M2) (fun x3 M4 => ob (f_X3_takeFrom 0 1 M4) (fun x5 M6 => ob (f_X1_forget  M6) (fun x7 M8 => lq1 (f_X5_load_b51 ) 9999 0 M8)))) else (some (.error 1, M2)))
def f_X5_about_b19 (v1 : Int32) (M : Mem) : Option (Except Nat Int32 × Mem) :=
  if v1 = 6 then (some (.ok (M (iSt 0) 2), M)) else (if v1 = 7 then (some (.ok (M (iSt 0) 3), M)) else (if v1 = 8 then (ob (f_X3_countStruck 0 M) (fun x3 M4 => some (.ok x3, M4))) else (if v1 = 9 then (ob (f_X3_countHolds 0 M) (fun x5 M6 => some (.ok x5, M6))) else (some (.error 0, M)))))
def f_X5_about (v1 : Int32) (M : Mem) : Option (Except Nat Int32 × Mem) :=
  if v1 < 0 then (f_X5_about_b19 v1 M) else (if 6 ≤ v1 then (f_X5_about_b19 v1 M) else (ob (f_X3_settingAt 0 v1 M) (fun x1 M2 => some (.ok x1, M2))))
def f_X5_requireBeat (v1 : Int32) (M : Mem) : Option (Except Nat Unit × Mem) :=
  ob (f_X3_hasBeat 0 v1 M) (fun x1 M2 => if x1 = 0 then (some (.error 2, M2)) else (some (.ok (), M2)))
def f_X5_requireStaff (v1 : Int32) (M : Mem) : Option (Except Nat Unit × Mem) :=
  ob (f_X3_hasStaff 0 v1 M) (fun x1 M2 => if x1 = 0 then (some (.error 2, M2)) else (some (.ok (), M2)))
def f_X5_requireCell (v1 : Int32) (v2 : Int32) (M : Mem) : Option (Except Nat Unit × Mem) :=
  oe (f_X5_requireStaff v1 M) (fun x1 M2 => oe (f_X5_requireBeat v2 M2) (fun x3 M4 => some (.ok (), M4)))
def f_X5_cell (v1 : Int32) (v2 : Int32) (v3 : Int32) (M : Mem) : Option (Except Nat Int32 × Mem) :=
  oe (f_X5_requireCell v1 v2 M) (fun x1 M2 => if v3 = 0 then (ob (f_X3_written 0 v1 v2 M2) (fun x3 M4 => some (.ok x3, M4))) else (ob (f_X3_sounding 0 v1 v2 M2) (fun x5 M6 => some (.ok x5, M6))))
def f_X5_set (v1 : Int32) (v2 : Int32) (M : Mem) : Option (Except Nat Int32 × Mem) :=
  ob (f_X3_allowsSetting v1 v2 M) (fun x1 M2 => if x1 = 0 then (some (.error 0, M2)) else (ob (f_X1_remember 0 M2) (fun x3 M4 => ob (f_X3_settingAt 0 v1 M4) (fun x5 M6 => ob (f_X3_changeSetting 0 v1 v2 M6) (fun x7 M8 => some (.ok x5, M8))))))
def f_X5_write_b97 (v4 : Int32) (s0 : Int32) (s1 : Int32) (s2 : Int32) (s3 : Nat) (M : Mem) : Option (Except Nat Int32 × Mem) :=
  ob (f_X3_put s3 s2 s1 s0 M) (fun x11 M12 => ob (f_X3_dropLooseHolds 0 M12) (fun x13 M14 => some (.ok v4, M14)))
def f_X5_write_b58 (v1 : Int32) (v2 : Int32) (v3 : Int32) (M : Mem) : Option (Except Nat Int32 × Mem) :=
  ob (f_X1_remember 0 M) (fun x7 M8 => ob (f_X3_written 0 v1 v2 M8) (fun x9 M10 => if v3 = (-1) then (f_X5_write_b97 x9 (-9) v2 v1 0 M10) else (f_X5_write_b97 x9 v3 v2 v1 0 M10)))
def f_X5_write_b32 (v1 : Int32) (v2 : Int32) (v3 : Int32) (M : Mem) : Option (Except Nat Int32 × Mem) :=
  if v3 = 99 then (ob (f_X3_allowsHold 0 v1 v2 M) (fun x5 M6 => if x5 = 0 then (some (.error 1, M6)) else (f_X5_write_b58 v1 v2 v3 M6))) else (f_X5_write_b58 v1 v2 v3 M)
def f_X5_write (v1 : Int32) (v2 : Int32) (v3 : Int32) (M : Mem) : Option (Except Nat Int32 × Mem) :=
  oe (f_X5_requireCell v1 v2 M) (fun x1 M2 => if v3 = (-1) then (f_X5_write_b32 v1 v2 v3 M2) else (if v3 = 99 then (f_X5_write_b32 v1 v2 v3 M2) else (ob (f_X3_isPitch v3 M2) (fun x3 M4 => if x3 = 0 then (some (.error 0, M4)) else (f_X5_write_b32 v1 v2 v3 M4)))))
def f_X5_transpose (v1 : Int32) (v2 : Int32) (M : Mem) : Option (Except Nat Int32 × Mem) :=
  oe (f_X5_requireStaff v1 M) (fun x1 M2 => if v2 < (-60) then (some (.error 0, M2)) else (if v2 ≤ 60 then (ob (f_X3_allowsMoving 0 v1 v2 M2) (fun x3 M4 => if x3 = 0 then (some (.error 1, M4)) else (ob (f_X1_remember 0 M4) (fun x5 M6 => ob (f_X3_moveStaff 0 v1 v2 M6) (fun x7 M8 => some (.ok x7, M8)))))) else (some (.error 0, M2))))
def f_X5_exchange (v1 : Int32) (v2 : Int32) (M : Mem) : Option (Except Nat Int32 × Mem) :=
  oe (f_X5_requireStaff v1 M) (fun x1 M2 => oe (f_X5_requireStaff v2 M2) (fun x3 M4 => ob (f_X1_remember 0 M4) (fun x5 M6 => ob (f_X3_swapStaves 0 v1 v2 M6) (fun x7 M8 => some (.ok x7, M8)))))
def f_X5_staff_b37 (v1 : Int32) (M : Mem) : Option (Except Nat Int32 × Mem) :=
  ob (f_X1_remember 0 M) (fun x1 M2 => if v1 = 0 then (ob (f_X3_dropStaff 0 M2) (fun x3 M4 => some (.ok (M4 (iSt 0) 2), M4))) else (ob (f_X3_addStaff 0 M2) (fun x5 M6 => some (.ok (M6 (iSt 0) 2), M6))))
def f_X5_staff (v1 : Int32) (M : Mem) : Option (Except Nat Int32 × Mem) :=
  if v1 = 0 then (if 1 < (M (iSt 0) 2) then (f_X5_staff_b37 v1 M) else (some (.error 1, M))) else (if (M (iSt 0) 2) < 4 then (f_X5_staff_b37 v1 M) else (some (.error 1, M)))
def f_X5_insertBeat (v1 : Int32) (M : Mem) : Option (Except Nat Int32 × Mem) :=
  if v1 < 0 then (some (.error 2, M)) else (if v1 ≤ (M (iSt 0) 3) then (if (M (iSt 0) 3) < 16 then (ob (f_X1_remember 0 M) (fun x1 M2 => ob (f_X3_openBeat 0 v1 M2) (fun x3 M4 => ob (f_X3_dropLooseHolds 0 M4) (fun x5 M6 => some (.ok (M6 (iSt 0) 3), M6))))) else (some (.error 1, M))) else (some (.error 2, M)))
def f_X5_removeBeat (v1 : Int32) (M : Mem) : Option (Except Nat Int32 × Mem) :=
  oe (f_X5_requireBeat v1 M) (fun x1 M2 => if 1 < (M2 (iSt 0) 3) then (ob (f_X1_remember 0 M2) (fun x3 M4 => ob (f_X3_closeBeat 0 v1 M4) (fun x5 M6 => ob (f_X3_dropLooseHolds 0 M6) (fun x7 M8 => some (.ok (M8 (iSt 0) 3), M8))))) else (some (.error 1, M2)))
def f_X5_undo  (M : Mem) : Option (Except Nat Int32 × Mem) :=
  ob (f_X1_isEmpty  M) (fun x1 M2 => if x1 = 0 then (ob (f_X1_takeBack 0 M2) (fun x3 M4 => some (.ok x3, M4))) else (some (.error 1, M2)))
def f_X5_requireUpTo (v0 : Int32) (v1 : Int32) (M : Mem) : Option (Except Nat Unit × Mem) :=
  if v1 < 0 then (some (.error 0, M)) else (if v1 ≤ v0 then (some (.ok (), M)) else (some (.error 0, M)))
def f_X5_note (v1 : Int32) (v2 : Int32) (v3 : Int32) (M : Mem) : Option (Except Nat Int32 × Mem) :=
  oe (f_X5_requireCell v1 v2 M) (fun x1 M2 => oe (f_X5_requireUpTo 3 v3 M2) (fun x3 M4 => ob (f_X2_make 0 M4) (fun x5 M6 => ob (f_X2_numberOfNote v1 v2 v3 M6) (fun x7 M8 => some (.ok x7, M8)))))
def f_X5_hand (v1 : Int32) (v2 : Int32) (v3 : Int32) (M : Mem) : Option (Except Nat Int32 × Mem) :=
  if v1 < 0 then (some (.error 2, M)) else (if v1 < 2 then (oe (f_X5_requireBeat v2 M) (fun x1 M2 => oe (f_X5_requireUpTo 4 v3 M2) (fun x3 M4 => ob (f_X2_make 0 M4) (fun x5 M6 => ob (f_X2_numberOfHand v1 v2 v3 M6) (fun x7 M8 => some (.ok x7, M8)))))) else (some (.error 2, M)))
def f_X5_beat (v1 : Int32) (v2 : Int32) (M : Mem) : Option (Except Nat Int32 × Mem) :=
  oe (f_X5_requireBeat v1 M) (fun x1 M2 => oe (f_X5_requireUpTo 4 v2 M2) (fun x3 M4 => ob (f_X2_make 0 M4) (fun x5 M6 => ob (f_X2_numberOfBeat v1 v2 M6) (fun x7 M8 => some (.ok x7, M8)))))
def f_X5_whole (v1 : Int32) (M : Mem) : Option (Except Nat Int32 × Mem) :=
  oe (f_X5_requireUpTo 7 v1 M) (fun x1 M2 => ob (f_X2_make 0 M2) (fun x3 M4 => ob (f_X2_numberOfWhole v1 M4) (fun x5 M6 => some (.ok x5, M6))))
def f_X5_numberOfTrial (v1 : Int32) (M : Mem) : Option (Int32 × Mem) :=
  ob (f_X2_make 1 M) (fun x1 M2 => ob (f_X2_numberOfWhole v1 M2) (fun x3 M4 => some (x3, M4)))
def f_X5_whatIf (v1 : Int32) (v2 : Int32) (v3 : Int32) (M : Mem) : Option (Except Nat Int32 × Mem) :=
  ob (f_X3_allowsSetting v1 v2 M) (fun x1 M2 => if x1 = 0 then (some (.error 0, M2)) else (oe (f_X5_requireUpTo 7 v3 M2) (fun x3 M4 => ob (f_X3_takeFrom 1 0 M4) (fun x5 M6 => ob (f_X3_changeSetting 1 v1 v2 M6) (fun x7 M8 => ob (f_X5_numberOfTrial v3 M8) (fun x9 M10 => some (.ok x9, M10)))))))
def f_X5_smallestSpan_b41 (v1 : Int32) (k13 : Int32 → Mem → Option (Int32 × Mem)) (M : Mem) : Option (Int32 × Mem) :=
  ob (f_X5_numberOfTrial 3 M) (fun x5 M6 => if x5 = 0 then (some (v1, M6)) else (k13 (v1 + 1) M6))
def f_X5_smallestSpan_b21 (v1 : Int32) (k13 : Int32 → Mem → Option (Int32 × Mem)) (k21 : Int32 → Mem → Option (Int32 × Mem)) (v2 : Int32) (M : Mem) : Option (Int32 × Mem) :=
  if 2 ≤ v2 then (f_X5_smallestSpan_b41 v1 k13 M) else (ob (f_X3_changeSetting 1 v2 v1 M) (fun x3 M4 => k21 (v2 + 1) M4))
def f_X5_smallestSpan_b13 (k13 : Int32 → Mem → Option (Int32 × Mem)) (v1 : Int32) (M : Mem) : Option (Int32 × Mem) :=
  if 24 < v1 then (some ((-9), M)) else (lq1 (f_X5_smallestSpan_b21 v1 k13) 9999 0 M)
def f_X5_smallestSpan  (M : Mem) : Option (Int32 × Mem) :=
  ob (f_X3_takeFrom 1 0 M) (fun x1 M2 => lq1 (f_X5_smallestSpan_b13 ) 9999 1 M2)
def f_X5_dearest_b7 (k7 : Int32 → Int32 → Int32 → Mem → Option (Int32 × Mem)) (v1 : Int32) (v2 : Int32) (v3 : Int32) (M : Mem) : Option (Int32 × Mem) :=
  if (M (iSt 0) 2) ≤ v3 then (some (v1, M)) else (ob (f_X3_takeFrom 1 0 M) (fun x1 M2 => ob (f_X3_silenceStaff 1 v3 M2) (fun x3 M4 => ob (f_X5_numberOfTrial 0 M4) (fun x5 M6 => if v2 ≤ x5 then (k7 v1 v2 (v3 + 1) M6) else (k7 v3 x5 (v3 + 1) M6)))))
def f_X5_dearest  (M : Mem) : Option (Int32 × Mem) :=
  lq3 (f_X5_dearest_b7 ) 9999 0 1000000 0 M
def f_X5_bestTransposition_b42 (v1 : Int32) (v2 : Int32) (v3 : Int32) (v4 : Int32) (k13 : Int32 → Int32 → Int32 → Mem → Option (Except Nat Int32 × Mem)) (s0 : Int32) (M : Mem) : Option (Except Nat Int32 × Mem) :=
  ob (f_X3_allowsMoving 0 v1 s0 M) (fun x3 M4 => if x3 = 0 then (k13 v2 v3 (v4 + 1) M4) else (ob (f_X3_takeFrom 1 0 M4) (fun x5 M6 => ob (f_X3_moveStaff 1 v1 s0 M6) (fun x7 M8 => ob (f_X5_numberOfTrial 0 M8) (fun x9 M10 => if v3 ≤ x9 then (k13 v2 v3 (v4 + 1) M10) else (k13 s0 x9 (v4 + 1) M10))))))
def f_X5_bestTransposition_b13 (v1 : Int32) (k13 : Int32 → Int32 → Int32 → Mem → Option (Except Nat Int32 × Mem)) (v2 : Int32) (v3 : Int32) (v4 : Int32) (M : Mem) : Option (Except Nat Int32 × Mem) :=
  if 120 < v4 then (some (.ok v2, M)) else (if (v4 - v4 / 2 * 2) = 1 then (f_X5_bestTransposition_b42 v1 v2 v3 v4 k13 ((v4 + 1) / 2) M) else (f_X5_bestTransposition_b42 v1 v2 v3 v4 k13 (-(v4 / 2)) M))
def f_X5_bestTransposition (v1 : Int32) (M : Mem) : Option (Except Nat Int32 × Mem) :=
  oe (f_X5_requireStaff v1 M) (fun x1 M2 => lq3 (f_X5_bestTransposition_b13 v1) 9999 0 1000000 0 M2)
def f_X5_groupFromEnd_b5 (v2 : Int32) (k5 : Int64 → Int32 → Mem → Option (Int64 × Mem)) (w3 : Int64) (v5 : Int32) (M : Mem) : Option (Int64 × Mem) :=
  if v2 ≤ v5 then (some (w3, M)) else (k5 (w3 / 100000) (v5 + 1) M)
def f_X5_groupFromEnd (w0 : Int64) (v2 : Int32) (M : Mem) : Option (Int64 × Mem) :=
  lq2 (f_X5_groupFromEnd_b5 v2) 9999 w0 0 M
def f_X5_triedCell (v1 : Int32) (v2 : Int32) (v3 : Int32) (M : Mem) : Option (Int32 × Mem) :=
  ob (f_X3_hasCell 1 v1 v2 M) (fun x1 M2 => if x1 = 0 then (some (0, M2)) else (ob (f_X3_put 1 v1 v2 v3 M2) (fun x3 M4 => ob (f_X3_dropLooseHolds 1 M4) (fun x5 M6 => some (1, M6)))))
def f_X5_triedExchange (v1 : Int32) (v2 : Int32) (M : Mem) : Option (Int32 × Mem) :=
  ob (f_X3_hasStaff 1 v1 M) (fun x1 M2 => if x1 = 0 then (some (0, M2)) else (ob (f_X3_hasStaff 1 v2 M2) (fun x3 M4 => if x3 = 0 then (some (0, M4)) else (ob (f_X3_swapStaves 1 v1 v2 M4) (fun x5 M6 => some (1, M6))))))
def f_X5_triedRemoval (v1 : Int32) (M : Mem) : Option (Int32 × Mem) :=
  ob (f_X3_hasBeat 1 v1 M) (fun x1 M2 => if x1 = 0 then (some (0, M2)) else (if 1 < (M2 (iSt 1) 3) then (ob (f_X3_closeBeat 1 v1 M2) (fun x3 M4 => ob (f_X3_dropLooseHolds 1 M4) (fun x5 M6 => some (1, M6)))) else (some (0, M2))))
def f_X5_triedSetting (v1 : Int32) (v2 : Int32) (M : Mem) : Option (Int32 × Mem) :=
  ob (f_X3_allowsSetting v1 v2 M) (fun x1 M2 => if x1 = 0 then (some (0, M2)) else (ob (f_X3_changeSetting 1 v1 v2 M2) (fun x3 M4 => some (1, M4))))
def f_X5_succeeds (v1 : Int32) (M : Mem) : Option (Int32 × Mem) :=
  if (v1 / 10000) = 1 then (if ((v1 / 100) - (v1 / 100) / 10 * 10) = 0 then (ob (f_X5_triedSetting ((v1 / 1000) - (v1 / 1000) / 10 * 10) (v1 - v1 / 100 * 100) M) (fun x1 M2 => if x1 = 0 then (some (0, M2)) else (some (1, M2)))) else (some (0, M))) else (if (v1 / 10000) = 2 then (ob (f_X3_isPitch (v1 - v1 / 100 * 100) M) (fun x3 M4 => if x3 = 0 then (some (0, M4)) else (ob (f_X5_triedCell ((v1 / 1000) - (v1 / 1000) / 10 * 10) ((v1 / 100) - (v1 / 100) / 10 * 10) (v1 - v1 / 100 * 100) M4) (fun x5 M6 => if x5 = 0 then (some (0, M6)) else (some (1, M6)))))) else (if (v1 / 10000) = 3 then (if (v1 - v1 / 100 * 100) = 0 then (ob (f_X5_triedCell ((v1 / 1000) - (v1 / 1000) / 10 * 10) ((v1 / 100) - (v1 / 100) / 10 * 10) (-9) M) (fun x7 M8 => if x7 = 0 then (some (0, M8)) else (some (1, M8)))) else (some (0, M))) else (if (v1 / 10000) = 4 then (if (v1 - v1 / 100 * 100) = 0 then (ob (f_X3_allowsHold 1 ((v1 / 1000) - (v1 / 1000) / 10 * 10) ((v1 / 100) - (v1 / 100) / 10 * 10) M) (fun x9 M10 => if x9 = 0 then (some (0, M10)) else (ob (f_X5_triedCell ((v1 / 1000) - (v1 / 1000) / 10 * 10) ((v1 / 100) - (v1 / 100) / 10 * 10) 99 M10) (fun x11 M12 => if x11 = 0 then (some (0, M12)) else (some (1, M12)))))) else (some (0, M))) else (if (v1 / 10000) = 5 then (if ((v1 / 1000) - (v1 / 1000) / 10 * 10) = 0 then (if (v1 - v1 / 10 * 10) = 0 then (ob (f_X5_triedExchange ((v1 / 100) - (v1 / 100) / 10 * 10) ((v1 / 10) - (v1 / 10) / 10 * 10) M) (fun x13 M14 => if x13 = 0 then (some (0, M14)) else (some (1, M14)))) else (some (0, M))) else (some (0, M))) else (if (v1 / 10000) = 6 then (if (v1 - v1 / 100 * 100) = 0 then (ob (f_X5_triedRemoval ((10 * ((v1 / 1000) - (v1 / 1000) / 10 * 10)) + ((v1 / 100) - (v1 / 100) / 10 * 10)) M) (fun x15 M16 => if x15 = 0 then (some (0, M16)) else (some (1, M16)))) else (some (0, M))) else (if (v1 / 10000) = 7 then (if 7 < ((v1 / 1000) - (v1 / 1000) / 10 * 10) then (some (0, M)) else (ob (f_X2_numberOfWhole ((v1 / 1000) - (v1 / 1000) / 10 * 10) M) (fun x17 M18 => if x17 = (v1 - v1 / 1000 * 1000) then (some (1, M18)) else (some (0, M18))))) else (if (v1 / 10000) = 8 then (if ((v1 / 10) - (v1 / 10) / 10 * 10) = 0 then (ob (f_X3_hasCell 1 ((v1 / 1000) - (v1 / 1000) / 10 * 10) ((v1 / 100) - (v1 / 100) / 10 * 10) M) (fun x19 M20 => if x19 = 0 then (some (0, M20)) else (ob (f_X2_numberOfNote ((v1 / 1000) - (v1 / 1000) / 10 * 10) ((v1 / 100) - (v1 / 100) / 10 * 10) 0 M20) (fun x21 M22 => if x21 = (v1 - v1 / 10 * 10) then (some (1, M22)) else (some (0, M22)))))) else (some (0, M))) else (if (v1 / 10000) = 9 then (if ((v1 / 10) - (v1 / 10) / 10 * 10) = 0 then (ob (f_X3_hasCell 1 ((v1 / 1000) - (v1 / 1000) / 10 * 10) ((v1 / 100) - (v1 / 100) / 10 * 10) M) (fun x23 M24 => if x23 = 0 then (some (0, M24)) else (ob (f_X2_numberOfNote ((v1 / 1000) - (v1 / 1000) / 10 * 10) ((v1 / 100) - (v1 / 100) / 10 * 10) 1 M24) (fun x25 M26 => if x25 = (v1 - v1 / 10 * 10) then (some (1, M26)) else (some (0, M26)))))) else (some (0, M))) else (some (0, M))))))))))
def f_X5_runScript_b48 (v1 : Int32) (w2 : Int64) (k48 : Int32 → Mem → Option (Except Nat Int32 × Mem)) (v4 : Int32) (M : Mem) : Option (Except Nat Int32 × Mem) :=
  if v1 ≤ v4 then (some (.ok (-9), M)) else (ob (f_X2_make 1 M) (fun x5 M6 => ob (f_X5_groupFromEnd w2 ((v1 - 1) - v4) M6) (fun x7 M8 => ob (f_X5_succeeds (Int64.toInt32 (x7 - x7 / 100000 * 100000)) M8) (fun x9 M10 => if x9 = 0 then (some (.ok v4, M10)) else (k48 (v4 + 1) M10)))))
def f_X5_runScript (v1 : Int32) (w2 : Int64) (M : Mem) : Option (Except Nat Int32 × Mem) :=
  if v1 < 1 then (some (.error 0, M)) else (if 3 < v1 then (some (.error 0, M)) else (if (lg_cmp w2 0) < 0 then (some (.error 0, M)) else (ob (f_X5_groupFromEnd w2 v1 M) (fun x1 M2 => if (lg_cmp x1 0) = 0 then (ob (f_X3_takeFrom 1 0 M2) (fun x3 M4 => lq1 (f_X5_runScript_b48 v1 w2) 9999 0 M4)) else (some (.error 0, M2))))))
def f_X5_simulateRound (v1 : Int32) (M : Mem) : Option (Unit × Mem) :=
  if (M (iSt 1) 2) < 1 then (some ((), M)) else (if 1 ≤ (M (iSt 1) 3) then (if ¬ (M (iSt 1) 2) = 0 then (if ¬ (M (iSt 1) 3) = 0 then (ob (f_X3_isPitch ((v1 / 64) - (v1 / 64) / 64 * 64) M) (fun x1 M2 => if x1 = 0 then (if ((v1 / 64) - (v1 / 64) / 64 * 64) = 61 then (ob (f_X5_triedCell (v1 - v1 / (M (iSt 1) 2) * (M (iSt 1) 2)) ((v1 / 4) - (v1 / 4) / (M (iSt 1) 3) * (M (iSt 1) 3)) (-9) M2) (fun x7 M8 => some ((), M8))) else (ob (f_X3_allowsHold 1 (v1 - v1 / (M (iSt 1) 2) * (M (iSt 1) 2)) ((v1 / 4) - (v1 / 4) / (M (iSt 1) 3) * (M (iSt 1) 3)) M2) (fun x3 M4 => if x3 = 0 then (some ((), M4)) else (ob (f_X5_triedCell (v1 - v1 / (M (iSt 1) 2) * (M (iSt 1) 2)) ((v1 / 4) - (v1 / 4) / (M (iSt 1) 3) * (M (iSt 1) 3)) 99 M4) (fun x5 M6 => some ((), M6)))))) else (ob (f_X5_triedCell (v1 - v1 / (M (iSt 1) 2) * (M (iSt 1) 2)) ((v1 / 4) - (v1 / 4) / (M (iSt 1) 3) * (M (iSt 1) 3)) ((v1 / 64) - (v1 / 64) / 64 * 64) M2) (fun x9 M10 => some ((), M10))))) else none) else none) else (some ((), M)))
def f_X5_simulate_b113 (v6 : Int32) (M : Mem) : Option (Except Nat Int32 × Mem) :=
  ob (f_X2_numberOfWhole 0 M) (fun x9 M10 => some (.ok (x9 + (1000 * v6)), M10))
def f_X5_simulate_b87 (k87 : Int32 → Int32 → Mem → Option (Except Nat Int32 × Mem)) (v6 : Int32) (v7 : Int32) (M : Mem) : Option (Except Nat Int32 × Mem) :=
  if 3 < v7 then (f_X5_simulate_b113 v6 M) else (ob (f_X2_numberOfWhole v7 M) (fun x7 M8 => k87 (v6 + x7) (v7 + 1) M8))
def f_X5_simulate_b70  (M : Mem) : Option (Except Nat Int32 × Mem) :=
  ob (f_X2_make 1 M) (fun x5 M6 => lq2 (f_X5_simulate_b87 ) 9999 0 1 M6)
def f_X5_simulate_b36 (v3 : Int32) (k36 : Int64 → Int32 → Mem → Option (Except Nat Int32 × Mem)) (w4 : Int64) (v6 : Int32) (M : Mem) : Option (Except Nat Int32 × Mem) :=
  if v3 ≤ v6 then (f_X5_simulate_b70  M) else (ob (f_X5_simulateRound (Int64.toInt32 ((Int64.toUInt64 ((w4 * 6364136223846793005) + 1442695040888963407) >>> ((Int32.toInt64 33).toUInt64 &&& Int64.toUInt64 63)).toInt64)) M) (fun x3 M4 => k36 ((w4 * 6364136223846793005) + 1442695040888963407) (v6 + 1) M4))
def f_X5_simulate (w1 : Int64) (v3 : Int32) (M : Mem) : Option (Except Nat Int32 × Mem) :=
  if v3 < 1 then (some (.error 0, M)) else (if v3 ≤ 40 then (ob (f_X3_takeFrom 1 0 M) (fun x1 M2 => lq2 (f_X5_simulate_b36 v3) 9999 w1 0 M2)) else (some (.error 0, M)))
def f_X5_requireSlot (v0 : Int32) (M : Mem) : Option (Except Nat Unit × Mem) :=
  if v0 < 0 then (some (.error 2, M)) else (if v0 < 2 then (some (.ok (), M)) else (some (.error 2, M)))
def f_X5_save (v1 : Int32) (M : Mem) : Option (Except Nat Int32 × Mem) :=
  oe (f_X5_requireSlot v1 M) (fun x1 M2 => if inb v1 2 then (ob (f_X3_takeFrom (2 + Int32.toNatClampNeg v1) 0 M2) (fun x4 M5 => if inb v1 2 then (some (.ok ((mw M5 6 (Int32.toNatClampNeg v1) (vp_nar .boolean 1)) (iSt 0) 3), (mw M5 6 (Int32.toNatClampNeg v1) (vp_nar .boolean 1)))) else none)) else none)
def f_X5_restore (v1 : Int32) (M : Mem) : Option (Except Nat Int32 × Mem) :=
  oe (f_X5_requireSlot v1 M) (fun x1 M2 => if inb v1 2 then (if (M2 6 (Int32.toNatClampNeg v1)) = 0 then (some (.error 1, M2)) else (if inb v1 2 then (ob (f_X3_takeFrom 0 (2 + Int32.toNatClampNeg v1) M2) (fun x4 M5 => ob (f_X1_forget  M5) (fun x6 M7 => some (.ok (M7 (iSt 0) 3), M7)))) else none)) else none)
def f_X6_thrown  (M : Mem) : Option (Int32 × Mem) :=
  some (M 27 0, M)
def f_X6_refused (v1 : Int32) (M : Mem) : Option (Int32 × Mem) :=
  if v1 ≤ 0 then (some (0, (mw M 27 0 v1))) else (some (1, (mw M 27 0 v1)))
def f_X6_in (w0 : Int64) (w2 : Int64) (w4 : Int64) (M : Mem) : Option (Int32 × Mem) :=
  if (lg_cmp w0 w2) < 0 then (some (0, M)) else (if 0 < (lg_cmp w0 w4) then (some (0, M)) else (some (1, M)))
def f_X6_copyPage_b3 (r0 : Nat) (v1 : Int32) (r2 : Nat) (v3 : Int32) (k3 : Int32 → Mem → Option (Unit × Mem)) (v4 : Int32) (M : Mem) : Option (Unit × Mem) :=
  if 72 ≤ v4 then (some ((), M)) else (if inb (v1 + v4) (lnA r0) then (if inb (v3 + v4) (lnA r2) then (k3 (v4 + 1) (mw M r2 (Int32.toNatClampNeg (v3 + v4)) (M r0 (Int32.toNatClampNeg (v1 + v4))))) else none) else none)
def f_X6_copyPage (r0 : Nat) (v1 : Int32) (r2 : Nat) (v3 : Int32) (M : Mem) : Option (Unit × Mem) :=
  lq1 (f_X6_copyPage_b3 r0 v1 r2 v3) 9999 0 M
def f_X6_begin_b29 (r0 : Nat) (k29 : Int32 → Mem → Option (Unit × Mem)) (v1 : Int32) (M : Mem) : Option (Unit × Mem) :=
  if 72 ≤ v1 then (some ((), M)) else (if inb v1 (lnA r0) then (k29 (v1 + 1) (mw M r0 (Int32.toNatClampNeg v1) (-9))) else none)
def f_X6_begin (r0 : Nat) (M : Mem) : Option (Unit × Mem) :=
  if inb 0 (lnA r0) then (if inb 1 (lnA r0) then (if inb 2 (lnA r0) then (if inb 3 (lnA r0) then (if inb 4 (lnA r0) then (if inb 5 (lnA r0) then (lq1 (f_X6_begin_b29 r0) 9999 8 (mw (mw (mw (mw (mw (mw M r0 (Int32.toNatClampNeg 0) 12) r0 (Int32.toNatClampNeg 1) 12) r0 (Int32.toNatClampNeg 2) 5) r0 (Int32.toNatClampNeg 3) 3) r0 (Int32.toNatClampNeg 4) 1) r0 (Int32.toNatClampNeg 5) 0)) else none) else none) else none) else none) else none) else none
def f_X6_at (v0 : Int32) (v1 : Int32) (M : Mem) : Option (Int32 × Mem) :=
  some ((16 * v0) + v1, M)
def f_X6_isSetting_b41 (v0 : Int32) (v1 : Int32) (v2 : Int32) (s0 : Int32) (M : Mem) : Option (Int32 × Mem) :=
  ob (f_X6_in (Int32.toInt64 v0) 0 5 M) (fun x1 M2 => if x1 = 0 then (some (0, M2)) else (ob (f_X6_in (Int32.toInt64 v1) (Int32.toInt64 v2) (Int32.toInt64 s0) M2) (fun x3 M4 => if x3 = 0 then (some (0, M4)) else (some (1, M4)))))
def f_X6_isSetting_b10 (v0 : Int32) (v1 : Int32) (s0 : Int32) (M : Mem) : Option (Int32 × Mem) :=
  if 2 ≤ v0 then (if v0 = 2 then (f_X6_isSetting_b41 v0 v1 s0 5 M) else (if v0 = 3 then (f_X6_isSetting_b41 v0 v1 s0 9 M) else (f_X6_isSetting_b41 v0 v1 s0 1 M))) else (f_X6_isSetting_b41 v0 v1 s0 24 M)
def f_X6_isSetting (v0 : Int32) (v1 : Int32) (M : Mem) : Option (Int32 × Mem) :=
  if 3 ≤ v0 then (f_X6_isSetting_b10 v0 v1 0 M) else (f_X6_isSetting_b10 v0 v1 1 M)
def f_X6_isHeld (r1 : Nat) (v2 : Int32) (v3 : Int32) (M : Mem) : Option (Int32 × Mem) :=
  ob (f_X6_at v2 v3 M) (fun x1 M2 => if inb (8 + x1) (lnA r1) then (if (M2 r1 (Int32.toNatClampNeg (8 + x1))) = 99 then (some (1, M2)) else (some (0, M2))) else none)
def f_X6_laySounds_b51 (r1 : Nat) (v2 : Int32) (v4 : Int32) (k2 : Int32 → Mem → Option (Unit × Mem)) (k16 : Int32 → Int32 → Mem → Option (Unit × Mem)) (s0 : Int32) (M : Mem) : Option (Unit × Mem) :=
  ob (f_X6_at v2 v4 M) (fun x5 M6 => if inb x5 64 then (k16 s0 (v4 + 1) (mw M6 36 (Int32.toNatClampNeg x5) s0)) else none)
def f_X6_laySounds_b16 (r1 : Nat) (v2 : Int32) (k2 : Int32 → Mem → Option (Unit × Mem)) (k16 : Int32 → Int32 → Mem → Option (Unit × Mem)) (v3 : Int32) (v4 : Int32) (M : Mem) : Option (Unit × Mem) :=
  if inb 7 (lnA r1) then (if (M r1 (Int32.toNatClampNeg 7)) ≤ v4 then (k2 (v2 + 1) M) else (ob (f_X6_isHeld r1 v2 v4 M) (fun x1 M2 => if x1 = 0 then (ob (f_X6_at v2 v4 M2) (fun x3 M4 => if inb (8 + x3) (lnA r1) then (f_X6_laySounds_b51 r1 v2 v4 k2 k16 (M4 r1 (Int32.toNatClampNeg (8 + x3))) M4) else none)) else (f_X6_laySounds_b51 r1 v2 v4 k2 k16 v3 M2)))) else none
def f_X6_laySounds_b2 (r1 : Nat) (k2 : Int32 → Mem → Option (Unit × Mem)) (v2 : Int32) (M : Mem) : Option (Unit × Mem) :=
  if inb 6 (lnA r1) then (if (M r1 (Int32.toNatClampNeg 6)) ≤ v2 then (some ((), M)) else (lq2 (f_X6_laySounds_b16 r1 v2 k2) 9999 (-9) 0 M)) else none
def f_X6_laySounds (r1 : Nat) (M : Mem) : Option (Unit × Mem) :=
  lq1 (f_X6_laySounds_b2 r1) 9999 0 M
def f_X6_rank (r0 : Nat) (v1 : Int32) (M : Mem) : Option (Int32 × Mem) :=
  if v1 = 0 then (some (0, M)) else (if inb 6 (lnA r0) then (if v1 = ((M r0 (Int32.toNatClampNeg 6)) - 1) then (some (1, M)) else (some (2, M))) else none)
def f_X6_stands_b134 (r1 : Nat) (v2 : Int32) (v3 : Int32) (v4 : Int32) (v6 : Int32) (k6 : Int32 → Int32 → Mem → Option (Int32 × Mem)) (M : Mem) : Option (Int32 × Mem) :=
  k6 1 (v6 + 1) M
def f_X6_stands_b42 (r1 : Nat) (v2 : Int32) (v3 : Int32) (v4 : Int32) (v5 : Int32) (v6 : Int32) (k6 : Int32 → Int32 → Mem → Option (Int32 × Mem)) (s0 : Int32) (M : Mem) : Option (Int32 × Mem) :=
  if s0 = 0 then (k6 v5 (v6 + 1) M) else (ob (f_X6_at v6 v3 M) (fun x3 M4 => if inb x3 64 then (if (M4 36 (Int32.toNatClampNeg x3)) = (-9) then (k6 v5 (v6 + 1) M4) else (ob (f_X6_at v6 v3 M4) (fun x5 M6 => if inb x5 64 then (if (M6 37 (Int32.toNatClampNeg x5)) = 0 then (ob (f_X6_at v6 v3 M6) (fun x7 M8 => if inb x7 64 then (ob (f_X6_at v2 v3 M8) (fun x9 M10 => if inb x9 64 then (if v5 = 0 then (if v4 = 0 then (if ((M8 36 (Int32.toNatClampNeg x7)) - (M10 36 (Int32.toNatClampNeg x9))) = 0 then (f_X6_stands_b134 r1 v2 v3 v4 v6 k6 M10) else (k6 0 (v6 + 1) M10)) else (if ((M8 36 (Int32.toNatClampNeg x7)) - (M10 36 (Int32.toNatClampNeg x9))) = 0 then (k6 0 (v6 + 1) M10) else (if (((M8 36 (Int32.toNatClampNeg x7)) - (M10 36 (Int32.toNatClampNeg x9))) - ((M8 36 (Int32.toNatClampNeg x7)) - (M10 36 (Int32.toNatClampNeg x9))) / 12 * 12) = 0 then (f_X6_stands_b134 r1 v2 v3 v4 v6 k6 M10) else (k6 0 (v6 + 1) M10)))) else (f_X6_stands_b134 r1 v2 v3 v4 v6 k6 M10)) else none)) else none)) else (k6 v5 (v6 + 1) M6)) else none))) else none))
def f_X6_stands_b37 (r1 : Nat) (v2 : Int32) (v3 : Int32) (v4 : Int32) (v5 : Int32) (v6 : Int32) (k6 : Int32 → Int32 → Mem → Option (Int32 × Mem)) (M : Mem) : Option (Int32 × Mem) :=
  f_X6_stands_b42 r1 v2 v3 v4 v5 v6 k6 1 M
def f_X6_stands_b41 (r1 : Nat) (v2 : Int32) (v3 : Int32) (v4 : Int32) (v5 : Int32) (v6 : Int32) (k6 : Int32 → Int32 → Mem → Option (Int32 × Mem)) (M : Mem) : Option (Int32 × Mem) :=
  f_X6_stands_b42 r1 v2 v3 v4 v5 v6 k6 0 M
def f_X6_stands_b6 (r1 : Nat) (v2 : Int32) (v3 : Int32) (v4 : Int32) (k6 : Int32 → Int32 → Mem → Option (Int32 × Mem)) (v5 : Int32) (v6 : Int32) (M : Mem) : Option (Int32 × Mem) :=
  if inb 6 (lnA r1) then (if (M r1 (Int32.toNatClampNeg 6)) ≤ v6 then (if v5 &&& 1 = v5 then some (v5, M) else none) else (if v6 = v2 then (f_X6_stands_b41 r1 v2 v3 v4 v5 v6 k6 M) else (ob (f_X6_rank r1 v6 M) (fun x1 M2 => if x1 < 2 then (f_X6_stands_b37 r1 v2 v3 v4 v5 v6 k6 M2) else (if v2 ≤ v6 then (f_X6_stands_b41 r1 v2 v3 v4 v5 v6 k6 M2) else (f_X6_stands_b37 r1 v2 v3 v4 v5 v6 k6 M2)))))) else none
def f_X6_stands (r1 : Nat) (v2 : Int32) (v3 : Int32) (v4 : Int32) (M : Mem) : Option (Int32 × Mem) :=
  lq2 (f_X6_stands_b6 r1 v2 v3 v4) 9999 0 0 M
def f_X6_layReasons_b29 (r1 : Nat) (v2 : Int32) (k29 : Int32 → Mem → Option (Unit × Mem)) (v3 : Int32) (M : Mem) : Option (Unit × Mem) :=
  if inb 6 (lnA r1) then (if ((M r1 (Int32.toNatClampNeg 6)) - 1) ≤ v3 then (some ((), M)) else (ob (f_X6_at v3 v2 M) (fun x3 M4 => if inb x3 64 then (if (M4 36 (Int32.toNatClampNeg x3)) = (-9) then (k29 (v3 + 1) M4) else (ob (f_X6_at v3 v2 M4) (fun x5 M6 => ob (f_X6_stands r1 v3 v2 0 M6) (fun x7 M8 => if x7 = 0 then (if inb 4 (lnA r1) then (if (M8 r1 (Int32.toNatClampNeg 4)) = 1 then (ob (f_X6_stands r1 v3 v2 1 M8) (fun x9 M10 => if x9 = 0 then (if inb x5 64 then (k29 (v3 + 1) (mw M10 37 (Int32.toNatClampNeg x5) 0)) else none) else (if inb x5 64 then (k29 (v3 + 1) (mw M10 37 (Int32.toNatClampNeg x5) 2)) else none))) else (if inb x5 64 then (k29 (v3 + 1) (mw M8 37 (Int32.toNatClampNeg x5) 0)) else none)) else none) else (if inb x5 64 then (k29 (v3 + 1) (mw M8 37 (Int32.toNatClampNeg x5) 1)) else none))))) else none))) else none
def f_X6_layReasons_b27 (r1 : Nat) (v2 : Int32) (M : Mem) : Option (Unit × Mem) :=
  lq1 (f_X6_layReasons_b29 r1 v2) 9999 1 M
def f_X6_layReasons_b2 (r1 : Nat) (v2 : Int32) (k2 : Int32 → Mem → Option (Unit × Mem)) (v3 : Int32) (M : Mem) : Option (Unit × Mem) :=
  if inb 6 (lnA r1) then (if (M r1 (Int32.toNatClampNeg 6)) ≤ v3 then (f_X6_layReasons_b27 r1 v2 M) else (ob (f_X6_at v3 v2 M) (fun x1 M2 => if inb x1 64 then (k2 (v3 + 1) (mw M2 37 (Int32.toNatClampNeg x1) 0)) else none))) else none
def f_X6_layReasons (r1 : Nat) (v2 : Int32) (M : Mem) : Option (Unit × Mem) :=
  lq1 (f_X6_layReasons_b2 r1 v2) 9999 0 M
def f_X6_layRow_b20 (r1 : Nat) (v2 : Int32) (v4 : Int32) (k5 : Int32 → Int32 → Mem → Option (Unit × Mem)) (k20 : Int32 → Int32 → Mem → Option (Unit × Mem)) (v3 : Int32) (v5 : Int32) (M : Mem) : Option (Unit × Mem) :=
  if v5 < 0 then (k5 v3 (v4 + 1) M) else (ob (f_X6_at v5 v2 M) (fun x1 M2 => if inb x1 64 then (if (M2 36 (Int32.toNatClampNeg x1)) = v4 then (ob (f_X6_at v5 v2 M2) (fun x3 M4 => if inb x3 64 then (if (M4 37 (Int32.toNatClampNeg x3)) = 0 then (if inb ((4 * v2) + v3) 64 then (k20 (v3 + 1) (v5 + (-1)) (mw M4 38 (Int32.toNatClampNeg ((4 * v2) + v3)) v5)) else none) else (k20 v3 (v5 + (-1)) M4)) else none)) else (k20 v3 (v5 + (-1)) M2)) else none))
def f_X6_layRow_b82 (v2 : Int32) (v3 : Int32) (M : Mem) : Option (Unit × Mem) :=
  if inb v2 16 then (some ((), (mw M 39 (Int32.toNatClampNeg v2) v3))) else none
def f_X6_layRow_b5 (r1 : Nat) (v2 : Int32) (k5 : Int32 → Int32 → Mem → Option (Unit × Mem)) (v3 : Int32) (v4 : Int32) (M : Mem) : Option (Unit × Mem) :=
  if 60 < v4 then (f_X6_layRow_b82 v2 v3 M) else (if inb 6 (lnA r1) then (lq2 (f_X6_layRow_b20 r1 v2 v4 k5) 9999 v3 ((M r1 (Int32.toNatClampNeg 6)) - 1) M) else none)
def f_X6_layRow (r1 : Nat) (v2 : Int32) (M : Mem) : Option (Unit × Mem) :=
  lq2 (f_X6_layRow_b5 r1 v2) 9999 0 0 M
def f_X6_pitchOf (v1 : Int32) (v2 : Int32) (M : Mem) : Option (Int32 × Mem) :=
  if inb ((4 * v1) + v2) 64 then (ob (f_X6_at (M 38 (Int32.toNatClampNeg ((4 * v1) + v2))) v1 M) (fun x1 M2 => if inb x1 64 then (some (M2 36 (Int32.toNatClampNeg x1), M2)) else none)) else none
def f_X6_width (v1 : Int32) (v2 : Int32) (v3 : Int32) (M : Mem) : Option (Int32 × Mem) :=
  if v3 ≤ v2 then (some (0, M)) else (ob (f_X6_pitchOf v1 (v3 - 1) M) (fun x1 M2 => ob (f_X6_pitchOf v1 v2 M2) (fun x3 M4 => some (x1 - x3, M4))))
def f_X6_canPlay_b39 (r1 : Nat) (v2 : Int32) (v3 : Int32) (v4 : Int32) (v5 : Int32) (v7 : Int32) (k7 : Int32 → Int32 → Mem → Option (Int32 × Mem)) (M : Mem) : Option (Int32 × Mem) :=
  k7 1 (v7 + 1) M
def f_X6_canPlay_b87 (s0 : Int32) (s1 : Int32) (s2 : Int32) (M : Mem) : Option (Int32 × Mem) :=
  if (s1 + s0) < s2 then (some (0, M)) else (some (1, M))
def f_X6_canPlay_b52 (r1 : Nat) (v2 : Int32) (v3 : Int32) (v4 : Int32) (v5 : Int32) (v6 : Int32) (M : Mem) : Option (Int32 × Mem) :=
  if inb 2 (lnA r1) then (if (M r1 (Int32.toNatClampNeg 2)) < (v5 - v4) then (some (0, M)) else (ob (f_X6_width v3 v4 v5 M) (fun x3 M4 => if inb v2 (lnA r1) then (if v6 = 0 then (if inb 3 (lnA r1) then (f_X6_canPlay_b87 (M4 r1 (Int32.toNatClampNeg 3)) (M4 r1 (Int32.toNatClampNeg v2)) x3 M4) else none) else (f_X6_canPlay_b87 0 (M4 r1 (Int32.toNatClampNeg v2)) x3 M4)) else none))) else none
def f_X6_canPlay_b7 (r1 : Nat) (v2 : Int32) (v3 : Int32) (v4 : Int32) (v5 : Int32) (k7 : Int32 → Int32 → Mem → Option (Int32 × Mem)) (v6 : Int32) (v7 : Int32) (M : Mem) : Option (Int32 × Mem) :=
  if v5 ≤ v7 then (f_X6_canPlay_b52 r1 v2 v3 v4 v5 v6 M) else (if v6 = 0 then (if inb ((4 * v3) + v7) 64 then (ob (f_X6_isHeld r1 (M 38 (Int32.toNatClampNeg ((4 * v3) + v7))) v3 M) (fun x1 M2 => if x1 = 0 then (k7 0 (v7 + 1) M2) else (f_X6_canPlay_b39 r1 v2 v3 v4 v5 v7 k7 M2))) else none) else (f_X6_canPlay_b39 r1 v2 v3 v4 v5 v7 k7 M))
def f_X6_canPlay (r1 : Nat) (v2 : Int32) (v3 : Int32) (v4 : Int32) (v5 : Int32) (M : Mem) : Option (Int32 × Mem) :=
  lq2 (f_X6_canPlay_b7 r1 v2 v3 v4 v5) 9999 0 v4 M
def f_X6_layPossible_b53 (r1 : Nat) (v2 : Int32) (v3 : Int32) (k9 : Int32 → Mem → Option (Unit × Mem)) (s0 : Int32) (M : Mem) : Option (Unit × Mem) :=
  if inb v2 16 then (if s0 = 0 then (if inb v2 16 then (k9 (v3 + 1) (mw M 40 (Int32.toNatClampNeg v2) ((M 40 (Int32.toNatClampNeg v2)) ||| 0))) else none) else (if inb v2 16 then (k9 (v3 + 1) (mw M 40 (Int32.toNatClampNeg v2) ((M 40 (Int32.toNatClampNeg v2)) ||| (1 <<< (v3 &&& 31))))) else none)) else none
def f_X6_layPossible_b52 (r1 : Nat) (v2 : Int32) (v3 : Int32) (k9 : Int32 → Mem → Option (Unit × Mem)) (M : Mem) : Option (Unit × Mem) :=
  f_X6_layPossible_b53 r1 v2 v3 k9 0 M
def f_X6_layPossible_b9 (r1 : Nat) (v2 : Int32) (k9 : Int32 → Mem → Option (Unit × Mem)) (v3 : Int32) (M : Mem) : Option (Unit × Mem) :=
  if inb v2 16 then (if (M 39 (Int32.toNatClampNeg v2)) < v3 then (some ((), M)) else (ob (f_X6_canPlay r1 0 v2 0 v3 M) (fun x1 M2 => if x1 = 0 then (f_X6_layPossible_b52 r1 v2 v3 k9 M2) else (if inb v2 16 then (ob (f_X6_canPlay r1 1 v2 v3 (M2 39 (Int32.toNatClampNeg v2)) M2) (fun x3 M4 => if x3 = 0 then (f_X6_layPossible_b52 r1 v2 v3 k9 M4) else (f_X6_layPossible_b53 r1 v2 v3 k9 1 M4))) else none)))) else none
def f_X6_layPossible (r1 : Nat) (v2 : Int32) (M : Mem) : Option (Unit × Mem) :=
  if inb v2 16 then (lq1 (f_X6_layPossible_b9 r1 v2) 9999 0 (mw M 40 (Int32.toNatClampNeg v2) 0)) else none
def f_X6_dropInner_b41 (v2 : Int32) (v3 : Int32) (M : Mem) : Option (Unit × Mem) :=
  ob (f_X6_at v3 v2 M) (fun x5 M6 => if inb x5 64 then (some ((), (mw M6 37 (Int32.toNatClampNeg x5) 3))) else none)
def f_X6_dropInner_b7 (v2 : Int32) (k7 : Int32 → Mem → Option (Unit × Mem)) (v3 : Int32) (M : Mem) : Option (Unit × Mem) :=
  ob (f_X6_at v3 v2 M) (fun x1 M2 => if inb x1 64 then (if (M2 36 (Int32.toNatClampNeg x1)) = (-9) then (k7 (v3 + (-1)) M2) else (ob (f_X6_at v3 v2 M2) (fun x3 M4 => if inb x3 64 then (if (M4 37 (Int32.toNatClampNeg x3)) = 0 then (f_X6_dropInner_b41 v2 v3 M4) else (k7 (v3 + (-1)) M4)) else none))) else none)
def f_X6_dropInner (r1 : Nat) (v2 : Int32) (M : Mem) : Option (Unit × Mem) :=
  if inb 6 (lnA r1) then (lq1 (f_X6_dropInner_b7 v2) 9999 ((M r1 (Int32.toNatClampNeg 6)) - 2) M) else none
def f_X6_can (v1 : Int32) (v2 : Int32) (M : Mem) : Option (Int32 × Mem) :=
  if inb v1 16 then (if (((M 40 (Int32.toNatClampNeg v1)) >>> (v2 &&& 31)) &&& 1) = 1 then (some (1, M)) else (some (0, M))) else none
def f_X6_placeOf_b2 (v1 : Int32) (v2 : Int32) (k2 : Int32 → Mem → Option (Int32 × Mem)) (v3 : Int32) (M : Mem) : Option (Int32 × Mem) :=
  if inb v2 16 then (if (M 39 (Int32.toNatClampNeg v2)) ≤ v3 then (some ((-9), M)) else (if inb ((4 * v2) + v3) 64 then (if (M 38 (Int32.toNatClampNeg ((4 * v2) + v3))) = v1 then (some (v3, M)) else (k2 (v3 + 1) M)) else none)) else none
def f_X6_placeOf (v1 : Int32) (v2 : Int32) (M : Mem) : Option (Int32 × Mem) :=
  lq1 (f_X6_placeOf_b2 v1 v2) 9999 0 M
def f_X6_handOf (v1 : Int32) (v2 : Int32) (v3 : Int32) (M : Mem) : Option (Int32 × Mem) :=
  ob (f_X6_placeOf v1 v2 M) (fun x1 M2 => if x1 = (-9) then (some ((-9), M2)) else (if v3 ≤ x1 then (some (1, M2)) else (some (0, M2))))
def f_X6_isCut (r1 : Nat) (v2 : Int32) (v3 : Int32) (v4 : Int32) (v5 : Int32) (M : Mem) : Option (Int32 × Mem) :=
  ob (f_X6_isHeld r1 v2 v3 M) (fun x1 M2 => if x1 = 0 then (some (0, M2)) else (ob (f_X6_placeOf v2 v3 M2) (fun x3 M4 => if x3 = (-9) then (some (0, M4)) else (ob (f_X6_handOf v2 (v3 - 1) v4 M4) (fun x5 M6 => ob (f_X6_handOf v2 v3 v5 M6) (fun x7 M8 => if x5 = x7 then (some (0, M8)) else (some (1, M8))))))))
def f_X6_from (v1 : Int32) (v2 : Int32) (M : Mem) : Option (Int32 × Mem) :=
  if v1 = 0 then (some (0, M)) else (some (v2, M))
def f_X6_to (v1 : Int32) (v2 : Int32) (v3 : Int32) (M : Mem) : Option (Int32 × Mem) :=
  if v1 = 0 then (some (v3, M)) else (if inb v2 16 then (some (M 39 (Int32.toNatClampNeg v2), M)) else none)
def f_X6_position (v1 : Int32) (v2 : Int32) (v3 : Int32) (M : Mem) : Option (Int32 × Mem) :=
  ob (f_X6_to v1 v2 v3 M) (fun x1 M2 => ob (f_X6_from v1 v3 M2) (fun x3 M4 => if x1 ≤ x3 then (some ((-9), M4)) else (ob (f_X6_from v1 v3 M4) (fun x5 M6 => ob (f_X6_pitchOf v2 x5 M6) (fun x7 M8 => some (x7, M8))))))
def f_X6_move_b51  (M : Mem) : Option (Int32 × Mem) :=
  some (0, M)
def f_X6_move_b28 (v5 : Int32) (s0 : Int32) (M : Mem) : Option (Int32 × Mem) :=
  if v5 = (-9) then (f_X6_move_b51  M) else (if s0 = (-9) then (f_X6_move_b51  M) else (if 0 ≤ (v5 - s0) then (some (v5 - s0, M)) else (some (-(v5 - s0), M))))
def f_X6_move (v1 : Int32) (v2 : Int32) (v3 : Int32) (v4 : Int32) (M : Mem) : Option (Int32 × Mem) :=
  ob (f_X6_position v1 v2 v4 M) (fun x1 M2 => if v2 = 0 then (f_X6_move_b28 x1 (-9) M2) else (ob (f_X6_position v1 (v2 - 1) v3 M2) (fun x3 M4 => f_X6_move_b28 x1 x3 M4)))
def f_X6_isRolled (r1 : Nat) (v2 : Int32) (v3 : Int32) (v4 : Int32) (M : Mem) : Option (Int32 × Mem) :=
  ob (f_X6_from v2 v4 M) (fun x1 M2 => ob (f_X6_to v2 v3 v4 M2) (fun x3 M4 => ob (f_X6_width v3 x1 x3 M4) (fun x5 M6 => if inb v2 (lnA r1) then (if x5 ≤ (M6 r1 (Int32.toNatClampNeg v2)) then (some (0, M6)) else (some (1, M6))) else none)))
def f_X6_costOf_b42 (r1 : Nat) (v2 : Int32) (v3 : Int32) (v4 : Int32) (v6 : Int32) (k6 : Int32 → Int32 → Mem → Option (Int32 × Mem)) (s0 : Int32) (s1 : Int32) (s2 : Int32) (M : Mem) : Option (Int32 × Mem) :=
  k6 (s2 + (s1 + s0)) (v6 + 1) M
def f_X6_costOf_b55 (r1 : Nat) (v2 : Int32) (v3 : Int32) (v4 : Int32) (k55 : Int32 → Int32 → Mem → Option (Int32 × Mem)) (v5 : Int32) (v6 : Int32) (M : Mem) : Option (Int32 × Mem) :=
  if inb 6 (lnA r1) then (if (M r1 (Int32.toNatClampNeg 6)) ≤ v6 then (some (v5, M)) else (ob (f_X6_isCut r1 v6 v2 v3 v4 M) (fun x5 M6 => if x5 = 0 then (k55 (v5 + 0) (v6 + 1) M6) else (k55 (v5 + 10) (v6 + 1) M6)))) else none
def f_X6_costOf_b52 (r1 : Nat) (v2 : Int32) (v3 : Int32) (v4 : Int32) (v5 : Int32) (M : Mem) : Option (Int32 × Mem) :=
  lq2 (f_X6_costOf_b55 r1 v2 v3 v4) 9999 v5 0 M
def f_X6_costOf_b6 (r1 : Nat) (v2 : Int32) (v3 : Int32) (v4 : Int32) (k6 : Int32 → Int32 → Mem → Option (Int32 × Mem)) (v5 : Int32) (v6 : Int32) (M : Mem) : Option (Int32 × Mem) :=
  if 2 ≤ v6 then (f_X6_costOf_b52 r1 v2 v3 v4 v5 M) else (ob (f_X6_move v6 v2 v3 v4 M) (fun x1 M2 => ob (f_X6_isRolled r1 v6 v2 v4 M2) (fun x3 M4 => if x3 = 0 then (f_X6_costOf_b42 r1 v2 v3 v4 v6 k6 0 x1 v5 M4) else (f_X6_costOf_b42 r1 v2 v3 v4 v6 k6 5 x1 v5 M4))))
def f_X6_costOf (r1 : Nat) (v2 : Int32) (v3 : Int32) (v4 : Int32) (M : Mem) : Option (Int32 × Mem) :=
  lq2 (f_X6_costOf_b6 r1 v2 v3 v4) 9999 0 0 M
def f_X6_cheapest_b96 (r1 : Nat) (v2 : Int32) (v3 : Int32) (v4 : Int32) (v6 : Int32) (v7 : Int32) (v8 : Int32) (v9 : Int32) (k10 : Int32 → Int32 → Int32 → Mem → Option (Int32 × Mem)) (s0 : Int32) (M : Mem) : Option (Int32 × Mem) :=
  if v9 = 0 then (k10 s0 v6 (v7 + 1) M) else (k10 s0 v8 (v7 + 1) M)
def f_X6_cheapest_b82 (r1 : Nat) (v2 : Int32) (v3 : Int32) (v4 : Int32) (v5 : Int32) (v6 : Int32) (v7 : Int32) (v8 : Int32) (k10 : Int32 → Int32 → Int32 → Mem → Option (Int32 × Mem)) (s0 : Int32) (M : Mem) : Option (Int32 × Mem) :=
  if s0 = 0 then (f_X6_cheapest_b96 r1 v2 v3 v4 v6 v7 v8 s0 k10 v5 M) else (f_X6_cheapest_b96 r1 v2 v3 v4 v6 v7 v8 s0 k10 v7 M)
def f_X6_cheapest_b77 (r1 : Nat) (v2 : Int32) (v3 : Int32) (v4 : Int32) (v5 : Int32) (v6 : Int32) (v7 : Int32) (v8 : Int32) (k10 : Int32 → Int32 → Int32 → Mem → Option (Int32 × Mem)) (M : Mem) : Option (Int32 × Mem) :=
  f_X6_cheapest_b82 r1 v2 v3 v4 v5 v6 v7 v8 k10 1 M
def f_X6_cheapest_b60 (r1 : Nat) (v2 : Int32) (v3 : Int32) (v4 : Int32) (v5 : Int32) (v6 : Int32) (v7 : Int32) (k10 : Int32 → Int32 → Int32 → Mem → Option (Int32 × Mem)) (s0 : Int32) (s1 : Int32) (M : Mem) : Option (Int32 × Mem) :=
  if v5 = (-9) then (f_X6_cheapest_b77 r1 v2 v3 v4 v5 v6 v7 (s1 + s0) k10 M) else (if v6 ≤ (s1 + s0) then (f_X6_cheapest_b82 r1 v2 v3 v4 v5 v6 v7 (s1 + s0) k10 0 M) else (f_X6_cheapest_b77 r1 v2 v3 v4 v5 v6 v7 (s1 + s0) k10 M))
def f_X6_cheapest_b10 (r1 : Nat) (v2 : Int32) (v3 : Int32) (v4 : Int32) (k10 : Int32 → Int32 → Int32 → Mem → Option (Int32 × Mem)) (v5 : Int32) (v6 : Int32) (v7 : Int32) (M : Mem) : Option (Int32 × Mem) :=
  if inb v2 16 then (if (M 39 (Int32.toNatClampNeg v2)) < v7 then (some (v5, M)) else (ob (f_X6_can v2 v7 M) (fun x1 M2 => if x1 = 0 then (k10 v5 v6 (v7 + 1) M2) else (ob (f_X6_costOf r1 v2 v3 v7 M2) (fun x3 M4 => if v4 = 0 then (f_X6_cheapest_b60 r1 v2 v3 v4 v5 v6 v7 k10 0 x3 M4) else (if inb ((5 * v2) + v7) 80 then (f_X6_cheapest_b60 r1 v2 v3 v4 v5 v6 v7 k10 (M4 42 (Int32.toNatClampNeg ((5 * v2) + v7))) x3 M4) else none)))))) else none
def f_X6_cheapest (r1 : Nat) (v2 : Int32) (v3 : Int32) (v4 : Int32) (M : Mem) : Option (Int32 × Mem) :=
  lq3 (f_X6_cheapest_b10 r1 v2 v3 v4) 9999 (-9) 0 0 M
def f_X6_layAhead_b59 (r1 : Nat) (v2 : Int32) (v3 : Int32) (v4 : Int32) (k7 : Int32 → Mem → Option (Unit × Mem)) (k13 : Int32 → Mem → Option (Unit × Mem)) (s0 : Int32) (M : Mem) : Option (Unit × Mem) :=
  if v4 = 0 then (ob (f_X6_costOf r1 (v2 + 1) v3 s0 M) (fun x3 M4 => if inb ((5 * (v2 + 1)) + s0) 80 then (if inb ((5 * v2) + v3) 80 then (k13 (v3 + 1) (mw M4 42 (Int32.toNatClampNeg ((5 * v2) + v3)) (x3 + (M4 42 (Int32.toNatClampNeg ((5 * (v2 + 1)) + s0)))))) else none) else none)) else (if inb ((5 * v2) + v3) 80 then (k13 (v3 + 1) (mw M 42 (Int32.toNatClampNeg ((5 * v2) + v3)) 0)) else none)
def f_X6_layAhead_b38 (r1 : Nat) (v2 : Int32) (v3 : Int32) (k7 : Int32 → Mem → Option (Unit × Mem)) (k13 : Int32 → Mem → Option (Unit × Mem)) (s0 : Int32) (M : Mem) : Option (Unit × Mem) :=
  if s0 = 0 then (ob (f_X6_cheapest r1 (v2 + 1) v3 1 M) (fun x1 M2 => f_X6_layAhead_b59 r1 v2 v3 s0 k7 k13 x1 M2)) else (f_X6_layAhead_b59 r1 v2 v3 s0 k7 k13 0 M)
def f_X6_layAhead_b13 (r1 : Nat) (v2 : Int32) (k7 : Int32 → Mem → Option (Unit × Mem)) (k13 : Int32 → Mem → Option (Unit × Mem)) (v3 : Int32) (M : Mem) : Option (Unit × Mem) :=
  if inb v2 16 then (if (M 39 (Int32.toNatClampNeg v2)) < v3 then (k7 (v2 + (-1)) M) else (if inb 7 (lnA r1) then (if v2 = ((M r1 (Int32.toNatClampNeg 7)) - 1) then (f_X6_layAhead_b38 r1 v2 v3 k7 k13 1 M) else (f_X6_layAhead_b38 r1 v2 v3 k7 k13 0 M)) else none)) else none
def f_X6_layAhead_b7 (r1 : Nat) (k7 : Int32 → Mem → Option (Unit × Mem)) (v2 : Int32) (M : Mem) : Option (Unit × Mem) :=
  if v2 < 0 then (some ((), M)) else (lq1 (f_X6_layAhead_b13 r1 v2 k7) 9999 0 M)
def f_X6_layAhead (r1 : Nat) (M : Mem) : Option (Unit × Mem) :=
  if inb 7 (lnA r1) then (lq1 (f_X6_layAhead_b7 r1) 9999 ((M r1 (Int32.toNatClampNeg 7)) - 1) M) else none
def f_X6_lay_b33 (r1 : Nat) (v2 : Int32) (k7 : Int32 → Mem → Option (Unit × Mem)) (k33 : Mem → Option (Unit × Mem)) (M : Mem) : Option (Unit × Mem) :=
  if inb v2 16 then (if (M 40 (Int32.toNatClampNeg v2)) = 0 then (ob (f_X6_dropInner r1 v2 M) (fun x9 M10 => ob (f_X6_layRow r1 v2 M10) (fun x11 M12 => ob (f_X6_layPossible r1 v2 M12) (fun x13 M14 => k33 M14)))) else (k7 (v2 + 1) M)) else none
def f_X6_lay_b125 (r1 : Nat) (v2 : Int32) (v3 : Int32) (k93 : Int32 → Mem → Option (Unit × Mem)) (s0 : Int32) (s1 : Int32) (s2 : Nat) (s4 : Int32) (s5 : Nat) (M : Mem) : Option (Unit × Mem) :=
  ob (f_X6_cheapest s2 s1 s0 v2 M) (fun x17 M18 => if inb s4 (lnA s5) then (k93 (v3 + 1) (mw M18 s5 (Int32.toNatClampNeg s4) x17)) else none)
def f_X6_lay_b93 (r1 : Nat) (v2 : Int32) (k93 : Int32 → Mem → Option (Unit × Mem)) (v3 : Int32) (M : Mem) : Option (Unit × Mem) :=
  if inb 7 (lnA r1) then (if (M r1 (Int32.toNatClampNeg 7)) ≤ v3 then (some ((), M)) else (if v3 = 0 then (f_X6_lay_b125 r1 v2 v3 k93 0 v3 r1 v3 41 M) else (if inb (v3 - 1) 16 then (f_X6_lay_b125 r1 v2 v3 k93 (M 41 (Int32.toNatClampNeg (v3 - 1))) v3 r1 v3 41 M) else none))) else none
def f_X6_lay_b91 (r1 : Nat) (v2 : Int32) (M : Mem) : Option (Unit × Mem) :=
  lq1 (f_X6_lay_b93 r1 v2) 9999 0 M
def f_X6_lay_b81 (r1 : Nat) (s0 : Int32) (M : Mem) : Option (Unit × Mem) :=
  if s0 = 0 then (f_X6_lay_b91 r1 s0 M) else (ob (f_X6_layAhead r1 M) (fun x15 M16 => f_X6_lay_b91 r1 s0 M16))
def f_X6_lay_b69 (r1 : Nat) (M : Mem) : Option (Unit × Mem) :=
  if inb 5 (lnA r1) then (if (M r1 (Int32.toNatClampNeg 5)) = 1 then (f_X6_lay_b81 r1 1 M) else (f_X6_lay_b81 r1 0 M)) else none
def f_X6_lay_b7 (r1 : Nat) (k7 : Int32 → Mem → Option (Unit × Mem)) (v2 : Int32) (M : Mem) : Option (Unit × Mem) :=
  if inb 7 (lnA r1) then (if (M r1 (Int32.toNatClampNeg 7)) ≤ v2 then (f_X6_lay_b69 r1 M) else (ob (f_X6_layReasons r1 v2 M) (fun x3 M4 => ob (f_X6_layRow r1 v2 M4) (fun x5 M6 => ob (f_X6_layPossible r1 v2 M6) (fun x7 M8 => lq0 (f_X6_lay_b33 r1 v2 k7) 9999 M8))))) else none
def f_X6_lay (r1 : Nat) (M : Mem) : Option (Unit × Mem) :=
  ob (f_X6_laySounds r1 M) (fun x1 M2 => lq1 (f_X6_lay_b7 r1) 9999 0 M2)
def f_X6_before (v1 : Int32) (M : Mem) : Option (Int32 × Mem) :=
  if v1 = 0 then (some (0, M)) else (if inb (v1 - 1) 16 then (some (M 41 (Int32.toNatClampNeg (v1 - 1)), M)) else none)
def f_X6_isCutHere (r1 : Nat) (v2 : Int32) (v3 : Int32) (M : Mem) : Option (Int32 × Mem) :=
  if v3 ≤ 0 then (some (0, M)) else (ob (f_X6_before v3 M) (fun x1 M2 => if inb v3 16 then (ob (f_X6_isCut r1 v2 v3 x1 (M2 41 (Int32.toNatClampNeg v3)) M2) (fun x3 M4 => if x3 = 0 then (some (0, M4)) else (some (1, M4)))) else none))
def f_X6_wholeOf_b58 (r1 : Nat) (v2 : Int32) (v4 : Int32) (v5 : Int32) (k10 : Int32 → Int32 → Mem → Option (Int32 × Mem)) (k22 : Int32 → Int32 → Mem → Option (Int32 × Mem)) (s0 : Int32) (s1 : Int32) (M : Mem) : Option (Int32 × Mem) :=
  if v2 = 6 then (ob (f_X6_before v4 M) (fun x9 M10 => if inb v4 16 then (ob (f_X6_move v5 v4 x9 (M10 41 (Int32.toNatClampNeg v4)) M10) (fun x11 M12 => k22 ((s1 + s0) + x11) (v5 + 1) M12)) else none)) else (k22 ((s1 + s0) + 0) (v5 + 1) M)
def f_X6_wholeOf_b57 (r1 : Nat) (v2 : Int32) (v4 : Int32) (v5 : Int32) (k10 : Int32 → Int32 → Mem → Option (Int32 × Mem)) (k22 : Int32 → Int32 → Mem → Option (Int32 × Mem)) (s0 : Int32) (M : Mem) : Option (Int32 × Mem) :=
  f_X6_wholeOf_b58 r1 v2 v4 v5 k10 k22 0 s0 M
def f_X6_wholeOf_b270 (r1 : Nat) (v2 : Int32) (v4 : Int32) (v5 : Int32) (k10 : Int32 → Int32 → Mem → Option (Int32 × Mem)) (k134 : Int32 → Int32 → Mem → Option (Int32 × Mem)) (s0 : Int32) (M : Mem) : Option (Int32 × Mem) :=
  k134 (s0 + 1) (v5 + 1) M
def f_X6_wholeOf_b274 (r1 : Nat) (v2 : Int32) (v4 : Int32) (v5 : Int32) (k10 : Int32 → Int32 → Mem → Option (Int32 × Mem)) (k134 : Int32 → Int32 → Mem → Option (Int32 × Mem)) (s0 : Int32) (M : Mem) : Option (Int32 × Mem) :=
  k134 (s0 + 0) (v5 + 1) M
def f_X6_wholeOf_b227 (r1 : Nat) (v2 : Int32) (v4 : Int32) (v5 : Int32) (v6 : Int32) (v7 : Int32) (k10 : Int32 → Int32 → Mem → Option (Int32 × Mem)) (k134 : Int32 → Int32 → Mem → Option (Int32 × Mem)) (s0 : Int32) (M : Mem) : Option (Int32 × Mem) :=
  if v2 = 7 then (if v6 = 0 then (f_X6_wholeOf_b274 r1 v2 v4 v5 k10 k134 s0 M) else (ob (f_X6_at v5 v4 M) (fun x19 M20 => if inb x19 64 then (if (M20 37 (Int32.toNatClampNeg x19)) = 0 then (if v7 = 0 then (ob (f_X6_isHeld r1 v5 v4 M20) (fun x21 M22 => if x21 = 0 then (f_X6_wholeOf_b270 r1 v2 v4 v5 k10 k134 s0 M22) else (f_X6_wholeOf_b274 r1 v2 v4 v5 k10 k134 s0 M22))) else (f_X6_wholeOf_b270 r1 v2 v4 v5 k10 k134 s0 M20)) else (f_X6_wholeOf_b274 r1 v2 v4 v5 k10 k134 s0 M20)) else none))) else (f_X6_wholeOf_b274 r1 v2 v4 v5 k10 k134 s0 M)
def f_X6_wholeOf_b214 (r1 : Nat) (v2 : Int32) (v4 : Int32) (v5 : Int32) (v6 : Int32) (v7 : Int32) (k10 : Int32 → Int32 → Mem → Option (Int32 × Mem)) (k134 : Int32 → Int32 → Mem → Option (Int32 × Mem)) (s0 : Int32) (s1 : Int32) (M : Mem) : Option (Int32 × Mem) :=
  if v2 = 4 then (if v7 = 0 then (f_X6_wholeOf_b227 r1 v2 v4 v5 v6 v7 k10 k134 (s1 + s0) M) else (f_X6_wholeOf_b270 r1 v2 v4 v5 k10 k134 (s1 + s0) M)) else (f_X6_wholeOf_b227 r1 v2 v4 v5 v6 v7 k10 k134 (s1 + s0) M)
def f_X6_wholeOf_b213 (r1 : Nat) (v2 : Int32) (v4 : Int32) (v5 : Int32) (v6 : Int32) (v7 : Int32) (k10 : Int32 → Int32 → Mem → Option (Int32 × Mem)) (k134 : Int32 → Int32 → Mem → Option (Int32 × Mem)) (s0 : Int32) (M : Mem) : Option (Int32 × Mem) :=
  f_X6_wholeOf_b214 r1 v2 v4 v5 v6 v7 k10 k134 0 s0 M
def f_X6_wholeOf_b165 (r1 : Nat) (v2 : Int32) (v3 : Int32) (v4 : Int32) (v5 : Int32) (k10 : Int32 → Int32 → Mem → Option (Int32 × Mem)) (k134 : Int32 → Int32 → Mem → Option (Int32 × Mem)) (s0 : Int32) (M : Mem) : Option (Int32 × Mem) :=
  ob (f_X6_isCutHere r1 v5 v4 M) (fun x15 M16 => if v2 ≤ 0 then (f_X6_wholeOf_b213 r1 v2 v4 v5 s0 x15 k10 k134 v3 M16) else (if 4 ≤ v2 then (f_X6_wholeOf_b213 r1 v2 v4 v5 s0 x15 k10 k134 v3 M16) else (if s0 = 0 then (f_X6_wholeOf_b213 r1 v2 v4 v5 s0 x15 k10 k134 v3 M16) else (ob (f_X6_at v5 v4 M16) (fun x17 M18 => if inb x17 64 then (if (M18 37 (Int32.toNatClampNeg x17)) = v2 then (f_X6_wholeOf_b214 r1 v2 v4 v5 s0 x15 k10 k134 1 v3 M18) else (f_X6_wholeOf_b213 r1 v2 v4 v5 s0 x15 k10 k134 v3 M18)) else none)))))
def f_X6_wholeOf_b134 (r1 : Nat) (v2 : Int32) (v4 : Int32) (k10 : Int32 → Int32 → Mem → Option (Int32 × Mem)) (k134 : Int32 → Int32 → Mem → Option (Int32 × Mem)) (v3 : Int32) (v5 : Int32) (M : Mem) : Option (Int32 × Mem) :=
  if inb 6 (lnA r1) then (if (M r1 (Int32.toNatClampNeg 6)) ≤ v5 then (k10 v3 (v4 + 1) M) else (ob (f_X6_at v5 v4 M) (fun x13 M14 => if inb x13 64 then (if (M14 36 (Int32.toNatClampNeg x13)) = (-9) then (f_X6_wholeOf_b165 r1 v2 v3 v4 v5 k10 k134 0 M14) else (f_X6_wholeOf_b165 r1 v2 v3 v4 v5 k10 k134 1 M14)) else none))) else none
def f_X6_wholeOf_b129 (r1 : Nat) (v2 : Int32) (v4 : Int32) (k10 : Int32 → Int32 → Mem → Option (Int32 × Mem)) (s0 : Int32) (s1 : Int32) (M : Mem) : Option (Int32 × Mem) :=
  lq2 (f_X6_wholeOf_b134 r1 v2 v4 k10) 9999 (s1 + s0) 0 M
def f_X6_wholeOf_b100 (r1 : Nat) (v2 : Int32) (v3 : Int32) (v4 : Int32) (k10 : Int32 → Int32 → Mem → Option (Int32 × Mem)) (M : Mem) : Option (Int32 × Mem) :=
  if v2 = 0 then (ob (f_X6_before v4 M) (fun x5 M6 => if inb v4 16 then (ob (f_X6_costOf r1 v4 x5 (M6 41 (Int32.toNatClampNeg v4)) M6) (fun x7 M8 => f_X6_wholeOf_b129 r1 v2 v4 k10 x7 v3 M8)) else none)) else (f_X6_wholeOf_b129 r1 v2 v4 k10 0 v3 M)
def f_X6_wholeOf_b22 (r1 : Nat) (v2 : Int32) (v4 : Int32) (k10 : Int32 → Int32 → Mem → Option (Int32 × Mem)) (k22 : Int32 → Int32 → Mem → Option (Int32 × Mem)) (v3 : Int32) (v5 : Int32) (M : Mem) : Option (Int32 × Mem) :=
  if 2 ≤ v5 then (f_X6_wholeOf_b100 r1 v2 v3 v4 k10 M) else (if v2 = 5 then (if inb v4 16 then (ob (f_X6_isRolled r1 v5 v4 (M 41 (Int32.toNatClampNeg v4)) M) (fun x3 M4 => if x3 = 0 then (f_X6_wholeOf_b57 r1 v2 v4 v5 k10 k22 v3 M4) else (f_X6_wholeOf_b58 r1 v2 v4 v5 k10 k22 1 v3 M4))) else none) else (f_X6_wholeOf_b57 r1 v2 v4 v5 k10 k22 v3 M))
def f_X6_wholeOf_b10 (r1 : Nat) (v2 : Int32) (k10 : Int32 → Int32 → Mem → Option (Int32 × Mem)) (v3 : Int32) (v4 : Int32) (M : Mem) : Option (Int32 × Mem) :=
  if inb 7 (lnA r1) then (if (M r1 (Int32.toNatClampNeg 7)) ≤ v4 then (some (v3, M)) else (lq2 (f_X6_wholeOf_b22 r1 v2 v4 k10) 9999 v3 0 M)) else none
def f_X6_wholeOf (r1 : Nat) (v2 : Int32) (M : Mem) : Option (Int32 × Mem) :=
  ob (f_X6_lay r1 M) (fun x1 M2 => lq2 (f_X6_wholeOf_b10 r1 v2) 9999 0 0 M2)
def f_X6_mend_b53 (r0 : Nat) (v1 : Int32) (v2 : Int32) (k2 : Int32 → Mem → Option (Unit × Mem)) (k12 : Int32 → Mem → Option (Unit × Mem)) (s0 : Int32) (s1 : Nat) (M : Mem) : Option (Unit × Mem) :=
  if inb s0 (lnA s1) then (k12 (v2 + 1) (mw M s1 (Int32.toNatClampNeg s0) (-9))) else none
def f_X6_mend_b58 (r0 : Nat) (v1 : Int32) (v2 : Int32) (v3 : Int32) (k2 : Int32 → Mem → Option (Unit × Mem)) (k12 : Int32 → Mem → Option (Unit × Mem)) (s0 : Int32) (s1 : Nat) (M : Mem) : Option (Unit × Mem) :=
  if inb v3 (lnA r0) then (if inb s0 (lnA s1) then (k12 (v2 + 1) (mw M s1 (Int32.toNatClampNeg s0) (M r0 (Int32.toNatClampNeg v3)))) else none) else none
def f_X6_mend_b12 (r0 : Nat) (v1 : Int32) (k2 : Int32 → Mem → Option (Unit × Mem)) (k12 : Int32 → Mem → Option (Unit × Mem)) (v2 : Int32) (M : Mem) : Option (Unit × Mem) :=
  if inb 7 (lnA r0) then (if (M r0 (Int32.toNatClampNeg 7)) ≤ v2 then (k2 (v1 + 1) M) else (ob (f_X6_at v1 v2 M) (fun x1 M2 => if inb (8 + x1) (lnA r0) then (if (M2 r0 (Int32.toNatClampNeg (8 + x1))) = 99 then (if v2 = 0 then (f_X6_mend_b53 r0 v1 v2 k2 k12 (8 + x1) r0 M2) else (if inb ((8 + x1) - 1) (lnA r0) then (if (M2 r0 (Int32.toNatClampNeg ((8 + x1) - 1))) = (-9) then (f_X6_mend_b53 r0 v1 v2 k2 k12 (8 + x1) r0 M2) else (f_X6_mend_b58 r0 v1 v2 (8 + x1) k2 k12 (8 + x1) r0 M2)) else none)) else (f_X6_mend_b58 r0 v1 v2 (8 + x1) k2 k12 (8 + x1) r0 M2)) else none))) else none
def f_X6_mend_b2 (r0 : Nat) (k2 : Int32 → Mem → Option (Unit × Mem)) (v1 : Int32) (M : Mem) : Option (Unit × Mem) :=
  if inb 6 (lnA r0) then (if (M r0 (Int32.toNatClampNeg 6)) ≤ v1 then (some ((), M)) else (lq1 (f_X6_mend_b12 r0 v1 k2) 9999 0 M)) else none
def f_X6_mend (r0 : Nat) (M : Mem) : Option (Unit × Mem) :=
  lq1 (f_X6_mend_b2 r0) 9999 0 M
def f_X6_append_b32 (v1 : Int32) (s0 : Int32) (M : Mem) : Option (Int32 × Mem) :=
  ob (f_X6_refused s0 M) (fun x3 M4 => if x3 = 0 then (if inb (M4 27 2) 140 then (some ((mw (mw M4 28 (Int32.toNatClampNeg (M4 27 2)) v1) 27 2 (((mw M4 28 (Int32.toNatClampNeg (M4 27 2)) v1) 27 2) + 1)) 27 2, (mw (mw M4 28 (Int32.toNatClampNeg (M4 27 2)) v1) 27 2 (((mw M4 28 (Int32.toNatClampNeg (M4 27 2)) v1) 27 2) + 1)))) else none) else (some (0, M4)))
def f_X6_append (v1 : Int32) (M : Mem) : Option (Int32 × Mem) :=
  ob (f_X6_in (Int32.toInt64 v1) 0 255 M) (fun x1 M2 => if x1 = 0 then (f_X6_append_b32 v1 1 M2) else (if (M2 27 2) = 140 then (f_X6_append_b32 v1 2 M2) else (f_X6_append_b32 v1 0 M2)))
def f_X6_clearText  (M : Mem) : Option (Int32 × Mem) :=
  some ((mw M 27 0 0) 27 2, (mw (mw M 27 0 0) 27 2 0))
def f_X6_eat_b29 (s0 : Int32) (M : Mem) : Option (Int32 × Mem) :=
  if s0 = 0 then (if s0 &&& 1 = s0 then some (s0, (mw M 27 3 ((M 27 3) + 0))) else none) else (if s0 &&& 1 = s0 then some (s0, (mw M 27 3 ((M 27 3) + 1))) else none)
def f_X6_eat_b28  (M : Mem) : Option (Int32 × Mem) :=
  f_X6_eat_b29 0 M
def f_X6_eat (v1 : Int32) (M : Mem) : Option (Int32 × Mem) :=
  if (M 27 2) ≤ (M 27 3) then (f_X6_eat_b28  M) else (if inb (M 27 3) 140 then (if (M 28 (Int32.toNatClampNeg (M 27 3))) = v1 then (f_X6_eat_b29 1 M) else (f_X6_eat_b28  M)) else none)
def f_X6_digit_b55 (v3 : Int32) (v4 : Int32) (s0 : Int32) (s1 : Int32) (M : Mem) : Option (Int32 × Mem) :=
  if v4 = 0 then (some ((-9), (mw M 27 3 (s1 + s0)))) else (some (v3, (mw M 27 3 (s1 + s0))))
def f_X6_digit_b28 (v1 : Int32) (v2 : Int32) (s0 : Int32) (M : Mem) : Option (Int32 × Mem) :=
  ob (f_X6_in (Int32.toInt64 s0) (Int32.toInt64 v1) (Int32.toInt64 v2) M) (fun x1 M2 => if x1 = 0 then (f_X6_digit_b55 s0 x1 0 (M2 27 3) M2) else (f_X6_digit_b55 s0 x1 1 (M2 27 3) M2))
def f_X6_digit (v1 : Int32) (v2 : Int32) (M : Mem) : Option (Int32 × Mem) :=
  if (M 27 2) ≤ (M 27 3) then (f_X6_digit_b28 v1 v2 (-9) M) else (if inb (M 27 3) 140 then (f_X6_digit_b28 v1 v2 ((M 28 (Int32.toNatClampNeg (M 27 3))) - 48) M) else none)
def f_X6_two_b56 (v3 : Int32) (s0 : Int32) (s1 : Int32) (M : Mem) : Option (Int32 × Mem) :=
  ob (f_X6_digit s1 s0 M) (fun x3 M4 => if x3 = (-9) then (some ((-9), M4)) else (some ((10 * v3) + x3, M4)))
def f_X6_two_b39 (v2 : Int32) (v3 : Int32) (s0 : Int32) (M : Mem) : Option (Int32 × Mem) :=
  if v3 = (v2 / 10) then (f_X6_two_b56 v3 (v2 - v2 / 10 * 10) s0 M) else (f_X6_two_b56 v3 9 s0 M)
def f_X6_two (v1 : Int32) (v2 : Int32) (M : Mem) : Option (Int32 × Mem) :=
  ob (f_X6_digit (v1 / 10) (v2 / 10) M) (fun x1 M2 => if x1 = (-9) then (some ((-9), M2)) else (if x1 = (v1 / 10) then (f_X6_two_b39 v2 x1 (v1 - v1 / 10 * 10) M2) else (f_X6_two_b39 v2 x1 0 M2)))
def f_X6_readCell_b56 (v3 : Int32) (M : Mem) : Option (Int32 × Mem) :=
  ob (f_X6_two 0 60 M) (fun x7 M8 => if inb v3 72 then (if inb v3 72 then (if ((mw M8 29 (Int32.toNatClampNeg v3) x7) 29 (Int32.toNatClampNeg v3)) = (-9) then (some (0, (mw M8 29 (Int32.toNatClampNeg v3) x7))) else (some (1, (mw M8 29 (Int32.toNatClampNeg v3) x7)))) else none) else none)
def f_X6_readCell (v1 : Int32) (v2 : Int32) (M : Mem) : Option (Int32 × Mem) :=
  ob (f_X6_at v1 v2 M) (fun x1 M2 => ob (f_X6_eat 45 M2) (fun x3 M4 => if x3 = 0 then (if v2 ≤ 0 then (f_X6_readCell_b56 (8 + x1) M4) else (if inb ((8 + x1) - 1) 72 then (if (M4 29 (Int32.toNatClampNeg ((8 + x1) - 1))) = (-9) then (f_X6_readCell_b56 (8 + x1) M4) else (ob (f_X6_eat 61 M4) (fun x5 M6 => if x5 = 0 then (f_X6_readCell_b56 (8 + x1) M6) else (if inb (8 + x1) 72 then (some (1, (mw M6 29 (Int32.toNatClampNeg (8 + x1)) 99))) else none)))) else none)) else (some (1, M4))))
def f_X6_readAll_b96 (v1 : Int32) (k83 : Int32 → Mem → Option (Int32 × Mem)) (k96 : Int32 → Mem → Option (Int32 × Mem)) (v2 : Int32) (M : Mem) : Option (Int32 × Mem) :=
  if inb 7 72 then (if (M 29 (Int32.toNatClampNeg 7)) ≤ v2 then (k83 (v1 + 1) M) else (ob (f_X6_readCell v1 v2 M) (fun x9 M10 => if x9 = 0 then (some (0, M10)) else (k96 (v2 + 1) M10)))) else none
def f_X6_readAll_b130  (M : Mem) : Option (Int32 × Mem) :=
  if (M 27 3) = (M 27 2) then (some (1, M)) else (some (0, M))
def f_X6_readAll_b83 (k83 : Int32 → Mem → Option (Int32 × Mem)) (v1 : Int32) (M : Mem) : Option (Int32 × Mem) :=
  if inb 6 72 then (if (M 29 (Int32.toNatClampNeg 6)) ≤ v1 then (f_X6_readAll_b130  M) else (lq1 (f_X6_readAll_b96 v1 k83) 9999 0 M)) else none
def f_X6_readAll_b66 (s0 : Int32) (s1 : Int32) (s2 : Nat) (M : Mem) : Option (Int32 × Mem) :=
  if inb s1 (lnA s2) then (if inb 7 72 then (if ((mw M s2 (Int32.toNatClampNeg s1) s0) 29 (Int32.toNatClampNeg 7)) = (-9) then (some (0, (mw M s2 (Int32.toNatClampNeg s1) s0))) else (lq1 (f_X6_readAll_b83 ) 9999 0 (mw M s2 (Int32.toNatClampNeg s1) s0))) else none) else none
def f_X6_readAll  (M : Mem) : Option (Int32 × Mem) :=
  ob (f_X6_begin 29 (mw M 27 3 0)) (fun x1 M2 => ob (f_X6_eat 77 M2) (fun x3 M4 => if x3 = 0 then (some (0, M4)) else (ob (f_X6_digit 1 4 M4) (fun x5 M6 => if inb 6 72 then (if inb 6 72 then (if ((mw M6 29 (Int32.toNatClampNeg 6) x5) 29 (Int32.toNatClampNeg 6)) = (-9) then (f_X6_readAll_b66 (-9) 7 29 (mw M6 29 (Int32.toNatClampNeg 6) x5)) else (ob (f_X6_two 1 16 (mw M6 29 (Int32.toNatClampNeg 6) x5)) (fun x7 M8 => f_X6_readAll_b66 x7 7 29 M8))) else none) else none))))
def f_X6_errorPosition  (M : Mem) : Option (Int32 × Mem) :=
  ob (f_X6_readAll  (mw M 27 0 0)) (fun x1 M2 => if x1 = 0 then (some (M2 27 3, M2)) else (some ((-9), M2)))
def f_X6_load_b13 (s0 : Int32) (M : Mem) : Option (Int32 × Mem) :=
  ob (f_X6_refused s0 M) (fun x3 M4 => if x3 = 0 then (ob (f_X6_copyPage 29 0 30 0 M4) (fun x5 M6 => if inb 0 2 then (if inb 1 2 then (if inb 7 72 then (some ((mw (mw (mw M6 27 9 0) 35 (Int32.toNatClampNeg 0) (vp_nar .boolean 0)) 35 (Int32.toNatClampNeg 1) (vp_nar .boolean 0)) 30 (Int32.toNatClampNeg 7), (mw (mw (mw M6 27 9 0) 35 (Int32.toNatClampNeg 0) (vp_nar .boolean 0)) 35 (Int32.toNatClampNeg 1) (vp_nar .boolean 0)))) else none) else none) else none)) else (some (0, M4)))
def f_X6_load  (M : Mem) : Option (Int32 × Mem) :=
  ob (f_X6_readAll  M) (fun x1 M2 => if x1 = 0 then (f_X6_load_b13 1 M2) else (f_X6_load_b13 0 M2))
def f_X6_cellsLike_b15 (r0 : Nat) (v1 : Int32) (v3 : Int32) (k4 : Int32 → Int32 → Mem → Option (Int32 × Mem)) (k15 : Int32 → Int32 → Mem → Option (Int32 × Mem)) (v2 : Int32) (v4 : Int32) (M : Mem) : Option (Int32 × Mem) :=
  if inb 7 (lnA r0) then (if (M r0 (Int32.toNatClampNeg 7)) ≤ v4 then (k4 v2 (v3 + 1) M) else (ob (f_X6_at v3 v4 M) (fun x1 M2 => if inb (8 + x1) (lnA r0) then (if v1 = 0 then (ob (f_X6_in (Int32.toInt64 (M2 r0 (Int32.toNatClampNeg (8 + x1)))) 0 60 M2) (fun x3 M4 => if x3 = 0 then (k15 (v2 + 0) (v4 + 1) M4) else (k15 (v2 + 1) (v4 + 1) M4))) else (if (M2 r0 (Int32.toNatClampNeg (8 + x1))) = 99 then (k15 (v2 + 1) (v4 + 1) M2) else (k15 (v2 + 0) (v4 + 1) M2))) else none))) else none
def f_X6_cellsLike_b4 (r0 : Nat) (v1 : Int32) (k4 : Int32 → Int32 → Mem → Option (Int32 × Mem)) (v2 : Int32) (v3 : Int32) (M : Mem) : Option (Int32 × Mem) :=
  if inb 6 (lnA r0) then (if (M r0 (Int32.toNatClampNeg 6)) ≤ v3 then (some (v2, M)) else (lq2 (f_X6_cellsLike_b15 r0 v1 v3 k4) 9999 v2 0 M)) else none
def f_X6_cellsLike (r0 : Nat) (v1 : Int32) (M : Mem) : Option (Int32 × Mem) :=
  lq2 (f_X6_cellsLike_b4 r0 v1) 9999 0 0 M
def f_X6_about_b56 (s0 : Int32) (s1 : Nat) (M : Mem) : Option (Int32 × Mem) :=
  ob (f_X6_cellsLike s1 s0 M) (fun x5 M6 => some (x5, M6))
def f_X6_about_b18 (v1 : Int32) (s0 : Int32) (M : Mem) : Option (Int32 × Mem) :=
  ob (f_X6_refused s0 M) (fun x3 M4 => if x3 = 0 then (if 8 ≤ v1 then (if v1 = 9 then (f_X6_about_b56 1 30 M4) else (f_X6_about_b56 0 30 M4)) else (if inb v1 72 then (some (M4 30 (Int32.toNatClampNeg v1), M4)) else none)) else (some (0, M4)))
def f_X6_about (v1 : Int32) (M : Mem) : Option (Int32 × Mem) :=
  ob (f_X6_in (Int32.toInt64 v1) 0 9 M) (fun x1 M2 => if x1 = 0 then (f_X6_about_b18 v1 1 M2) else (f_X6_about_b18 v1 0 M2))
def f_X6_isStaff (r0 : Nat) (v1 : Int32) (M : Mem) : Option (Int32 × Mem) :=
  if inb 6 (lnA r0) then (ob (f_X6_in (Int32.toInt64 v1) 0 (Int32.toInt64 ((M r0 (Int32.toNatClampNeg 6)) - 1)) M) (fun x1 M2 => if x1 &&& 1 = x1 then some (x1, M2) else none)) else none
def f_X6_isBeat (r0 : Nat) (v1 : Int32) (M : Mem) : Option (Int32 × Mem) :=
  if inb 7 (lnA r0) then (ob (f_X6_in (Int32.toInt64 v1) 0 (Int32.toInt64 ((M r0 (Int32.toNatClampNeg 7)) - 1)) M) (fun x1 M2 => if x1 &&& 1 = x1 then some (x1, M2) else none)) else none
def f_X6_isCell (r0 : Nat) (v1 : Int32) (v2 : Int32) (M : Mem) : Option (Int32 × Mem) :=
  ob (f_X6_isStaff r0 v1 M) (fun x1 M2 => if x1 = 0 then (some (0, M2)) else (ob (f_X6_isBeat r0 v2 M2) (fun x3 M4 => if x3 = 0 then (some (0, M4)) else (some (1, M4)))))
def f_X6_cell_b18 (v1 : Int32) (v2 : Int32) (v3 : Int32) (s0 : Int32) (M : Mem) : Option (Int32 × Mem) :=
  ob (f_X6_refused s0 M) (fun x3 M4 => if x3 = 0 then (ob (f_X6_laySounds 30 M4) (fun x5 M6 => if v3 = 0 then (ob (f_X6_at v1 v2 M6) (fun x7 M8 => if inb (8 + x7) 72 then (some (M8 30 (Int32.toNatClampNeg (8 + x7)), M8)) else none)) else (ob (f_X6_at v1 v2 M6) (fun x9 M10 => if inb x9 64 then (some (M10 36 (Int32.toNatClampNeg x9), M10)) else none)))) else (some (0, M4)))
def f_X6_cell (v1 : Int32) (v2 : Int32) (v3 : Int32) (M : Mem) : Option (Int32 × Mem) :=
  ob (f_X6_isCell 30 v1 v2 M) (fun x1 M2 => if x1 = 0 then (f_X6_cell_b18 v1 v2 v3 1 M2) else (f_X6_cell_b18 v1 v2 v3 0 M2))
def f_X6_remember_b49  (M : Mem) : Option (Unit × Mem) :=
  ob (f_X6_copyPage 30 0 33 (72 * (M 27 9)) M) (fun x1 M2 => some ((), (mw M2 27 9 ((M2 27 9) + 1))))
def f_X6_remember_b39  (M : Mem) : Option (Unit × Mem) :=
  f_X6_remember_b49  (mw M 27 9 ((M 27 9) - 1))
def f_X6_remember_b11 (k11 : Int32 → Mem → Option (Unit × Mem)) (v1 : Int32) (M : Mem) : Option (Unit × Mem) :=
  if 936 ≤ v1 then (f_X6_remember_b39  M) else (if inb (v1 + 72) 1008 then (if inb v1 1008 then (k11 (v1 + 1) (mw M 33 (Int32.toNatClampNeg v1) (M 33 (Int32.toNatClampNeg (v1 + 72))))) else none) else none)
def f_X6_remember  (M : Mem) : Option (Unit × Mem) :=
  if (M 27 9) = 14 then (lq1 (f_X6_remember_b11 ) 9999 0 M) else (f_X6_remember_b49  M)
def f_X6_set_b14 (v1 : Int32) (v2 : Int32) (s0 : Int32) (M : Mem) : Option (Int32 × Mem) :=
  ob (f_X6_refused s0 M) (fun x3 M4 => if x3 = 0 then (ob (f_X6_remember  M4) (fun x5 M6 => if inb v1 72 then (if inb v1 72 then (some (M6 30 (Int32.toNatClampNeg v1), (mw M6 30 (Int32.toNatClampNeg v1) v2))) else none) else none)) else (some (0, M4)))
def f_X6_set (v1 : Int32) (v2 : Int32) (M : Mem) : Option (Int32 × Mem) :=
  ob (f_X6_isSetting v1 v2 M) (fun x1 M2 => if x1 = 0 then (f_X6_set_b14 v1 v2 1 M2) else (f_X6_set_b14 v1 v2 0 M2))
def f_X6_canWrite_b27  (M : Mem) : Option (Int32 × Mem) :=
  some (1, M)
def f_X6_canWrite (r0 : Nat) (v1 : Int32) (v2 : Int32) (v3 : Int32) (M : Mem) : Option (Int32 × Mem) :=
  if v3 = 99 then (if v2 ≤ 0 then (some (0, M)) else (ob (f_X6_at v1 v2 M) (fun x1 M2 => if inb ((8 + x1) - 1) (lnA r0) then (if (M2 r0 (Int32.toNatClampNeg ((8 + x1) - 1))) = (-9) then (some (0, M2)) else (f_X6_canWrite_b27  M2)) else none))) else (f_X6_canWrite_b27  M)
def f_X6_put_b19 (r0 : Nat) (s0 : Int32) (s1 : Int32) (s2 : Nat) (M : Mem) : Option (Unit × Mem) :=
  if inb s1 (lnA s2) then (ob (f_X6_mend r0 (mw M s2 (Int32.toNatClampNeg s1) s0)) (fun x3 M4 => some ((), M4))) else none
def f_X6_put (r0 : Nat) (v1 : Int32) (v2 : Int32) (v3 : Int32) (M : Mem) : Option (Unit × Mem) :=
  ob (f_X6_at v1 v2 M) (fun x1 M2 => if 0 ≤ v3 then (f_X6_put_b19 r0 v3 (8 + x1) r0 M2) else (f_X6_put_b19 r0 (-9) (8 + x1) r0 M2))
def f_X6_write_b63 (v1 : Int32) (v2 : Int32) (v3 : Int32) (s0 : Int32) (M : Mem) : Option (Int32 × Mem) :=
  ob (f_X6_refused s0 M) (fun x7 M8 => if x7 = 0 then (ob (f_X6_remember  M8) (fun x9 M10 => ob (f_X6_at v1 v2 M10) (fun x11 M12 => if inb (8 + x11) 72 then (ob (f_X6_put 30 v1 v2 v3 M12) (fun x13 M14 => some (M12 30 (Int32.toNatClampNeg (8 + x11)), M14))) else none))) else (some (0, M8)))
def f_X6_write_b45 (v1 : Int32) (v2 : Int32) (v3 : Int32) (M : Mem) : Option (Int32 × Mem) :=
  ob (f_X6_canWrite 30 v1 v2 v3 M) (fun x5 M6 => if x5 = 0 then (f_X6_write_b63 v1 v2 v3 3 M6) else (f_X6_write_b63 v1 v2 v3 0 M6))
def f_X6_write (v1 : Int32) (v2 : Int32) (v3 : Int32) (M : Mem) : Option (Int32 × Mem) :=
  ob (f_X6_isCell 30 v1 v2 M) (fun x1 M2 => if x1 = 0 then (f_X6_write_b63 v1 v2 v3 1 M2) else (ob (f_X6_in (Int32.toInt64 v3) (-1) 60 M2) (fun x3 M4 => if x3 = 0 then (if v3 = 99 then (f_X6_write_b45 v1 v2 v3 M4) else (f_X6_write_b63 v1 v2 v3 2 M4)) else (f_X6_write_b45 v1 v2 v3 M4))))
def f_X6_canShift_b59 (r0 : Nat) (v1 : Int32) (v2 : Int32) (v4 : Int32) (k5 : Int32 → Int32 → Mem → Option (Int32 × Mem)) (M : Mem) : Option (Int32 × Mem) :=
  k5 1 (v4 + 1) M
def f_X6_canShift_b5 (r0 : Nat) (v1 : Int32) (v2 : Int32) (k5 : Int32 → Int32 → Mem → Option (Int32 × Mem)) (v3 : Int32) (v4 : Int32) (M : Mem) : Option (Int32 × Mem) :=
  if inb 7 (lnA r0) then (if (M r0 (Int32.toNatClampNeg 7)) ≤ v4 then (if v3 &&& 1 = v3 then some (v3, M) else none) else (ob (f_X6_at v1 v4 M) (fun x1 M2 => if inb (8 + x1) (lnA r0) then (if v3 = 0 then (k5 0 (v4 + 1) M2) else (ob (f_X6_in (Int32.toInt64 (M2 r0 (Int32.toNatClampNeg (8 + x1)))) 0 60 M2) (fun x3 M4 => if x3 = 0 then (f_X6_canShift_b59 r0 v1 v2 v4 k5 M4) else (ob (f_X6_in (Int32.toInt64 ((M2 r0 (Int32.toNatClampNeg (8 + x1))) + v2)) 0 60 M4) (fun x5 M6 => if x5 = 0 then (k5 0 (v4 + 1) M6) else (f_X6_canShift_b59 r0 v1 v2 v4 k5 M6)))))) else none))) else none
def f_X6_canShift (r0 : Nat) (v1 : Int32) (v2 : Int32) (M : Mem) : Option (Int32 × Mem) :=
  lq2 (f_X6_canShift_b5 r0 v1 v2) 9999 1 0 M
def f_X6_shift_b5 (r0 : Nat) (v1 : Int32) (v2 : Int32) (k5 : Int32 → Int32 → Mem → Option (Int32 × Mem)) (v3 : Int32) (v4 : Int32) (M : Mem) : Option (Int32 × Mem) :=
  if inb 7 (lnA r0) then (if (M r0 (Int32.toNatClampNeg 7)) ≤ v4 then (some (v3, M)) else (ob (f_X6_at v1 v4 M) (fun x1 M2 => if inb (8 + x1) (lnA r0) then (ob (f_X6_in (Int32.toInt64 (M2 r0 (Int32.toNatClampNeg (8 + x1)))) 0 60 M2) (fun x3 M4 => if x3 = 0 then (k5 v3 (v4 + 1) M4) else (if inb (8 + x1) (lnA r0) then (if inb (8 + x1) (lnA r0) then (k5 (v3 + 1) (v4 + 1) (mw M4 r0 (Int32.toNatClampNeg (8 + x1)) ((M4 r0 (Int32.toNatClampNeg (8 + x1))) + v2))) else none) else none))) else none))) else none
def f_X6_shift (r0 : Nat) (v1 : Int32) (v2 : Int32) (M : Mem) : Option (Int32 × Mem) :=
  lq2 (f_X6_shift_b5 r0 v1 v2) 9999 0 0 M
def f_X6_transpose_b51 (v1 : Int32) (v2 : Int32) (s0 : Int32) (M : Mem) : Option (Int32 × Mem) :=
  ob (f_X6_refused s0 M) (fun x7 M8 => if x7 = 0 then (ob (f_X6_remember  M8) (fun x9 M10 => ob (f_X6_shift 30 v1 v2 M10) (fun x11 M12 => some (x11, M12)))) else (some (0, M8)))
def f_X6_transpose (v1 : Int32) (v2 : Int32) (M : Mem) : Option (Int32 × Mem) :=
  ob (f_X6_isStaff 30 v1 M) (fun x1 M2 => if x1 = 0 then (f_X6_transpose_b51 v1 v2 1 M2) else (ob (f_X6_in (Int32.toInt64 v2) (-60) 60 M2) (fun x3 M4 => if x3 = 0 then (f_X6_transpose_b51 v1 v2 2 M4) else (ob (f_X6_canShift 30 v1 v2 M4) (fun x5 M6 => if x5 = 0 then (f_X6_transpose_b51 v1 v2 3 M6) else (f_X6_transpose_b51 v1 v2 0 M6))))))
def f_X6_swap_b53 (r0 : Nat) (v1 : Int32) (v2 : Int32) (v4 : Int32) (v5 : Int32) (v6 : Int32) (k5 : Int32 → Int32 → Mem → Option (Int32 × Mem)) (s0 : Int32) (s1 : Int32) (M : Mem) : Option (Int32 × Mem) :=
  ob (f_X6_at v1 v4 M) (fun x5 M6 => if inb (8 + x5) (lnA r0) then (ob (f_X6_at v2 v4 (mw M6 r0 (Int32.toNatClampNeg (8 + x5)) v6)) (fun x7 M8 => if inb (8 + x7) (lnA r0) then (k5 (s1 + s0) (v4 + 1) (mw M8 r0 (Int32.toNatClampNeg (8 + x7)) v5)) else none)) else none)
def f_X6_swap_b5 (r0 : Nat) (v1 : Int32) (v2 : Int32) (k5 : Int32 → Int32 → Mem → Option (Int32 × Mem)) (v3 : Int32) (v4 : Int32) (M : Mem) : Option (Int32 × Mem) :=
  if inb 7 (lnA r0) then (if (M r0 (Int32.toNatClampNeg 7)) ≤ v4 then (some (v3, M)) else (ob (f_X6_at v1 v4 M) (fun x1 M2 => if inb (8 + x1) (lnA r0) then (ob (f_X6_at v2 v4 M2) (fun x3 M4 => if inb (8 + x3) (lnA r0) then (if (M2 r0 (Int32.toNatClampNeg (8 + x1))) = (M4 r0 (Int32.toNatClampNeg (8 + x3))) then (f_X6_swap_b53 r0 v1 v2 v4 (M2 r0 (Int32.toNatClampNeg (8 + x1))) (M4 r0 (Int32.toNatClampNeg (8 + x3))) k5 0 v3 M4) else (f_X6_swap_b53 r0 v1 v2 v4 (M2 r0 (Int32.toNatClampNeg (8 + x1))) (M4 r0 (Int32.toNatClampNeg (8 + x3))) k5 1 v3 M4)) else none)) else none))) else none
def f_X6_swap (r0 : Nat) (v1 : Int32) (v2 : Int32) (M : Mem) : Option (Int32 × Mem) :=
  lq2 (f_X6_swap_b5 r0 v1 v2) 9999 0 0 M
def f_X6_exchange_b28 (v1 : Int32) (v2 : Int32) (s0 : Int32) (M : Mem) : Option (Int32 × Mem) :=
  ob (f_X6_refused s0 M) (fun x5 M6 => if x5 = 0 then (ob (f_X6_remember  M6) (fun x7 M8 => ob (f_X6_swap 30 v1 v2 M8) (fun x9 M10 => some (x9, M10)))) else (some (0, M6)))
def f_X6_exchange_b27 (v1 : Int32) (v2 : Int32) (M : Mem) : Option (Int32 × Mem) :=
  f_X6_exchange_b28 v1 v2 1 M
def f_X6_exchange (v1 : Int32) (v2 : Int32) (M : Mem) : Option (Int32 × Mem) :=
  ob (f_X6_isStaff 30 v1 M) (fun x1 M2 => if x1 = 0 then (f_X6_exchange_b27 v1 v2 M2) else (ob (f_X6_isStaff 30 v2 M2) (fun x3 M4 => if x3 = 0 then (f_X6_exchange_b27 v1 v2 M4) else (f_X6_exchange_b28 v1 v2 0 M4))))
def f_X6_staff_b104 (s0 : Int32) (s1 : Int32) (s2 : Int32) (s3 : Nat) (M : Mem) : Option (Int32 × Mem) :=
  if inb s2 (lnA s3) then (if inb 6 72 then (some ((mw M s3 (Int32.toNatClampNeg s2) (s1 + s0)) 30 (Int32.toNatClampNeg 6), (mw M s3 (Int32.toNatClampNeg s2) (s1 + s0)))) else none) else none
def f_X6_staff_b87 (v1 : Int32) (M : Mem) : Option (Int32 × Mem) :=
  if inb 6 72 then (if v1 = 0 then (f_X6_staff_b104 0 (M 30 (Int32.toNatClampNeg 6)) 6 30 M) else (f_X6_staff_b104 1 (M 30 (Int32.toNatClampNeg 6)) 6 30 M)) else none
def f_X6_staff_b54 (v1 : Int32) (k54 : Int32 → Mem → Option (Int32 × Mem)) (v2 : Int32) (M : Mem) : Option (Int32 × Mem) :=
  if 16 ≤ v2 then (f_X6_staff_b87 v1 M) else (if inb 6 72 then (ob (f_X6_at (M 30 (Int32.toNatClampNeg 6)) v2 M) (fun x5 M6 => if inb (8 + x5) 72 then (k54 (v2 + 1) (mw M6 30 (Int32.toNatClampNeg (8 + x5)) (-9))) else none)) else none)
def f_X6_staff_b52 (v1 : Int32) (M : Mem) : Option (Int32 × Mem) :=
  lq1 (f_X6_staff_b54 v1) 9999 0 M
def f_X6_staff_b25 (v1 : Int32) (s0 : Int32) (M : Mem) : Option (Int32 × Mem) :=
  ob (f_X6_refused s0 M) (fun x1 M2 => if x1 = 0 then (ob (f_X6_remember  M2) (fun x3 M4 => if v1 = 0 then (if inb 6 72 then (if inb 6 72 then (f_X6_staff_b52 v1 (mw M4 30 (Int32.toNatClampNeg 6) ((M4 30 (Int32.toNatClampNeg 6)) - 1))) else none) else none) else (f_X6_staff_b52 v1 M4))) else (some (0, M2)))
def f_X6_staff_b17 (v1 : Int32) (s0 : Int32) (s1 : Int32) (M : Mem) : Option (Int32 × Mem) :=
  if s1 = s0 then (f_X6_staff_b25 v1 1 M) else (f_X6_staff_b25 v1 0 M)
def f_X6_staff (v1 : Int32) (M : Mem) : Option (Int32 × Mem) :=
  if inb 6 72 then (if v1 = 0 then (f_X6_staff_b17 v1 1 (M 30 (Int32.toNatClampNeg 6)) M) else (f_X6_staff_b17 v1 4 (M 30 (Int32.toNatClampNeg 6)) M)) else none
def f_X6_insertBeat_b111 (v1 : Int32) (v2 : Int32) (k53 : Int32 → Mem → Option (Int32 × Mem)) (M : Mem) : Option (Int32 × Mem) :=
  ob (f_X6_at v2 v1 M) (fun x13 M14 => if inb (8 + x13) 72 then (k53 (v2 + 1) (mw M14 30 (Int32.toNatClampNeg (8 + x13)) (-9))) else none)
def f_X6_insertBeat_b72 (v1 : Int32) (v2 : Int32) (k53 : Int32 → Mem → Option (Int32 × Mem)) (k72 : Int32 → Mem → Option (Int32 × Mem)) (v3 : Int32) (M : Mem) : Option (Int32 × Mem) :=
  if v3 ≤ v1 then (f_X6_insertBeat_b111 v1 v2 k53 M) else (ob (f_X6_at v2 v3 M) (fun x9 M10 => ob (f_X6_at v2 (v3 - 1) M10) (fun x11 M12 => if inb (8 + x11) 72 then (if inb (8 + x9) 72 then (k72 (v3 + (-1)) (mw M12 30 (Int32.toNatClampNeg (8 + x9)) (M12 30 (Int32.toNatClampNeg (8 + x11))))) else none) else none)))
def f_X6_insertBeat_b132  (M : Mem) : Option (Int32 × Mem) :=
  if inb 7 72 then (if inb 7 72 then (ob (f_X6_mend 30 (mw M 30 (Int32.toNatClampNeg 7) ((M 30 (Int32.toNatClampNeg 7)) + 1))) (fun x7 M8 => if inb 7 72 then (some (M8 30 (Int32.toNatClampNeg 7), M8)) else none)) else none) else none
def f_X6_insertBeat_b53 (v1 : Int32) (k53 : Int32 → Mem → Option (Int32 × Mem)) (v2 : Int32) (M : Mem) : Option (Int32 × Mem) :=
  if inb 6 72 then (if (M 30 (Int32.toNatClampNeg 6)) ≤ v2 then (f_X6_insertBeat_b132  M) else (if inb 7 72 then (lq1 (f_X6_insertBeat_b72 v1 v2 k53) 9999 (M 30 (Int32.toNatClampNeg 7)) M) else none)) else none
def f_X6_insertBeat_b39 (v1 : Int32) (s0 : Int32) (M : Mem) : Option (Int32 × Mem) :=
  ob (f_X6_refused s0 M) (fun x3 M4 => if x3 = 0 then (ob (f_X6_remember  M4) (fun x5 M6 => lq1 (f_X6_insertBeat_b53 v1) 9999 0 M6)) else (some (0, M4)))
def f_X6_insertBeat (v1 : Int32) (M : Mem) : Option (Int32 × Mem) :=
  if inb 7 72 then (ob (f_X6_in (Int32.toInt64 v1) 0 (Int32.toInt64 (M 30 (Int32.toNatClampNeg 7))) M) (fun x1 M2 => if x1 = 0 then (f_X6_insertBeat_b39 v1 1 M2) else (if inb 7 72 then (if (M2 30 (Int32.toNatClampNeg 7)) = 16 then (f_X6_insertBeat_b39 v1 2 M2) else (f_X6_insertBeat_b39 v1 0 M2)) else none))) else none
def f_X6_dropBeat_b50 (r0 : Nat) (v1 : Int32) (v2 : Int32) (k2 : Int32 → Mem → Option (Unit × Mem)) (M : Mem) : Option (Unit × Mem) :=
  if inb 7 (lnA r0) then (ob (f_X6_at v2 ((M r0 (Int32.toNatClampNeg 7)) - 1) M) (fun x7 M8 => if inb (8 + x7) (lnA r0) then (k2 (v2 + 1) (mw M8 r0 (Int32.toNatClampNeg (8 + x7)) (-9))) else none)) else none
def f_X6_dropBeat_b12 (r0 : Nat) (v1 : Int32) (v2 : Int32) (k2 : Int32 → Mem → Option (Unit × Mem)) (k12 : Int32 → Mem → Option (Unit × Mem)) (v3 : Int32) (M : Mem) : Option (Unit × Mem) :=
  if inb 7 (lnA r0) then (if (M r0 (Int32.toNatClampNeg 7)) ≤ (v3 + 1) then (f_X6_dropBeat_b50 r0 v1 v2 k2 M) else (ob (f_X6_at v2 v3 M) (fun x3 M4 => ob (f_X6_at v2 (v3 + 1) M4) (fun x5 M6 => if inb (8 + x5) (lnA r0) then (if inb (8 + x3) (lnA r0) then (k12 (v3 + 1) (mw M6 r0 (Int32.toNatClampNeg (8 + x3)) (M6 r0 (Int32.toNatClampNeg (8 + x5))))) else none) else none)))) else none
def f_X6_dropBeat_b73 (r0 : Nat) (M : Mem) : Option (Unit × Mem) :=
  if inb 7 (lnA r0) then (if inb 7 (lnA r0) then (ob (f_X6_mend r0 (mw M r0 (Int32.toNatClampNeg 7) ((M r0 (Int32.toNatClampNeg 7)) - 1))) (fun x1 M2 => some ((), M2))) else none) else none
def f_X6_dropBeat_b2 (r0 : Nat) (v1 : Int32) (k2 : Int32 → Mem → Option (Unit × Mem)) (v2 : Int32) (M : Mem) : Option (Unit × Mem) :=
  if inb 6 (lnA r0) then (if (M r0 (Int32.toNatClampNeg 6)) ≤ v2 then (f_X6_dropBeat_b73 r0 M) else (lq1 (f_X6_dropBeat_b12 r0 v1 v2 k2) 9999 v1 M)) else none
def f_X6_dropBeat (r0 : Nat) (v1 : Int32) (M : Mem) : Option (Unit × Mem) :=
  lq1 (f_X6_dropBeat_b2 r0 v1) 9999 0 M
def f_X6_removeBeat_b32 (v1 : Int32) (s0 : Int32) (M : Mem) : Option (Int32 × Mem) :=
  ob (f_X6_refused s0 M) (fun x3 M4 => if x3 = 0 then (ob (f_X6_remember  M4) (fun x5 M6 => ob (f_X6_dropBeat 30 v1 M6) (fun x7 M8 => if inb 7 72 then (some (M8 30 (Int32.toNatClampNeg 7), M8)) else none))) else (some (0, M4)))
def f_X6_removeBeat (v1 : Int32) (M : Mem) : Option (Int32 × Mem) :=
  ob (f_X6_isBeat 30 v1 M) (fun x1 M2 => if x1 = 0 then (f_X6_removeBeat_b32 v1 1 M2) else (if inb 7 72 then (if (M2 30 (Int32.toNatClampNeg 7)) = 1 then (f_X6_removeBeat_b32 v1 2 M2) else (f_X6_removeBeat_b32 v1 0 M2)) else none))
def f_X6_undo_b13 (s0 : Int32) (M : Mem) : Option (Int32 × Mem) :=
  ob (f_X6_refused s0 M) (fun x1 M2 => if x1 = 0 then (ob (f_X6_copyPage 33 (72 * ((mw M2 27 9 ((M2 27 9) - 1)) 27 9)) 30 0 (mw M2 27 9 ((M2 27 9) - 1))) (fun x3 M4 => some (M4 27 9, M4))) else (some (0, M2)))
def f_X6_undo  (M : Mem) : Option (Int32 × Mem) :=
  if (M 27 9) = 0 then (f_X6_undo_b13 1 M) else (f_X6_undo_b13 0 M)
def f_X6_note_b169  (M : Mem) : Option (Int32 × Mem) :=
  some (1, M)
def f_X6_note_b34 (v1 : Int32) (v2 : Int32) (v3 : Int32) (s0 : Int32) (M : Mem) : Option (Int32 × Mem) :=
  ob (f_X6_refused s0 M) (fun x5 M6 => if x5 = 0 then (ob (f_X6_lay 30 M6) (fun x7 M8 => ob (f_X6_at v1 v2 M8) (fun x9 M10 => if inb x9 64 then (if (M10 36 (Int32.toNatClampNeg x9)) = (-9) then (some ((-9), M10)) else (if inb v2 16 then (ob (f_X6_handOf v1 v2 (M10 41 (Int32.toNatClampNeg v2)) M10) (fun x11 M12 => ob (f_X6_isCutHere 30 v1 v2 M12) (fun x13 M14 => if v3 = 0 then (some (x11, M14)) else (if v3 = 1 then (ob (f_X6_at v1 v2 M14) (fun x17 M18 => if inb x17 64 then (some (M18 37 (Int32.toNatClampNeg x17), M18)) else none)) else (if v3 = 3 then (if x13 = 0 then (some (0, M14)) else (some (1, M14))) else (if x11 = (-9) then (some ((-9), M14)) else (if x13 = 0 then (ob (f_X6_isHeld 30 v1 v2 M14) (fun x15 M16 => if x15 = 0 then (f_X6_note_b169  M16) else (some (0, M16)))) else (f_X6_note_b169  M14)))))))) else none)) else none))) else (some (0, M6)))
def f_X6_note (v1 : Int32) (v2 : Int32) (v3 : Int32) (M : Mem) : Option (Int32 × Mem) :=
  ob (f_X6_isCell 30 v1 v2 M) (fun x1 M2 => if x1 = 0 then (f_X6_note_b34 v1 v2 v3 1 M2) else (ob (f_X6_in (Int32.toInt64 v3) 0 3 M2) (fun x3 M4 => if x3 = 0 then (f_X6_note_b34 v1 v2 v3 2 M4) else (f_X6_note_b34 v1 v2 v3 0 M4))))
def f_X6_hand_b43 (v1 : Int32) (v2 : Int32) (v3 : Int32) (s0 : Int32) (M : Mem) : Option (Int32 × Mem) :=
  ob (f_X6_refused s0 M) (fun x7 M8 => if x7 = 0 then (ob (f_X6_lay 30 M8) (fun x9 M10 => if inb v2 16 then (if v3 = 0 then (ob (f_X6_to v1 v2 (M10 41 (Int32.toNatClampNeg v2)) M10) (fun x11 M12 => ob (f_X6_from v1 (M10 41 (Int32.toNatClampNeg v2)) M12) (fun x13 M14 => some (x11 - x13, M14)))) else (if v3 = 1 then (ob (f_X6_position v1 v2 (M10 41 (Int32.toNatClampNeg v2)) M10) (fun x15 M16 => some (x15, M16))) else (if v3 = 2 then (ob (f_X6_from v1 (M10 41 (Int32.toNatClampNeg v2)) M10) (fun x17 M18 => ob (f_X6_to v1 v2 (M10 41 (Int32.toNatClampNeg v2)) M18) (fun x19 M20 => ob (f_X6_width v2 x17 x19 M20) (fun x21 M22 => some (x21, M22))))) else (if v3 = 3 then (ob (f_X6_isRolled 30 v1 v2 (M10 41 (Int32.toNatClampNeg v2)) M10) (fun x23 M24 => if x23 = 0 then (some (0, M24)) else (some (1, M24)))) else (ob (f_X6_before v2 M10) (fun x25 M26 => ob (f_X6_move v1 v2 x25 (M10 41 (Int32.toNatClampNeg v2)) M26) (fun x27 M28 => some (x27, M28)))))))) else none)) else (some (0, M8)))
def f_X6_hand_b22 (v1 : Int32) (v2 : Int32) (v3 : Int32) (M : Mem) : Option (Int32 × Mem) :=
  f_X6_hand_b43 v1 v2 v3 1 M
def f_X6_hand (v1 : Int32) (v2 : Int32) (v3 : Int32) (M : Mem) : Option (Int32 × Mem) :=
  ob (f_X6_in (Int32.toInt64 v1) 0 1 M) (fun x1 M2 => if x1 = 0 then (f_X6_hand_b22 v1 v2 v3 M2) else (ob (f_X6_isBeat 30 v2 M2) (fun x3 M4 => if x3 = 0 then (f_X6_hand_b22 v1 v2 v3 M4) else (ob (f_X6_in (Int32.toInt64 v3) 0 4 M4) (fun x5 M6 => if x5 = 0 then (f_X6_hand_b43 v1 v2 v3 2 M6) else (f_X6_hand_b43 v1 v2 v3 0 M6))))))
def f_X6_beat_b89 (v1 : Int32) (v2 : Int32) (v3 : Int32) (M : Mem) : Option (Int32 × Mem) :=
  if v2 = 0 then (if inb v1 16 then (some (M 41 (Int32.toNatClampNeg v1), M)) else none) else (if v2 = 1 then (some (v3, M)) else (if v2 = 2 then (ob (f_X6_before v1 M) (fun x11 M12 => if inb v1 16 then (ob (f_X6_costOf 30 v1 x11 (M12 41 (Int32.toNatClampNeg v1)) M12) (fun x13 M14 => some (x13, M14))) else none)) else (if v2 = 3 then (if inb v1 16 then (some (M 39 (Int32.toNatClampNeg v1), M)) else none) else (if inb v1 16 then (some (M 40 (Int32.toNatClampNeg v1), M)) else none))))
def f_X6_beat_b54 (v1 : Int32) (v2 : Int32) (k54 : Int32 → Int32 → Mem → Option (Int32 × Mem)) (v3 : Int32) (v4 : Int32) (M : Mem) : Option (Int32 × Mem) :=
  if inb v1 16 then (if (M 39 (Int32.toNatClampNeg v1)) < v4 then (f_X6_beat_b89 v1 v2 v3 M) else (ob (f_X6_can v1 v4 M) (fun x9 M10 => if x9 = 0 then (k54 (v3 + 0) (v4 + 1) M10) else (k54 (v3 + 1) (v4 + 1) M10)))) else none
def f_X6_beat_b33 (v1 : Int32) (v2 : Int32) (s0 : Int32) (M : Mem) : Option (Int32 × Mem) :=
  ob (f_X6_refused s0 M) (fun x5 M6 => if x5 = 0 then (ob (f_X6_lay 30 M6) (fun x7 M8 => lq2 (f_X6_beat_b54 v1 v2) 9999 0 0 M8)) else (some (0, M6)))
def f_X6_beat (v1 : Int32) (v2 : Int32) (M : Mem) : Option (Int32 × Mem) :=
  ob (f_X6_isBeat 30 v1 M) (fun x1 M2 => if x1 = 0 then (f_X6_beat_b33 v1 v2 1 M2) else (ob (f_X6_in (Int32.toInt64 v2) 0 4 M2) (fun x3 M4 => if x3 = 0 then (f_X6_beat_b33 v1 v2 2 M4) else (f_X6_beat_b33 v1 v2 0 M4))))
def f_X6_whole_b18 (v1 : Int32) (s0 : Int32) (M : Mem) : Option (Int32 × Mem) :=
  ob (f_X6_refused s0 M) (fun x3 M4 => if x3 = 0 then (ob (f_X6_wholeOf 30 v1 M4) (fun x5 M6 => some (x5, M6))) else (some (0, M4)))
def f_X6_whole (v1 : Int32) (M : Mem) : Option (Int32 × Mem) :=
  ob (f_X6_in (Int32.toInt64 v1) 0 7 M) (fun x1 M2 => if x1 = 0 then (f_X6_whole_b18 v1 1 M2) else (f_X6_whole_b18 v1 0 M2))
def f_X6_whatIf_b26 (v1 : Int32) (v2 : Int32) (v3 : Int32) (s0 : Int32) (M : Mem) : Option (Int32 × Mem) :=
  ob (f_X6_refused s0 M) (fun x5 M6 => if x5 = 0 then (ob (f_X6_copyPage 30 0 32 0 M6) (fun x7 M8 => if inb v1 72 then (ob (f_X6_wholeOf 32 v3 (mw M8 32 (Int32.toNatClampNeg v1) v2)) (fun x9 M10 => some (x9, M10))) else none)) else (some (0, M6)))
def f_X6_whatIf_b25 (v1 : Int32) (v2 : Int32) (v3 : Int32) (M : Mem) : Option (Int32 × Mem) :=
  f_X6_whatIf_b26 v1 v2 v3 1 M
def f_X6_whatIf (v1 : Int32) (v2 : Int32) (v3 : Int32) (M : Mem) : Option (Int32 × Mem) :=
  ob (f_X6_isSetting v1 v2 M) (fun x1 M2 => if x1 = 0 then (f_X6_whatIf_b25 v1 v2 v3 M2) else (ob (f_X6_in (Int32.toInt64 v3) 0 7 M2) (fun x3 M4 => if x3 = 0 then (f_X6_whatIf_b25 v1 v2 v3 M4) else (f_X6_whatIf_b26 v1 v2 v3 0 M4))))
def f_X6_smallestSpan_b20 (k20 : Int32 → Mem → Option (Int32 × Mem)) (v1 : Int32) (M : Mem) : Option (Int32 × Mem) :=
  if 24 < v1 then (some ((-9), M)) else (if inb 0 72 then (if inb 1 72 then (ob (f_X6_wholeOf 32 3 (mw (mw M 32 (Int32.toNatClampNeg 0) v1) 32 (Int32.toNatClampNeg 1) v1)) (fun x3 M4 => if x3 = 0 then (some (v1, M4)) else (k20 (v1 + 1) M4))) else none) else none)
def f_X6_smallestSpan  (M : Mem) : Option (Int32 × Mem) :=
  ob (f_X6_copyPage 30 0 32 0 (mw M 27 0 0)) (fun x1 M2 => lq1 (f_X6_smallestSpan_b20 ) 9999 1 M2)
def f_X6_dearest_b108 (v2 : Int32) (v3 : Int32) (v4 : Int32) (v5 : Int32) (k12 : Int32 → Int32 → Int32 → Mem → Option (Int32 × Mem)) (s0 : Int32) (M : Mem) : Option (Int32 × Mem) :=
  if v5 = 0 then (k12 s0 v2 (v3 + 1) M) else (k12 s0 v4 (v3 + 1) M)
def f_X6_dearest_b96 (v1 : Int32) (v2 : Int32) (v3 : Int32) (v4 : Int32) (k12 : Int32 → Int32 → Int32 → Mem → Option (Int32 × Mem)) (s0 : Int32) (M : Mem) : Option (Int32 × Mem) :=
  if s0 = 0 then (f_X6_dearest_b108 v2 v3 v4 s0 k12 v1 M) else (f_X6_dearest_b108 v2 v3 v4 s0 k12 v3 M)
def f_X6_dearest_b91 (v1 : Int32) (v2 : Int32) (v3 : Int32) (v4 : Int32) (k12 : Int32 → Int32 → Int32 → Mem → Option (Int32 × Mem)) (M : Mem) : Option (Int32 × Mem) :=
  f_X6_dearest_b96 v1 v2 v3 v4 k12 1 M
def f_X6_dearest_b68 (v1 : Int32) (v2 : Int32) (v3 : Int32) (k12 : Int32 → Int32 → Int32 → Mem → Option (Int32 × Mem)) (M : Mem) : Option (Int32 × Mem) :=
  ob (f_X6_wholeOf 32 0 M) (fun x5 M6 => if v1 = (-9) then (f_X6_dearest_b91 v1 v2 v3 x5 k12 M6) else (if v2 ≤ x5 then (f_X6_dearest_b96 v1 v2 v3 x5 k12 0 M6) else (f_X6_dearest_b91 v1 v2 v3 x5 k12 M6)))
def f_X6_dearest_b39 (v1 : Int32) (v2 : Int32) (v3 : Int32) (k12 : Int32 → Int32 → Int32 → Mem → Option (Int32 × Mem)) (k39 : Int32 → Mem → Option (Int32 × Mem)) (v4 : Int32) (M : Mem) : Option (Int32 × Mem) :=
  if 16 ≤ v4 then (f_X6_dearest_b68 v1 v2 v3 k12 M) else (ob (f_X6_at v3 v4 M) (fun x3 M4 => if inb (8 + x3) 72 then (k39 (v4 + 1) (mw M4 32 (Int32.toNatClampNeg (8 + x3)) (-9))) else none))
def f_X6_dearest_b12 (k12 : Int32 → Int32 → Int32 → Mem → Option (Int32 × Mem)) (v1 : Int32) (v2 : Int32) (v3 : Int32) (M : Mem) : Option (Int32 × Mem) :=
  if inb 6 72 then (if (M 30 (Int32.toNatClampNeg 6)) ≤ v3 then (some (v1, M)) else (ob (f_X6_copyPage 30 0 32 0 M) (fun x1 M2 => lq1 (f_X6_dearest_b39 v1 v2 v3 k12) 9999 0 M2))) else none
def f_X6_dearest  (M : Mem) : Option (Int32 × Mem) :=
  lq3 (f_X6_dearest_b12 ) 9999 (-9) 0 0 (mw M 27 0 0)
def f_X6_bestTransposition_b125 (v1 : Int32) (v3 : Int32) (v4 : Int32) (v5 : Int32) (v6 : Int32) (k40 : Int32 → Int32 → Int32 → Mem → Option (Int32 × Mem)) (k50 : Int32 → Int32 → Int32 → Mem → Option (Int32 × Mem)) (s0 : Int32) (M : Mem) : Option (Int32 × Mem) :=
  if v3 ≤ v6 then (k50 s0 v3 (v5 + (-2)) M) else (k50 s0 v6 (v5 + (-2)) M)
def f_X6_bestTransposition_b50 (v1 : Int32) (v4 : Int32) (k40 : Int32 → Int32 → Int32 → Mem → Option (Int32 × Mem)) (k50 : Int32 → Int32 → Int32 → Mem → Option (Int32 × Mem)) (v2 : Int32) (v3 : Int32) (v5 : Int32) (M : Mem) : Option (Int32 × Mem) :=
  if v5 < (-1) then (k40 v2 v3 (v4 + 1) M) else (ob (f_X6_canShift 30 v1 (v5 * v4) M) (fun x7 M8 => if x7 = 0 then (k50 v2 v3 (v5 + (-2)) M8) else (ob (f_X6_copyPage 30 0 32 0 M8) (fun x9 M10 => ob (f_X6_shift 32 v1 (v5 * v4) M10) (fun x11 M12 => ob (f_X6_wholeOf 32 0 M12) (fun x13 M14 => if v3 ≤ x13 then (f_X6_bestTransposition_b125 v1 v3 v4 v5 x13 k40 k50 v2 M14) else (f_X6_bestTransposition_b125 v1 v3 v4 v5 x13 k40 k50 (v5 * v4) M14)))))))
def f_X6_bestTransposition_b40 (v1 : Int32) (k40 : Int32 → Int32 → Int32 → Mem → Option (Int32 × Mem)) (v2 : Int32) (v3 : Int32) (v4 : Int32) (M : Mem) : Option (Int32 × Mem) :=
  if 60 < v4 then (some (v2, M)) else (lq3 (f_X6_bestTransposition_b50 v1 v4 k40) 9999 v2 v3 1 M)
def f_X6_bestTransposition_b17 (v1 : Int32) (s0 : Int32) (M : Mem) : Option (Int32 × Mem) :=
  ob (f_X6_refused s0 M) (fun x3 M4 => if x3 = 0 then (ob (f_X6_wholeOf 30 0 M4) (fun x5 M6 => lq3 (f_X6_bestTransposition_b40 v1) 9999 0 x5 1 M6)) else (some (0, M4)))
def f_X6_bestTransposition (v1 : Int32) (M : Mem) : Option (Int32 × Mem) :=
  ob (f_X6_isStaff 30 v1 M) (fun x1 M2 => if x1 = 0 then (f_X6_bestTransposition_b17 v1 1 M2) else (f_X6_bestTransposition_b17 v1 0 M2))
def f_X6_writes (v1 : Int32) (v2 : Int32) (v3 : Int32) (M : Mem) : Option (Int32 × Mem) :=
  ob (f_X6_isCell 31 v1 v2 M) (fun x1 M2 => if x1 = 0 then (some (0, M2)) else (ob (f_X6_canWrite 31 v1 v2 v3 M2) (fun x3 M4 => if x3 = 0 then (some (0, M4)) else (ob (f_X6_put 31 v1 v2 v3 M4) (fun x5 M6 => some (1, M6))))))
def f_X6_does (v1 : Int32) (v2 : Int32) (v3 : Int32) (v4 : Int32) (M : Mem) : Option (Int32 × Mem) :=
  if v1 = 1 then (if v3 = 0 then (ob (f_X6_isSetting v2 v4 M) (fun x1 M2 => if x1 = 0 then (some (0, M2)) else (if inb v2 72 then (some (1, (mw M2 31 (Int32.toNatClampNeg v2) v4))) else none))) else (some (0, M))) else (if v1 = 2 then (if 60 < v4 then (some (0, M)) else (ob (f_X6_writes v2 v3 v4 M) (fun x3 M4 => if x3 = 0 then (some (0, M4)) else (some (1, M4))))) else (if v1 = 3 then (if v4 = 0 then (ob (f_X6_writes v2 v3 (-1) M) (fun x5 M6 => if x5 = 0 then (some (0, M6)) else (some (1, M6)))) else (some (0, M))) else (if v1 = 4 then (if v4 = 0 then (ob (f_X6_writes v2 v3 99 M) (fun x7 M8 => if x7 = 0 then (some (0, M8)) else (some (1, M8)))) else (some (0, M))) else (if v1 = 5 then (if v2 = 0 then (if (v4 - v4 / 10 * 10) = 0 then (ob (f_X6_isStaff 31 v3 M) (fun x9 M10 => if x9 = 0 then (some (0, M10)) else (ob (f_X6_isStaff 31 (v4 / 10) M10) (fun x11 M12 => if x11 = 0 then (some (0, M12)) else (ob (f_X6_swap 31 v3 (v4 / 10) M12) (fun x13 M14 => some (1, M14))))))) else (some (0, M))) else (some (0, M))) else (if v1 = 6 then (if v4 = 0 then (ob (f_X6_isBeat 31 ((10 * v2) + v3) M) (fun x15 M16 => if x15 = 0 then (some (0, M16)) else (if inb 7 72 then (if (M16 31 (Int32.toNatClampNeg 7)) = 1 then (some (0, M16)) else (ob (f_X6_dropBeat 31 ((10 * v2) + v3) M16) (fun x17 M18 => some (1, M18)))) else none))) else (some (0, M))) else (if v1 = 7 then (if 8 ≤ v2 then (some (0, M)) else (ob (f_X6_wholeOf 31 v2 M) (fun x19 M20 => if x19 = ((100 * v3) + v4) then (some (1, M20)) else (some (0, M20))))) else (if v1 = 8 then (ob (f_X6_lay 31 M) (fun x21 M22 => if 2 ≤ v4 then (some (0, M22)) else (ob (f_X6_isCell 31 v2 v3 M22) (fun x23 M24 => if x23 = 0 then (some (0, M24)) else (if inb v3 16 then (ob (f_X6_handOf v2 v3 (M24 41 (Int32.toNatClampNeg v3)) M24) (fun x25 M26 => if x25 = v4 then (some (1, M26)) else (some (0, M26)))) else none))))) else (if v1 = 9 then (ob (f_X6_lay 31 M) (fun x27 M28 => if 10 ≤ v4 then (some (0, M28)) else (ob (f_X6_isCell 31 v2 v3 M28) (fun x29 M30 => if x29 = 0 then (some (0, M30)) else (ob (f_X6_at v2 v3 M30) (fun x31 M32 => if inb x31 64 then (if (M32 36 (Int32.toNatClampNeg x31)) = (-9) then (some (0, M32)) else (ob (f_X6_at v2 v3 M32) (fun x33 M34 => if inb x33 64 then (if (M34 37 (Int32.toNatClampNeg x33)) = v4 then (some (1, M34)) else (some (0, M34))) else none))) else none)))))) else (some (0, M))))))))))
def f_X6_runScript_b84 (v1 : Int32) (k84 : Int64 → Int64 → Int32 → Mem → Option (Int32 × Mem)) (w4 : Int64) (w6 : Int64) (v8 : Int32) (M : Mem) : Option (Int32 × Mem) :=
  if v1 ≤ v8 then (some ((-9), M)) else (if ¬ (w4 / 100000) = 0 then (if ¬ (w4 / 100000) = 0 then (ob (f_X6_does ((Int64.toInt32 (w6 / (w4 / 100000))) / 10000) (((Int64.toInt32 (w6 / (w4 / 100000))) / 1000) - ((Int64.toInt32 (w6 / (w4 / 100000))) / 1000) / 10 * 10) (((Int64.toInt32 (w6 / (w4 / 100000))) / 100) - ((Int64.toInt32 (w6 / (w4 / 100000))) / 100) / 10 * 10) ((Int64.toInt32 (w6 / (w4 / 100000))) - (Int64.toInt32 (w6 / (w4 / 100000))) / 100 * 100) M) (fun x9 M10 => if x9 = 0 then (some (v8, M10)) else (k84 (w4 / 100000) (w6 - w6 / (w4 / 100000) * (w4 / 100000)) (v8 + 1) M10))) else none) else none)
def f_X6_runScript_b57 (v1 : Int32) (w2 : Int64) (w4 : Int64) (s0 : Int32) (M : Mem) : Option (Int32 × Mem) :=
  ob (f_X6_refused s0 M) (fun x5 M6 => if x5 = 0 then (ob (f_X6_copyPage 30 0 31 0 M6) (fun x7 M8 => lq3 (f_X6_runScript_b84 v1) 9999 w4 w2 0 M8)) else (some (0, M6)))
def f_X6_runScript_b56 (v1 : Int32) (w2 : Int64) (w4 : Int64) (M : Mem) : Option (Int32 × Mem) :=
  f_X6_runScript_b57 v1 w2 w4 1 M
def f_X6_runScript_b25 (v1 : Int32) (w2 : Int64) (s0 : Int64) (M : Mem) : Option (Int32 × Mem) :=
  ob (f_X6_in (Int32.toInt64 v1) 1 3 M) (fun x1 M2 => if x1 = 0 then (f_X6_runScript_b56 v1 w2 s0 M2) else (ob (f_X6_in w2 0 (s0 - 1) M2) (fun x3 M4 => if x3 = 0 then (f_X6_runScript_b56 v1 w2 s0 M4) else (f_X6_runScript_b57 v1 w2 s0 0 M4))))
def f_X6_runScript (v1 : Int32) (w2 : Int64) (M : Mem) : Option (Int32 × Mem) :=
  if v1 = 1 then (f_X6_runScript_b25 v1 w2 100000 M) else (if v1 = 2 then (f_X6_runScript_b25 v1 w2 10000000000 M) else (f_X6_runScript_b25 v1 w2 1000000000000000 M))
def f_X6_simulate_b129 (v3 : Int32) (w4 : Int64) (v6 : Int32) (k45 : Int64 → Int32 → Mem → Option (Int32 × Mem)) (s0 : Int32) (s1 : Int32) (s2 : Int32) (M : Mem) : Option (Int32 × Mem) :=
  ob (f_X6_writes s2 s1 s0 M) (fun x15 M16 => k45 w4 (v6 + 1) M16)
def f_X6_simulate_b139  (M : Mem) : Option (Int32 × Mem) :=
  ob (f_X6_wholeOf 31 0 M) (fun x7 M8 => ob (f_X6_wholeOf 31 1 M8) (fun x9 M10 => ob (f_X6_wholeOf 31 2 M10) (fun x11 M12 => ob (f_X6_wholeOf 31 3 M12) (fun x13 M14 => some (x7 + (1000 * ((x9 + x11) + x13)), M14)))))
def f_X6_simulate_b45 (v3 : Int32) (k45 : Int64 → Int32 → Mem → Option (Int32 × Mem)) (w4 : Int64) (v6 : Int32) (M : Mem) : Option (Int32 × Mem) :=
  if v3 ≤ v6 then (f_X6_simulate_b139  M) else (if inb 6 72 then (if ¬ (M 31 (Int32.toNatClampNeg 6)) = 0 then (if inb 7 72 then (if ¬ (M 31 (Int32.toNatClampNeg 7)) = 0 then (if 60 < (((Int64.toInt32 ((Int64.toUInt64 ((w4 * 6364136223846793005) + 1442695040888963407) >>> ((Int32.toInt64 33).toUInt64 &&& Int64.toUInt64 63)).toInt64)) / 64) - ((Int64.toInt32 ((Int64.toUInt64 ((w4 * 6364136223846793005) + 1442695040888963407) >>> ((Int32.toInt64 33).toUInt64 &&& Int64.toUInt64 63)).toInt64)) / 64) / 64 * 64) then (if (((Int64.toInt32 ((Int64.toUInt64 ((w4 * 6364136223846793005) + 1442695040888963407) >>> ((Int32.toInt64 33).toUInt64 &&& Int64.toUInt64 63)).toInt64)) / 64) - ((Int64.toInt32 ((Int64.toUInt64 ((w4 * 6364136223846793005) + 1442695040888963407) >>> ((Int32.toInt64 33).toUInt64 &&& Int64.toUInt64 63)).toInt64)) / 64) / 64 * 64) = 61 then (f_X6_simulate_b129 v3 ((w4 * 6364136223846793005) + 1442695040888963407) v6 k45 (-1) (((Int64.toInt32 ((Int64.toUInt64 ((w4 * 6364136223846793005) + 1442695040888963407) >>> ((Int32.toInt64 33).toUInt64 &&& Int64.toUInt64 63)).toInt64)) / 4) - ((Int64.toInt32 ((Int64.toUInt64 ((w4 * 6364136223846793005) + 1442695040888963407) >>> ((Int32.toInt64 33).toUInt64 &&& Int64.toUInt64 63)).toInt64)) / 4) / (M 31 (Int32.toNatClampNeg 7)) * (M 31 (Int32.toNatClampNeg 7))) ((Int64.toInt32 ((Int64.toUInt64 ((w4 * 6364136223846793005) + 1442695040888963407) >>> ((Int32.toInt64 33).toUInt64 &&& Int64.toUInt64 63)).toInt64)) - (Int64.toInt32 ((Int64.toUInt64 ((w4 * 6364136223846793005) + 1442695040888963407) >>> ((Int32.toInt64 33).toUInt64 &&& Int64.toUInt64 63)).toInt64)) / (M 31 (Int32.toNatClampNeg 6)) * (M 31 (Int32.toNatClampNeg 6))) M) else (f_X6_simulate_b129 v3 ((w4 * 6364136223846793005) + 1442695040888963407) v6 k45 99 (((Int64.toInt32 ((Int64.toUInt64 ((w4 * 6364136223846793005) + 1442695040888963407) >>> ((Int32.toInt64 33).toUInt64 &&& Int64.toUInt64 63)).toInt64)) / 4) - ((Int64.toInt32 ((Int64.toUInt64 ((w4 * 6364136223846793005) + 1442695040888963407) >>> ((Int32.toInt64 33).toUInt64 &&& Int64.toUInt64 63)).toInt64)) / 4) / (M 31 (Int32.toNatClampNeg 7)) * (M 31 (Int32.toNatClampNeg 7))) ((Int64.toInt32 ((Int64.toUInt64 ((w4 * 6364136223846793005) + 1442695040888963407) >>> ((Int32.toInt64 33).toUInt64 &&& Int64.toUInt64 63)).toInt64)) - (Int64.toInt32 ((Int64.toUInt64 ((w4 * 6364136223846793005) + 1442695040888963407) >>> ((Int32.toInt64 33).toUInt64 &&& Int64.toUInt64 63)).toInt64)) / (M 31 (Int32.toNatClampNeg 6)) * (M 31 (Int32.toNatClampNeg 6))) M)) else (f_X6_simulate_b129 v3 ((w4 * 6364136223846793005) + 1442695040888963407) v6 k45 (((Int64.toInt32 ((Int64.toUInt64 ((w4 * 6364136223846793005) + 1442695040888963407) >>> ((Int32.toInt64 33).toUInt64 &&& Int64.toUInt64 63)).toInt64)) / 64) - ((Int64.toInt32 ((Int64.toUInt64 ((w4 * 6364136223846793005) + 1442695040888963407) >>> ((Int32.toInt64 33).toUInt64 &&& Int64.toUInt64 63)).toInt64)) / 64) / 64 * 64) (((Int64.toInt32 ((Int64.toUInt64 ((w4 * 6364136223846793005) + 1442695040888963407) >>> ((Int32.toInt64 33).toUInt64 &&& Int64.toUInt64 63)).toInt64)) / 4) - ((Int64.toInt32 ((Int64.toUInt64 ((w4 * 6364136223846793005) + 1442695040888963407) >>> ((Int32.toInt64 33).toUInt64 &&& Int64.toUInt64 63)).toInt64)) / 4) / (M 31 (Int32.toNatClampNeg 7)) * (M 31 (Int32.toNatClampNeg 7))) ((Int64.toInt32 ((Int64.toUInt64 ((w4 * 6364136223846793005) + 1442695040888963407) >>> ((Int32.toInt64 33).toUInt64 &&& Int64.toUInt64 63)).toInt64)) - (Int64.toInt32 ((Int64.toUInt64 ((w4 * 6364136223846793005) + 1442695040888963407) >>> ((Int32.toInt64 33).toUInt64 &&& Int64.toUInt64 63)).toInt64)) / (M 31 (Int32.toNatClampNeg 6)) * (M 31 (Int32.toNatClampNeg 6))) M)) else none) else none) else none) else none)
def f_X6_simulate_b18 (w1 : Int64) (v3 : Int32) (s0 : Int32) (M : Mem) : Option (Int32 × Mem) :=
  ob (f_X6_refused s0 M) (fun x3 M4 => if x3 = 0 then (ob (f_X6_copyPage 30 0 31 0 M4) (fun x5 M6 => lq2 (f_X6_simulate_b45 v3) 9999 w1 0 M6)) else (some (0, M4)))
def f_X6_simulate (w1 : Int64) (v3 : Int32) (M : Mem) : Option (Int32 × Mem) :=
  ob (f_X6_in (Int32.toInt64 v3) 1 40 M) (fun x1 M2 => if x1 = 0 then (f_X6_simulate_b18 w1 v3 1 M2) else (f_X6_simulate_b18 w1 v3 0 M2))
def f_X6_save_b16 (v1 : Int32) (s0 : Int32) (M : Mem) : Option (Int32 × Mem) :=
  ob (f_X6_refused s0 M) (fun x3 M4 => if x3 = 0 then (if inb v1 2 then (ob (f_X6_copyPage 30 0 34 (72 * v1) (mw M4 35 (Int32.toNatClampNeg v1) (vp_nar .boolean 1))) (fun x5 M6 => if inb 7 72 then (some (M6 30 (Int32.toNatClampNeg 7), M6)) else none)) else none) else (some (0, M4)))
def f_X6_save (v1 : Int32) (M : Mem) : Option (Int32 × Mem) :=
  ob (f_X6_in (Int32.toInt64 v1) 0 1 M) (fun x1 M2 => if x1 = 0 then (f_X6_save_b16 v1 1 M2) else (f_X6_save_b16 v1 0 M2))
def f_X6_restore_b29 (v1 : Int32) (s0 : Int32) (M : Mem) : Option (Int32 × Mem) :=
  ob (f_X6_refused s0 M) (fun x3 M4 => if x3 = 0 then (ob (f_X6_copyPage 34 (72 * v1) 30 0 M4) (fun x5 M6 => if inb 7 72 then (some ((mw M6 27 9 0) 30 (Int32.toNatClampNeg 7), (mw M6 27 9 0))) else none)) else (some (0, M4)))
def f_X6_restore (v1 : Int32) (M : Mem) : Option (Int32 × Mem) :=
  ob (f_X6_in (Int32.toInt64 v1) 0 1 M) (fun x1 M2 => if x1 = 0 then (f_X6_restore_b29 v1 1 M2) else (if inb v1 2 then (if (M2 35 (Int32.toNatClampNeg v1)) = 0 then (f_X6_restore_b29 v1 2 M2) else (f_X6_restore_b29 v1 0 M2)) else none))
def wrp (h : Nat → Option Int32) (x : Option (Except Nat Int32 × Mem)) : Option (Int32 × Mem) := match x with
  | none => none
  | some (.error e, M) => match h e with
    | none => none
    | some r => some (r, M)
  | some (.ok r, M) => some (0, mw M 43 0 r)
def h_L_append : Nat → Option Int32 := fun e => match e with | 0 => some 1 | 1 => some 2 | _ => none
def f_L_append (v1 : Int32) (M : Mem) : Option (Int32 × Mem) := wrp h_L_append (f_X5_append v1 M)
def h_L_load : Nat → Option Int32 := fun e => match e with | 1 => some 1 | _ => none
def f_L_load  (M : Mem) : Option (Int32 × Mem) := wrp h_L_load (f_X5_load  M)
def h_L_about : Nat → Option Int32 := fun e => match e with | 0 => some 1 | _ => none
def f_L_about (v1 : Int32) (M : Mem) : Option (Int32 × Mem) := wrp h_L_about (f_X5_about v1 M)
def h_L_cell : Nat → Option Int32 := fun e => match e with | 2 => some 1 | _ => none
def f_L_cell (v1 : Int32) (v2 : Int32) (v3 : Int32) (M : Mem) : Option (Int32 × Mem) := wrp h_L_cell (f_X5_cell v1 v2 v3 M)
def h_L_set : Nat → Option Int32 := fun e => match e with | 0 => some 1 | _ => none
def f_L_set (v1 : Int32) (v2 : Int32) (M : Mem) : Option (Int32 × Mem) := wrp h_L_set (f_X5_set v1 v2 M)
def h_L_write : Nat → Option Int32 := fun e => match e with | 2 => some 1 | 0 => some 2 | 1 => some 3 | _ => none
def f_L_write (v1 : Int32) (v2 : Int32) (v3 : Int32) (M : Mem) : Option (Int32 × Mem) := wrp h_L_write (f_X5_write v1 v2 v3 M)
def h_L_transpose : Nat → Option Int32 := fun e => match e with | 2 => some 1 | 0 => some 2 | 1 => some 3 | _ => none
def f_L_transpose (v1 : Int32) (v2 : Int32) (M : Mem) : Option (Int32 × Mem) := wrp h_L_transpose (f_X5_transpose v1 v2 M)
def h_L_exchange : Nat → Option Int32 := fun e => match e with | 2 => some 1 | _ => none
def f_L_exchange (v1 : Int32) (v2 : Int32) (M : Mem) : Option (Int32 × Mem) := wrp h_L_exchange (f_X5_exchange v1 v2 M)
def h_L_staff : Nat → Option Int32 := fun e => match e with | 1 => some 1 | _ => none
def f_L_staff (v1 : Int32) (M : Mem) : Option (Int32 × Mem) := wrp h_L_staff (f_X5_staff v1 M)
def h_L_insertBeat : Nat → Option Int32 := fun e => match e with | 2 => some 1 | 1 => some 2 | _ => none
def f_L_insertBeat (v1 : Int32) (M : Mem) : Option (Int32 × Mem) := wrp h_L_insertBeat (f_X5_insertBeat v1 M)
def h_L_removeBeat : Nat → Option Int32 := fun e => match e with | 2 => some 1 | 1 => some 2 | _ => none
def f_L_removeBeat (v1 : Int32) (M : Mem) : Option (Int32 × Mem) := wrp h_L_removeBeat (f_X5_removeBeat v1 M)
def h_L_undo : Nat → Option Int32 := fun e => match e with | 1 => some 1 | _ => none
def f_L_undo  (M : Mem) : Option (Int32 × Mem) := wrp h_L_undo (f_X5_undo  M)
def h_L_note : Nat → Option Int32 := fun e => match e with | 2 => some 1 | 0 => some 2 | _ => none
def f_L_note (v1 : Int32) (v2 : Int32) (v3 : Int32) (M : Mem) : Option (Int32 × Mem) := wrp h_L_note (f_X5_note v1 v2 v3 M)
def h_L_hand : Nat → Option Int32 := fun e => match e with | 2 => some 1 | 0 => some 2 | _ => none
def f_L_hand (v1 : Int32) (v2 : Int32) (v3 : Int32) (M : Mem) : Option (Int32 × Mem) := wrp h_L_hand (f_X5_hand v1 v2 v3 M)
def h_L_beat : Nat → Option Int32 := fun e => match e with | 2 => some 1 | 0 => some 2 | _ => none
def f_L_beat (v1 : Int32) (v2 : Int32) (M : Mem) : Option (Int32 × Mem) := wrp h_L_beat (f_X5_beat v1 v2 M)
def h_L_whole : Nat → Option Int32 := fun e => match e with | 0 => some 1 | _ => none
def f_L_whole (v1 : Int32) (M : Mem) : Option (Int32 × Mem) := wrp h_L_whole (f_X5_whole v1 M)
def h_L_whatIf : Nat → Option Int32 := fun e => match e with | 0 => some 1 | _ => none
def f_L_whatIf (v1 : Int32) (v2 : Int32) (v3 : Int32) (M : Mem) : Option (Int32 × Mem) := wrp h_L_whatIf (f_X5_whatIf v1 v2 v3 M)
def h_L_bestTransposition : Nat → Option Int32 := fun e => match e with | 2 => some 1 | _ => none
def f_L_bestTransposition (v1 : Int32) (M : Mem) : Option (Int32 × Mem) := wrp h_L_bestTransposition (f_X5_bestTransposition v1 M)
def h_L_runScript : Nat → Option Int32 := fun e => match e with | 0 => some 1 | _ => none
def f_L_runScript (v1 : Int32) (w2 : Int64) (M : Mem) : Option (Int32 × Mem) := wrp h_L_runScript (f_X5_runScript v1 w2 M)
def h_L_simulate : Nat → Option Int32 := fun e => match e with | 0 => some 1 | _ => none
def f_L_simulate (w1 : Int64) (v3 : Int32) (M : Mem) : Option (Int32 × Mem) := wrp h_L_simulate (f_X5_simulate w1 v3 M)
def h_L_save : Nat → Option Int32 := fun e => match e with | 2 => some 1 | _ => none
def f_L_save (v1 : Int32) (M : Mem) : Option (Int32 × Mem) := wrp h_L_save (f_X5_save v1 M)
def h_L_restore : Nat → Option Int32 := fun e => match e with | 2 => some 1 | 1 => some 2 | _ => none
def f_L_restore (v1 : Int32) (M : Mem) : Option (Int32 × Mem) := wrp h_L_restore (f_X5_restore v1 M)
def f_L_law_b23 (sc : Nat → Int32) (L : Nat) (kk : Int32 → Mem → Option (Unit × Mem)) (v4 : Int32) (M : Mem) : Option (Unit × Mem) :=
  if ((Int32.ofNat L) - 4) < v4 then (some ((), M)) else (if inb v4 L then (if ((sc (Int32.toNatClampNeg v4)) &&& 31) = 0 then (if inb (v4 + 1) L then (ob (f_L_append (sc (Int32.toNatClampNeg (v4 + 1))) M) (fun x1 M2 => if inb (v4 + 1) L then (ob (f_X6_append (sc (Int32.toNatClampNeg (v4 + 1))) M2) (fun x3 M4 => ob (f_X6_thrown  M4) (fun x5 M6 => if x5 = x1 then (if x1 = 0 then (if (lg_cmp (Int32.toInt64 (M6 43 (Int32.toNatClampNeg 0))) (Int32.toInt64 x3)) = 0 then (kk (v4 + 4) M6) else (none)) else (kk (v4 + 4) M6)) else (none)))) else none)) else none) else (if ((sc (Int32.toNatClampNeg v4)) &&& 31) = 1 then (ob (f_X5_clearText  M) (fun x7 M8 => ob (f_X6_clearText  M8) (fun x9 M10 => if x7 = x9 then (kk (v4 + 4) M10) else (none)))) else (if ((sc (Int32.toNatClampNeg v4)) &&& 31) = 2 then (ob (f_X5_errorPosition  M) (fun x11 M12 => ob (f_X6_errorPosition  M12) (fun x13 M14 => if x11 = x13 then (kk (v4 + 4) M14) else (none)))) else (if ((sc (Int32.toNatClampNeg v4)) &&& 31) = 3 then (ob (f_L_load M) (fun x15 M16 => ob (f_X6_load  M16) (fun x17 M18 => ob (f_X6_thrown  M18) (fun x19 M20 => if x19 = x15 then (if x15 = 0 then (if (lg_cmp (Int32.toInt64 (M20 43 (Int32.toNatClampNeg 0))) (Int32.toInt64 x17)) = 0 then (kk (v4 + 4) M20) else (none)) else (kk (v4 + 4) M20)) else (none))))) else (if ((sc (Int32.toNatClampNeg v4)) &&& 31) = 4 then (if inb (v4 + 1) L then (ob (f_L_about (sc (Int32.toNatClampNeg (v4 + 1))) M) (fun x21 M22 => if inb (v4 + 1) L then (ob (f_X6_about (sc (Int32.toNatClampNeg (v4 + 1))) M22) (fun x23 M24 => ob (f_X6_thrown  M24) (fun x25 M26 => if x25 = x21 then (if x21 = 0 then (if (lg_cmp (Int32.toInt64 (M26 43 (Int32.toNatClampNeg 0))) (Int32.toInt64 x23)) = 0 then (kk (v4 + 4) M26) else (none)) else (kk (v4 + 4) M26)) else (none)))) else none)) else none) else (if ((sc (Int32.toNatClampNeg v4)) &&& 31) = 5 then (if inb (v4 + 1) L then (if inb (v4 + 2) L then (if inb (v4 + 3) L then (if (sc (Int32.toNatClampNeg (v4 + 3))) = 0 then (ob (f_L_cell (sc (Int32.toNatClampNeg (v4 + 1))) (sc (Int32.toNatClampNeg (v4 + 2))) 0 M) (fun x27 M28 => if inb (v4 + 1) L then (if inb (v4 + 2) L then (if inb (v4 + 3) L then (if (sc (Int32.toNatClampNeg (v4 + 3))) = 0 then (ob (f_X6_cell (sc (Int32.toNatClampNeg (v4 + 1))) (sc (Int32.toNatClampNeg (v4 + 2))) 0 M28) (fun x29 M30 => ob (f_X6_thrown  M30) (fun x31 M32 => if x31 = x27 then (if x27 = 0 then (if (lg_cmp (Int32.toInt64 (M32 43 (Int32.toNatClampNeg 0))) (Int32.toInt64 x29)) = 0 then (kk (v4 + 4) M32) else (none)) else (kk (v4 + 4) M32)) else (none)))) else (ob (f_X6_cell (sc (Int32.toNatClampNeg (v4 + 1))) (sc (Int32.toNatClampNeg (v4 + 2))) 1 M28) (fun x33 M34 => ob (f_X6_thrown  M34) (fun x35 M36 => if x35 = x27 then (if x27 = 0 then (if (lg_cmp (Int32.toInt64 (M36 43 (Int32.toNatClampNeg 0))) (Int32.toInt64 x33)) = 0 then (kk (v4 + 4) M36) else (none)) else (kk (v4 + 4) M36)) else (none))))) else none) else none) else none)) else (ob (f_L_cell (sc (Int32.toNatClampNeg (v4 + 1))) (sc (Int32.toNatClampNeg (v4 + 2))) 1 M) (fun x37 M38 => if inb (v4 + 1) L then (if inb (v4 + 2) L then (if inb (v4 + 3) L then (if (sc (Int32.toNatClampNeg (v4 + 3))) = 0 then (ob (f_X6_cell (sc (Int32.toNatClampNeg (v4 + 1))) (sc (Int32.toNatClampNeg (v4 + 2))) 0 M38) (fun x39 M40 => ob (f_X6_thrown  M40) (fun x41 M42 => if x41 = x37 then (if x37 = 0 then (if (lg_cmp (Int32.toInt64 (M42 43 (Int32.toNatClampNeg 0))) (Int32.toInt64 x39)) = 0 then (kk (v4 + 4) M42) else (none)) else (kk (v4 + 4) M42)) else (none)))) else (ob (f_X6_cell (sc (Int32.toNatClampNeg (v4 + 1))) (sc (Int32.toNatClampNeg (v4 + 2))) 1 M38) (fun x43 M44 => ob (f_X6_thrown  M44) (fun x45 M46 => if x45 = x37 then (if x37 = 0 then (if (lg_cmp (Int32.toInt64 (M46 43 (Int32.toNatClampNeg 0))) (Int32.toInt64 x43)) = 0 then (kk (v4 + 4) M46) else (none)) else (kk (v4 + 4) M46)) else (none))))) else none) else none) else none))) else none) else none) else none) else (if ((sc (Int32.toNatClampNeg v4)) &&& 31) = 6 then (if inb (v4 + 1) L then (if inb (v4 + 2) L then (ob (f_L_set (sc (Int32.toNatClampNeg (v4 + 1))) (sc (Int32.toNatClampNeg (v4 + 2))) M) (fun x47 M48 => if inb (v4 + 1) L then (if inb (v4 + 2) L then (ob (f_X6_set (sc (Int32.toNatClampNeg (v4 + 1))) (sc (Int32.toNatClampNeg (v4 + 2))) M48) (fun x49 M50 => ob (f_X6_thrown  M50) (fun x51 M52 => if x51 = x47 then (if x47 = 0 then (if (lg_cmp (Int32.toInt64 (M52 43 (Int32.toNatClampNeg 0))) (Int32.toInt64 x49)) = 0 then (kk (v4 + 4) M52) else (none)) else (kk (v4 + 4) M52)) else (none)))) else none) else none)) else none) else none) else (if ((sc (Int32.toNatClampNeg v4)) &&& 31) = 7 then (if inb (v4 + 1) L then (if inb (v4 + 2) L then (if inb (v4 + 3) L then (ob (f_L_write (sc (Int32.toNatClampNeg (v4 + 1))) (sc (Int32.toNatClampNeg (v4 + 2))) (sc (Int32.toNatClampNeg (v4 + 3))) M) (fun x53 M54 => if inb (v4 + 1) L then (if inb (v4 + 2) L then (if inb (v4 + 3) L then (ob (f_X6_write (sc (Int32.toNatClampNeg (v4 + 1))) (sc (Int32.toNatClampNeg (v4 + 2))) (sc (Int32.toNatClampNeg (v4 + 3))) M54) (fun x55 M56 => ob (f_X6_thrown  M56) (fun x57 M58 => if x57 = x53 then (if x53 = 0 then (if (lg_cmp (Int32.toInt64 (M58 43 (Int32.toNatClampNeg 0))) (Int32.toInt64 x55)) = 0 then (kk (v4 + 4) M58) else (none)) else (kk (v4 + 4) M58)) else (none)))) else none) else none) else none)) else none) else none) else none) else (if ((sc (Int32.toNatClampNeg v4)) &&& 31) = 8 then (if inb (v4 + 1) L then (if inb (v4 + 2) L then (ob (f_L_transpose (sc (Int32.toNatClampNeg (v4 + 1))) (sc (Int32.toNatClampNeg (v4 + 2))) M) (fun x59 M60 => if inb (v4 + 1) L then (if inb (v4 + 2) L then (ob (f_X6_transpose (sc (Int32.toNatClampNeg (v4 + 1))) (sc (Int32.toNatClampNeg (v4 + 2))) M60) (fun x61 M62 => ob (f_X6_thrown  M62) (fun x63 M64 => if x63 = x59 then (if x59 = 0 then (if (lg_cmp (Int32.toInt64 (M64 43 (Int32.toNatClampNeg 0))) (Int32.toInt64 x61)) = 0 then (kk (v4 + 4) M64) else (none)) else (kk (v4 + 4) M64)) else (none)))) else none) else none)) else none) else none) else (if ((sc (Int32.toNatClampNeg v4)) &&& 31) = 9 then (if inb (v4 + 1) L then (if inb (v4 + 2) L then (ob (f_L_exchange (sc (Int32.toNatClampNeg (v4 + 1))) (sc (Int32.toNatClampNeg (v4 + 2))) M) (fun x65 M66 => if inb (v4 + 1) L then (if inb (v4 + 2) L then (ob (f_X6_exchange (sc (Int32.toNatClampNeg (v4 + 1))) (sc (Int32.toNatClampNeg (v4 + 2))) M66) (fun x67 M68 => ob (f_X6_thrown  M68) (fun x69 M70 => if x69 = x65 then (if x65 = 0 then (if (lg_cmp (Int32.toInt64 (M70 43 (Int32.toNatClampNeg 0))) (Int32.toInt64 x67)) = 0 then (kk (v4 + 4) M70) else (none)) else (kk (v4 + 4) M70)) else (none)))) else none) else none)) else none) else none) else (if ((sc (Int32.toNatClampNeg v4)) &&& 31) = 10 then (if inb (v4 + 1) L then (if (sc (Int32.toNatClampNeg (v4 + 1))) = 0 then (ob (f_L_staff 0 M) (fun x71 M72 => if inb (v4 + 1) L then (if (sc (Int32.toNatClampNeg (v4 + 1))) = 0 then (ob (f_X6_staff 0 M72) (fun x73 M74 => ob (f_X6_thrown  M74) (fun x75 M76 => if x75 = x71 then (if x71 = 0 then (if (lg_cmp (Int32.toInt64 (M76 43 (Int32.toNatClampNeg 0))) (Int32.toInt64 x73)) = 0 then (kk (v4 + 4) M76) else (none)) else (kk (v4 + 4) M76)) else (none)))) else (ob (f_X6_staff 1 M72) (fun x77 M78 => ob (f_X6_thrown  M78) (fun x79 M80 => if x79 = x71 then (if x71 = 0 then (if (lg_cmp (Int32.toInt64 (M80 43 (Int32.toNatClampNeg 0))) (Int32.toInt64 x77)) = 0 then (kk (v4 + 4) M80) else (none)) else (kk (v4 + 4) M80)) else (none))))) else none)) else (ob (f_L_staff 1 M) (fun x81 M82 => if inb (v4 + 1) L then (if (sc (Int32.toNatClampNeg (v4 + 1))) = 0 then (ob (f_X6_staff 0 M82) (fun x83 M84 => ob (f_X6_thrown  M84) (fun x85 M86 => if x85 = x81 then (if x81 = 0 then (if (lg_cmp (Int32.toInt64 (M86 43 (Int32.toNatClampNeg 0))) (Int32.toInt64 x83)) = 0 then (kk (v4 + 4) M86) else (none)) else (kk (v4 + 4) M86)) else (none)))) else (ob (f_X6_staff 1 M82) (fun x87 M88 => ob (f_X6_thrown  M88) (fun x89 M90 => if x89 = x81 then (if x81 = 0 then (if (lg_cmp (Int32.toInt64 (M90 43 (Int32.toNatClampNeg 0))) (Int32.toInt64 x87)) = 0 then (kk (v4 + 4) M90) else (none)) else (kk (v4 + 4) M90)) else (none))))) else none))) else none) else (if ((sc (Int32.toNatClampNeg v4)) &&& 31) = 11 then (if inb (v4 + 1) L then (ob (f_L_insertBeat (sc (Int32.toNatClampNeg (v4 + 1))) M) (fun x91 M92 => if inb (v4 + 1) L then (ob (f_X6_insertBeat (sc (Int32.toNatClampNeg (v4 + 1))) M92) (fun x93 M94 => ob (f_X6_thrown  M94) (fun x95 M96 => if x95 = x91 then (if x91 = 0 then (if (lg_cmp (Int32.toInt64 (M96 43 (Int32.toNatClampNeg 0))) (Int32.toInt64 x93)) = 0 then (kk (v4 + 4) M96) else (none)) else (kk (v4 + 4) M96)) else (none)))) else none)) else none) else (if ((sc (Int32.toNatClampNeg v4)) &&& 31) = 12 then (if inb (v4 + 1) L then (ob (f_L_removeBeat (sc (Int32.toNatClampNeg (v4 + 1))) M) (fun x97 M98 => if inb (v4 + 1) L then (ob (f_X6_removeBeat (sc (Int32.toNatClampNeg (v4 + 1))) M98) (fun x99 M100 => ob (f_X6_thrown  M100) (fun x101 M102 => if x101 = x97 then (if x97 = 0 then (if (lg_cmp (Int32.toInt64 (M102 43 (Int32.toNatClampNeg 0))) (Int32.toInt64 x99)) = 0 then (kk (v4 + 4) M102) else (none)) else (kk (v4 + 4) M102)) else (none)))) else none)) else none) else (if ((sc (Int32.toNatClampNeg v4)) &&& 31) = 13 then (ob (f_L_undo M) (fun x103 M104 => ob (f_X6_undo  M104) (fun x105 M106 => ob (f_X6_thrown  M106) (fun x107 M108 => if x107 = x103 then (if x103 = 0 then (if (lg_cmp (Int32.toInt64 (M108 43 (Int32.toNatClampNeg 0))) (Int32.toInt64 x105)) = 0 then (kk (v4 + 4) M108) else (none)) else (kk (v4 + 4) M108)) else (none))))) else (if ((sc (Int32.toNatClampNeg v4)) &&& 31) = 14 then (if inb (v4 + 1) L then (if inb (v4 + 2) L then (if inb (v4 + 3) L then (ob (f_L_note (sc (Int32.toNatClampNeg (v4 + 1))) (sc (Int32.toNatClampNeg (v4 + 2))) (sc (Int32.toNatClampNeg (v4 + 3))) M) (fun x109 M110 => if inb (v4 + 1) L then (if inb (v4 + 2) L then (if inb (v4 + 3) L then (ob (f_X6_note (sc (Int32.toNatClampNeg (v4 + 1))) (sc (Int32.toNatClampNeg (v4 + 2))) (sc (Int32.toNatClampNeg (v4 + 3))) M110) (fun x111 M112 => ob (f_X6_thrown  M112) (fun x113 M114 => if x113 = x109 then (if x109 = 0 then (if (lg_cmp (Int32.toInt64 (M114 43 (Int32.toNatClampNeg 0))) (Int32.toInt64 x111)) = 0 then (kk (v4 + 4) M114) else (none)) else (kk (v4 + 4) M114)) else (none)))) else none) else none) else none)) else none) else none) else none) else (if ((sc (Int32.toNatClampNeg v4)) &&& 31) = 15 then (if inb (v4 + 1) L then (if inb (v4 + 2) L then (if inb (v4 + 3) L then (ob (f_L_hand (sc (Int32.toNatClampNeg (v4 + 1))) (sc (Int32.toNatClampNeg (v4 + 2))) (sc (Int32.toNatClampNeg (v4 + 3))) M) (fun x115 M116 => if inb (v4 + 1) L then (if inb (v4 + 2) L then (if inb (v4 + 3) L then (ob (f_X6_hand (sc (Int32.toNatClampNeg (v4 + 1))) (sc (Int32.toNatClampNeg (v4 + 2))) (sc (Int32.toNatClampNeg (v4 + 3))) M116) (fun x117 M118 => ob (f_X6_thrown  M118) (fun x119 M120 => if x119 = x115 then (if x115 = 0 then (if (lg_cmp (Int32.toInt64 (M120 43 (Int32.toNatClampNeg 0))) (Int32.toInt64 x117)) = 0 then (kk (v4 + 4) M120) else (none)) else (kk (v4 + 4) M120)) else (none)))) else none) else none) else none)) else none) else none) else none) else (if ((sc (Int32.toNatClampNeg v4)) &&& 31) = 16 then (if inb (v4 + 1) L then (if inb (v4 + 2) L then (ob (f_L_beat (sc (Int32.toNatClampNeg (v4 + 1))) (sc (Int32.toNatClampNeg (v4 + 2))) M) (fun x121 M122 => if inb (v4 + 1) L then (if inb (v4 + 2) L then (ob (f_X6_beat (sc (Int32.toNatClampNeg (v4 + 1))) (sc (Int32.toNatClampNeg (v4 + 2))) M122) (fun x123 M124 => ob (f_X6_thrown  M124) (fun x125 M126 => if x125 = x121 then (if x121 = 0 then (if (lg_cmp (Int32.toInt64 (M126 43 (Int32.toNatClampNeg 0))) (Int32.toInt64 x123)) = 0 then (kk (v4 + 4) M126) else (none)) else (kk (v4 + 4) M126)) else (none)))) else none) else none)) else none) else none) else (if ((sc (Int32.toNatClampNeg v4)) &&& 31) = 17 then (if inb (v4 + 1) L then (ob (f_L_whole (sc (Int32.toNatClampNeg (v4 + 1))) M) (fun x127 M128 => if inb (v4 + 1) L then (ob (f_X6_whole (sc (Int32.toNatClampNeg (v4 + 1))) M128) (fun x129 M130 => ob (f_X6_thrown  M130) (fun x131 M132 => if x131 = x127 then (if x127 = 0 then (if (lg_cmp (Int32.toInt64 (M132 43 (Int32.toNatClampNeg 0))) (Int32.toInt64 x129)) = 0 then (kk (v4 + 4) M132) else (none)) else (kk (v4 + 4) M132)) else (none)))) else none)) else none) else (if ((sc (Int32.toNatClampNeg v4)) &&& 31) = 18 then (if inb (v4 + 1) L then (if inb (v4 + 2) L then (if inb (v4 + 3) L then (ob (f_L_whatIf (sc (Int32.toNatClampNeg (v4 + 1))) (sc (Int32.toNatClampNeg (v4 + 2))) (sc (Int32.toNatClampNeg (v4 + 3))) M) (fun x133 M134 => if inb (v4 + 1) L then (if inb (v4 + 2) L then (if inb (v4 + 3) L then (ob (f_X6_whatIf (sc (Int32.toNatClampNeg (v4 + 1))) (sc (Int32.toNatClampNeg (v4 + 2))) (sc (Int32.toNatClampNeg (v4 + 3))) M134) (fun x135 M136 => ob (f_X6_thrown  M136) (fun x137 M138 => if x137 = x133 then (if x133 = 0 then (if (lg_cmp (Int32.toInt64 (M138 43 (Int32.toNatClampNeg 0))) (Int32.toInt64 x135)) = 0 then (kk (v4 + 4) M138) else (none)) else (kk (v4 + 4) M138)) else (none)))) else none) else none) else none)) else none) else none) else none) else (if ((sc (Int32.toNatClampNeg v4)) &&& 31) = 19 then (ob (f_X5_smallestSpan  M) (fun x139 M140 => ob (f_X6_smallestSpan  M140) (fun x141 M142 => if x139 = x141 then (kk (v4 + 4) M142) else (none)))) else (if ((sc (Int32.toNatClampNeg v4)) &&& 31) = 20 then (ob (f_X5_dearest  M) (fun x143 M144 => ob (f_X6_dearest  M144) (fun x145 M146 => if x143 = x145 then (kk (v4 + 4) M146) else (none)))) else (if ((sc (Int32.toNatClampNeg v4)) &&& 31) = 21 then (if inb (v4 + 1) L then (ob (f_L_bestTransposition (sc (Int32.toNatClampNeg (v4 + 1))) M) (fun x147 M148 => if inb (v4 + 1) L then (ob (f_X6_bestTransposition (sc (Int32.toNatClampNeg (v4 + 1))) M148) (fun x149 M150 => ob (f_X6_thrown  M150) (fun x151 M152 => if x151 = x147 then (if x147 = 0 then (if (lg_cmp (Int32.toInt64 (M152 43 (Int32.toNatClampNeg 0))) (Int32.toInt64 x149)) = 0 then (kk (v4 + 4) M152) else (none)) else (kk (v4 + 4) M152)) else (none)))) else none)) else none) else (if ((sc (Int32.toNatClampNeg v4)) &&& 31) = 22 then (if inb (v4 + 1) L then (if inb (v4 + 2) L then (if inb (v4 + 3) L then (ob (f_L_runScript (sc (Int32.toNatClampNeg (v4 + 1))) (((Int32.toInt64 (sc (Int32.toNatClampNeg (v4 + 2)))) <<< (Int32.toInt64 32 &&& 63)) ||| ((Int32.toInt64 (sc (Int32.toNatClampNeg (v4 + 3)))) &&& 4294967295)) M) (fun x153 M154 => if inb (v4 + 1) L then (if inb (v4 + 2) L then (if inb (v4 + 3) L then (ob (f_X6_runScript (sc (Int32.toNatClampNeg (v4 + 1))) (((Int32.toInt64 (sc (Int32.toNatClampNeg (v4 + 2)))) <<< (Int32.toInt64 32 &&& 63)) ||| ((Int32.toInt64 (sc (Int32.toNatClampNeg (v4 + 3)))) &&& 4294967295)) M154) (fun x155 M156 => ob (f_X6_thrown  M156) (fun x157 M158 => if x157 = x153 then (if x153 = 0 then (if (lg_cmp (Int32.toInt64 (M158 43 (Int32.toNatClampNeg 0))) (Int32.toInt64 x155)) = 0 then (kk (v4 + 4) M158) else (none)) else (kk (v4 + 4) M158)) else (none)))) else none) else none) else none)) else none) else none) else none) else (if ((sc (Int32.toNatClampNeg v4)) &&& 31) = 23 then (if inb (v4 + 1) L then (if inb (v4 + 2) L then (if inb (v4 + 3) L then (ob (f_L_simulate (((Int32.toInt64 (sc (Int32.toNatClampNeg (v4 + 1)))) <<< (Int32.toInt64 32 &&& 63)) ||| ((Int32.toInt64 (sc (Int32.toNatClampNeg (v4 + 2)))) &&& 4294967295)) (sc (Int32.toNatClampNeg (v4 + 3))) M) (fun x159 M160 => if inb (v4 + 1) L then (if inb (v4 + 2) L then (if inb (v4 + 3) L then (ob (f_X6_simulate (((Int32.toInt64 (sc (Int32.toNatClampNeg (v4 + 1)))) <<< (Int32.toInt64 32 &&& 63)) ||| ((Int32.toInt64 (sc (Int32.toNatClampNeg (v4 + 2)))) &&& 4294967295)) (sc (Int32.toNatClampNeg (v4 + 3))) M160) (fun x161 M162 => ob (f_X6_thrown  M162) (fun x163 M164 => if x163 = x159 then (if x159 = 0 then (if (lg_cmp (Int32.toInt64 (M164 43 (Int32.toNatClampNeg 0))) (Int32.toInt64 x161)) = 0 then (kk (v4 + 4) M164) else (none)) else (kk (v4 + 4) M164)) else (none)))) else none) else none) else none)) else none) else none) else none) else (if ((sc (Int32.toNatClampNeg v4)) &&& 31) = 24 then (if inb (v4 + 1) L then (ob (f_L_save (sc (Int32.toNatClampNeg (v4 + 1))) M) (fun x165 M166 => if inb (v4 + 1) L then (ob (f_X6_save (sc (Int32.toNatClampNeg (v4 + 1))) M166) (fun x167 M168 => ob (f_X6_thrown  M168) (fun x169 M170 => if x169 = x165 then (if x165 = 0 then (if (lg_cmp (Int32.toInt64 (M170 43 (Int32.toNatClampNeg 0))) (Int32.toInt64 x167)) = 0 then (kk (v4 + 4) M170) else (none)) else (kk (v4 + 4) M170)) else (none)))) else none)) else none) else (if ((sc (Int32.toNatClampNeg v4)) &&& 31) = 25 then (if inb (v4 + 1) L then (ob (f_L_restore (sc (Int32.toNatClampNeg (v4 + 1))) M) (fun x171 M172 => if inb (v4 + 1) L then (ob (f_X6_restore (sc (Int32.toNatClampNeg (v4 + 1))) M172) (fun x173 M174 => ob (f_X6_thrown  M174) (fun x175 M176 => if x175 = x171 then (if x171 = 0 then (if (lg_cmp (Int32.toInt64 (M176 43 (Int32.toNatClampNeg 0))) (Int32.toInt64 x173)) = 0 then (kk (v4 + 4) M176) else (none)) else (kk (v4 + 4) M176)) else (none)))) else none)) else none) else (kk (v4 + 4) M))))))))))))))))))))))))))) else none)
def f_L_law (sc : Nat → Int32) (L : Nat) (M : Mem) : Option (Unit × Mem) := lq1 (f_L_law_b23 sc L) 600 0 M
