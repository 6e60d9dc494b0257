/-! X4_become -/
def f_X4_become (u : MtS) (v : MtS) : Option (MtS) := (some (mt_mk (v.1 0 0) (v.1 0 1) (v.1 0 2) (v.1 0 3) (v.1 0 4) (va_cpy (v.1 1) (u.1 1) ((0 : Int32)).toNatClampNeg ((0 : Int32)).toNatClampNeg ((40 : Int32)).toNatClampNeg) (va_cpy (v.1 2) (u.1 2) ((0 : Int32)).toNatClampNeg ((0 : Int32)).toNatClampNeg ((40 : Int32)).toNatClampNeg) (va_cpy (v.1 3) (u.1 3) ((0 : Int32)).toNatClampNeg ((0 : Int32)).toNatClampNeg ((40 : Int32)).toNatClampNeg) (va_cpy (v.1 4) (u.1 4) ((0 : Int32)).toNatClampNeg ((0 : Int32)).toNatClampNeg ((40 : Int32)).toNatClampNeg) (va_cpy (v.1 5) (u.1 5) ((0 : Int32)).toNatClampNeg ((0 : Int32)).toNatClampNeg ((10 : Int32)).toNatClampNeg) (va_cpy (v.1 6) (u.1 6) ((0 : Int32)).toNatClampNeg ((0 : Int32)).toNatClampNeg ((10 : Int32)).toNatClampNeg) (va_cpy (v.1 7) (u.1 7) ((0 : Int32)).toNatClampNeg ((0 : Int32)).toNatClampNeg ((10 : Int32)).toNatClampNeg) (va_cpy (v.1 8) (u.1 8) ((0 : Int32)).toNatClampNeg ((0 : Int32)).toNatClampNeg ((10 : Int32)).toNatClampNeg) (va_cpy (v.1 9) (u.1 9) ((0 : Int32)).toNatClampNeg ((0 : Int32)).toNatClampNeg ((10 : Int32)).toNatClampNeg) v.2))
/-! X4_isFull -/
def f_X4_isFull (u : MtS) : Option (Int32) := (if (u.1 0 4) < (10 : Int32) then (some (0 : Int32)) else (some (1 : Int32)))
/-! X4_hasFine -/
def f_X4_hasFine (u : MtS) (a0 : Int32) : Option (Int32) := (if a0 < 0 then (some (0 : Int32)) else (if (u.1 0 4) ≤ a0 then (some (0 : Int32)) else (if (10 : Int32) ≤ a0 then (some (0 : Int32)) else (some (1 : Int32)))))
/-! X4_addFine -/
def f_X4_addFine (u : MtS) (a0 : Int32) (a1 : Int32) (a2 : Int32) (a3 : Int32) : Option (MtS) := (bd (f_X4_isFull u) (fun r1 => (if r1 = 0 then (gx (u.1 0 4) 10 (gx (u.1 0 4) 10 (gx (u.1 0 4) 10 (gx (u.1 0 4) 10 (gx (u.1 0 4) 10 (some (mt_mk (u.1 0 0) (u.1 0 1) (u.1 0 2) (u.1 0 3) ((u.1 0 4) + (1 : Int32)) (u.1 1) (u.1 2) (u.1 3) (u.1 4) (upd (u.1 5) ((u.1 0 4)).toNatClampNeg a0) (upd (u.1 6) ((u.1 0 4)).toNatClampNeg a1) (upd (u.1 7) ((u.1 0 4)).toNatClampNeg a2) (upd (u.1 8) ((u.1 0 4)).toNatClampNeg a3) (upd (u.1 9) ((u.1 0 4)).toNatClampNeg (0 : Int32)) u.2))))))) else (some u))))
/-! X4_moveFine -/
def f_X4_moveFine (u : MtS) (a0 : Int32) (a1 : Int32) : Option (MtS) := (gx a0 10 (gx a0 10 (some (mt_mk (u.1 0 0) (u.1 0 1) (u.1 0 2) (u.1 0 3) (u.1 0 4) (u.1 1) (u.1 2) (u.1 3) (u.1 4) (u.1 5) (u.1 6) (upd (u.1 7) (a0).toNatClampNeg a1) (u.1 8) (upd (u.1 9) (a0).toNatClampNeg (0 : Int32)) u.2))))
/-! X4_kindOf -/
def f_X4_kindOf (u : MtS) (a0 : Int32) : Option (Nat) := (gx a0 10 (bd (f_X9_isKind ((u.1 5) (a0).toNatClampNeg)) (fun r2 => (if r2 = 0 then (some ((0 : Int32)).toNatClampNeg) else (gx ((u.1 5) (a0).toNatClampNeg) 6 (some (((u.1 5) (a0).toNatClampNeg)).toNatClampNeg))))))
/-! X4_wholePlaces -/
def f_X4_wholePlaces (u : MtS) : Option (Int32) := (bd (f_J13_bitCount_95d88 u.2) (fun r1 => (some r1)))
/-! X4_worksOf -/
def f_X4_worksOf (u : MtS) (a0 : Int32) : Option (Int32) := (bd (f_X4_kindOf u a0) (fun r1 => (gx a0 10 (bd (f_X4_wholePlaces u) (fun r3 => (gk r1 6 (bd (kd_works r1 ((u.1 8) (a0).toNatClampNeg) ((40 : Int32) - r3)) (fun r5 => (some r5)))))))))
/-! X4_highOf -/
def f_X4_highOf (u : MtS) (a0 : Int32) (a1 : Int32) : Option (Int32) := (bd (f_X9_isPlace a1) (fun r1 => (if r1 = 0 then (some (0 : Int32)) else (bd (f_X4_kindOf u a0) (fun r3 => (gx a1 40 (gk r3 6 (bd (kd_cutsHigh r3 ((u.1 1) (a1).toNatClampNeg)) (fun r6 => (some r6))))))))))
/-! X4_isWhole -/
def f_X4_isWhole (u : MtS) (a0 : Int32) : Option (Int32) := (bd (f_X9_isPlace a0) (fun r1 => (if r1 = 0 then (some (0 : Int32)) else (if (lg_cmp ((((u.2).toUInt64 >>> ((a0).toInt64.toUInt64 &&& Int64.toUInt64 63)).toInt64) &&& (1 : Int64)) (0 : Int64)) = 0 then (some (0 : Int32)) else (some (1 : Int32))))))
/-! X4_cutBy -/
def f_X4_cutBy_b31 (u : MtS) (kk : Int32 → Int32 → Int32 → Option (Int32)) (x1 : Int32) (x2 : Int32) (x3 : Int32) : Option (Int32) := (kk x1 x2 (x3 + (1 : Int32)))
def f_X4_cutBy_b4 (u : MtS) : Nat → Int32 → Int32 → Int32 → Option (Int32)
  | 0, _, _, _ => none
  | n + 1, x1, x2, x3 => (if (40 : Int32) ≤ x3 then (some x2) else (bd (f_X4_isWhole u x3) (fun r2 => (if r2 = 0 then (f_X4_cutBy_b31 u (f_X4_cutBy_b4 u n) x1 x2 x3) else (gx x3 40 (if ((u.1 3) (x3).toNatClampNeg) = x1 then (f_X4_cutBy_b31 u (f_X4_cutBy_b4 u n) x1 (x2 + (1 : Int32)) x3) else (f_X4_cutBy_b31 u (f_X4_cutBy_b4 u n) x1 x2 x3)))))))
def f_X4_cutBy (u : MtS) (a0 : Int32) : Option (Int32) := (f_X4_cutBy_b4 u 1000 a0 (0 : Int32) (0 : Int32))
/-! X4_owedByAll -/
def f_X4_owedByAll_b4 (u : MtS) : Nat → Int32 → Int32 → Option (Int32)
  | 0, _, _ => none
  | n + 1, x1, x2 => (if (u.1 0 4) ≤ x2 then (some x1) else (gx x2 10 (f_X4_owedByAll_b4 u n (x1 + ((u.1 6) (x2).toNatClampNeg)) (x2 + (1 : Int32)))))
def f_X4_owedByAll (u : MtS) : Option (Int32) := (f_X4_owedByAll_b4 u 1000 (0 : Int32) (0 : Int32))
/-! X4_highOfAll -/
def f_X4_highOfAll_b27 (u : MtS) (kk : Int32 → Int32 → Option (Int32)) (x1 : Int32) (x2 : Int32) : Option (Int32) := (kk x1 (x2 + (1 : Int32)))
def f_X4_highOfAll_b4 (u : MtS) : Nat → Int32 → Int32 → Option (Int32)
  | 0, _, _ => none
  | n + 1, x1, x2 => (if (40 : Int32) ≤ x2 then (some x1) else (bd (f_X4_isWhole u x2) (fun r2 => (if r2 = 0 then (f_X4_highOfAll_b27 u (f_X4_highOfAll_b4 u n) x1 x2) else (gx x2 40 (f_X4_highOfAll_b27 u (f_X4_highOfAll_b4 u n) (x1 + ((u.1 2) (x2).toNatClampNeg)) x2))))))
def f_X4_highOfAll (u : MtS) : Option (Int32) := (f_X4_highOfAll_b4 u 1000 (0 : Int32) (0 : Int32))
/-! X4_cut -/
def f_X4_cut (u : MtS) (a0 : Int32) (a1 : Int32) (a2 : Int32) : Option (MtS) := (gx a0 40 (gx a0 40 (gx a0 40 (some (mt_mk (u.1 0 0) (u.1 0 1) (u.1 0 2) (u.1 0 3) (u.1 0 4) (u.1 1) (upd (u.1 2) (a0).toNatClampNeg a1) (upd (u.1 3) (a0).toNatClampNeg a2) (upd (u.1 4) (a0).toNatClampNeg (u.1 0 0)) (u.1 5) (u.1 6) (u.1 7) (u.1 8) (u.1 9) (u.2 ||| ((1 : Int64) <<< ((a0).toInt64 &&& 63))))))))
/-! X4_breakUp -/
def f_X4_breakUp (u : MtS) (a0 : Int32) : Option (MtS) := (some (mt_mk (u.1 0 0) (u.1 0 1) (u.1 0 2) (u.1 0 3) (u.1 0 4) (u.1 1) (u.1 2) (u.1 3) (u.1 4) (u.1 5) (u.1 6) (u.1 7) (u.1 8) (u.1 9) (u.2 &&& (((1 : Int64) <<< ((a0).toInt64 &&& 63)) ^^^ (-1 : Int64)))))
/-! X4_isPair -/
def f_X4_isPair (u : MtS) (a0 : Int32) : Option (Int32) := (bd (f_X4_isWhole u a0) (fun r1 => (if r1 = 0 then (some (0 : Int32)) else (bd (f_X4_isWhole u (a0 - (1 : Int32))) (fun r3 => (if r3 = 0 then (some (0 : Int32)) else (some (1 : Int32))))))))
/-! X4_isMet -/
def f_X4_isMet (u : MtS) (a0 : Int32) (a1 : Int32) : Option (Int32) := (gx a0 40 (gx (a0 - (1 : Int32)) 40 (if a1 < (if 0 ≤ (((u.1 2) (a0).toNatClampNeg) - ((u.1 2) ((a0 - (1 : Int32))).toNatClampNeg)) then (((u.1 2) (a0).toNatClampNeg) - ((u.1 2) ((a0 - (1 : Int32))).toNatClampNeg)) else 0 - (((u.1 2) (a0).toNatClampNeg) - ((u.1 2) ((a0 - (1 : Int32))).toNatClampNeg))) then (some (0 : Int32)) else (some (1 : Int32)))))
/-! X4_climbWith -/
def f_X4_climbWith_b12 (u : MtS) : Nat → Int32 → Int32 → Option (Int32)
  | 0, _, _ => none
  | n + 1, x1, x2 => (if (40 : Int32) ≤ x2 then (some x2) else (bd (f_X4_isWhole u x2) (fun r4 => (if r4 = 0 then (some x2) else (bd (f_X4_isMet u x2 x1) (fun r6 => (if r6 = 0 then (some x2) else (f_X4_climbWith_b12 u n x1 (x2 + (1 : Int32))))))))))
def f_X4_climbWith (u : MtS) (a0 : Int32) : Option (Int32) := (bd (f_X4_isWhole u (0 : Int32)) (fun r1 => (if r1 = 0 then (some (0 : Int32)) else (f_X4_climbWith_b12 u 1000 a0 (1 : Int32)))))
/-! X4_climb -/
def f_X4_climb (u : MtS) : Option (Int32) := (bd (f_X4_climbWith u (u.1 0 2)) (fun r1 => (some r1)))
/-! X4_isAtRest -/
def f_X4_isAtRest_b45 (u : MtS) (x1 : Int32) (s0 : Int32) : Option (Int32) := (if x1 = 0 then (if s0 = 0 then (some (1 : Int32)) else (some (0 : Int32))) else (some (0 : Int32)))
def f_X4_isAtRest_b44 (u : MtS) (x1 : Int32) : Option (Int32) := (f_X4_isAtRest_b45 u x1 (0 : Int32))
def f_X4_isAtRest_b23 (u : MtS) (s0 : Int32) : Option (Int32) := (if (lg_cmp u.2 (0 : Int64)) = 0 then (f_X4_isAtRest_b44 u s0) else (if (u.1 0 1) ≤ 0 then (f_X4_isAtRest_b44 u s0) else (f_X4_isAtRest_b45 u s0 (1 : Int32))))
def f_X4_isAtRest_b22 (u : MtS)  : Option (Int32) := (f_X4_isAtRest_b23 u (0 : Int32))
def f_X4_isAtRest (u : MtS) : Option (Int32) := (if (lg_cmp u.2 (1099511627775 : Int64)) = 0 then (f_X4_isAtRest_b22 u) else (bd (f_X4_owedByAll u) (fun r2 => (if r2 ≤ 0 then (f_X4_isAtRest_b22 u) else (f_X4_isAtRest_b23 u (1 : Int32))))))
/-! X4_goOn -/
def f_X4_goOn_b46  (kk : MtS → Int32 → Int32 → Option (MtS)) (u : MtS) (x1 : Int32) (x2 : Int32) (s0 : Int32) (s1 : Int32) : Option (MtS) := (bd (f_X4_moveFine u s1 s0) (fun r8 => (kk r8 x1 (x2 + (1 : Int32)))))
def f_X4_goOn_b2  : Nat → MtS → Int32 → Int32 → Option (MtS)
  | 0, _, _, _ => none
  | n + 1, u, x1, x2 => (if (40 : Int32) ≤ x2 then (some u) else (gx x1 10 (bd (f_X4_isWhole u ((u.1 7) (x1).toNatClampNeg)) (fun r3 => (if r3 = 0 then (some u) else (gx x1 10 (if ((u.1 7) (x1).toNatClampNeg) = (39 : Int32) then (f_X4_goOn_b46 (f_X4_goOn_b2 n) u x1 x2 (0 : Int32) x1) else (gx x1 10 (f_X4_goOn_b46 (f_X4_goOn_b2 n) u x1 x2 (((u.1 7) (x1).toNatClampNeg) + (1 : Int32)) x1)))))))))
def f_X4_goOn (u : MtS) (a0 : Int32) : Option (MtS) := (f_X4_goOn_b2 1000 u a0 (0 : Int32))
/-! X4_workOn -/
def f_X4_workOn (u : MtS) (a0 : Int32) (a1 : Int32) : Option (MtS) := (bd (f_X4_kindOf u a0) (fun r1 => (gx a0 10 (gx a0 10 (bd (f_X4_wholePlaces u) (fun r4 => (gk r1 6 (bd (kd_works r1 ((u.1 8) (a0).toNatClampNeg) ((40 : Int32) - r4)) (fun r6 => (gx a0 10 (bd (f_X9_isPlace a1) (fun r8 => (if r8 = 0 then (some (mt_mk (u.1 0 0) (u.1 0 1) (u.1 0 2) (u.1 0 3) (u.1 0 4) (u.1 1) (u.1 2) (u.1 3) (u.1 4) (u.1 5) (u.1 6) (u.1 7) (u.1 8) (upd (u.1 9) (a0).toNatClampNeg (((u.1 9) (a0).toNatClampNeg) + r6)) u.2)) else (gx a0 10 (gx a1 40 (if ((upd (u.1 9) (a0).toNatClampNeg (((u.1 9) (a0).toNatClampNeg) + r6)) (a0).toNatClampNeg) < ((u.1 1) (a1).toNatClampNeg) then (some (mt_mk (u.1 0 0) (u.1 0 1) (u.1 0 2) (u.1 0 3) (u.1 0 4) (u.1 1) (u.1 2) (u.1 3) (u.1 4) (u.1 5) (u.1 6) (u.1 7) (u.1 8) (upd (u.1 9) (a0).toNatClampNeg (((u.1 9) (a0).toNatClampNeg) + r6)) u.2)) else (gx a1 40 (gk r1 6 (bd (kd_cutsHigh r1 ((u.1 1) (a1).toNatClampNeg)) (fun r15 => (bd (f_X4_cut (mt_mk (u.1 0 0) (u.1 0 1) (u.1 0 2) (u.1 0 3) (u.1 0 4) (u.1 1) (u.1 2) (u.1 3) (u.1 4) (u.1 5) (u.1 6) (u.1 7) (u.1 8) (upd (u.1 9) (a0).toNatClampNeg (((u.1 9) (a0).toNatClampNeg) + r6)) u.2) a1 r15 a0) (fun r16 => (gx a0 10 (gk r1 6 (bd (kd_counts r1) (fun r19 => (gx a0 10 (gx a0 10 (some (mt_mk (r16.1 0 0) (r16.1 0 1) (r16.1 0 2) (r16.1 0 3) (r16.1 0 4) (r16.1 1) (r16.1 2) (r16.1 3) (r16.1 4) (r16.1 5) (upd (r16.1 6) (a0).toNatClampNeg (if (0 : Int32) < (((r16.1 6) (a0).toNatClampNeg) - r19) then (((r16.1 6) (a0).toNatClampNeg) - r19) else (0 : Int32))) (r16.1 7) (r16.1 8) (upd (r16.1 9) (a0).toNatClampNeg (0 : Int32)) r16.2))))))))))))))))))))))))))))))
/-! X4_draw -/
def f_X4_draw (u : MtS) : Option (Int32 × MtS) := (some ((((((((u.1 0 3) * (1103515245 : Int32)) + (12345 : Int32))).toUInt32 >>> (((8 : Int32)).toUInt32 &&& Int32.toUInt32 31)).toInt32) - ((((((u.1 0 3) * (1103515245 : Int32)) + (12345 : Int32))).toUInt32 >>> (((8 : Int32)).toUInt32 &&& Int32.toUInt32 31)).toInt32) / (10 : Int32) * (10 : Int32)), (mt_mk (u.1 0 0) (u.1 0 1) (u.1 0 2) (((u.1 0 3) * (1103515245 : Int32)) + (12345 : Int32)) (u.1 0 4) (u.1 1) (u.1 2) (u.1 3) (u.1 4) (u.1 5) (u.1 6) (u.1 7) (u.1 8) (u.1 9) u.2)))
/-! X4_freeze -/
def f_X4_freeze_b32  (kk : MtS → Int32 → Option (MtS)) (u : MtS) (x1 : Int32) : Option (MtS) := (kk u (x1 + (1 : Int32)))
def f_X4_freeze_b2  : Nat → MtS → Int32 → Option (MtS)
  | 0, _, _ => none
  | n + 1, u, x1 => (if (40 : Int32) ≤ x1 then (some u) else (bd (f_X4_isWhole u x1) (fun r2 => (if r2 = 0 then (f_X4_freeze_b32 (f_X4_freeze_b2 n) u x1) else (bd (f_X4_draw u) (fun r4 => (if (r4.2.1 0 1) ≤ r4.1 then (f_X4_freeze_b32 (f_X4_freeze_b2 n) r4.2 x1) else (bd (f_X4_breakUp r4.2 x1) (fun r6 => (f_X4_freeze_b32 (f_X4_freeze_b2 n) r6 x1))))))))))
def f_X4_freeze (u : MtS) : Option (MtS) := (f_X4_freeze_b2 1000 u (0 : Int32))
/-! X4_goYear -/
def f_X4_goYear_b46  (kk : MtS → Int32 → Option (MtS)) (u : MtS) (x1 : Int32) : Option (MtS) := (kk u (x1 + (1 : Int32)))
def f_X4_goYear_b63  (u : MtS) : Option (MtS) := (some (mt_mk ((u.1 0 0) + (1 : Int32)) (u.1 0 1) (u.1 0 2) (u.1 0 3) (u.1 0 4) (u.1 1) (u.1 2) (u.1 3) (u.1 4) (u.1 5) (u.1 6) (u.1 7) (u.1 8) (u.1 9) u.2))
def f_X4_goYear_b2  : Nat → MtS → Int32 → Option (MtS)
  | 0, _, _ => none
  | n + 1, u, x1 => (if (u.1 0 4) ≤ x1 then (if (u.1 0 1) ≤ 0 then (f_X4_goYear_b63 u) else (bd (f_X4_freeze u) (fun r3 => (f_X4_goYear_b63 r3)))) else (gx x1 10 (if ((u.1 6) (x1).toNatClampNeg) ≤ 0 then (f_X4_goYear_b46 (f_X4_goYear_b2 n) u x1) else (if (lg_cmp u.2 (1099511627775 : Int64)) = 0 then (f_X4_goYear_b46 (f_X4_goYear_b2 n) u x1) else (bd (f_X4_goOn u x1) (fun r7 => (gx x1 10 (bd (f_X4_workOn r7 x1 ((r7.1 7) (x1).toNatClampNeg)) (fun r9 => (f_X4_goYear_b46 (f_X4_goYear_b2 n) r9 x1))))))))))
def f_X4_goYear (u : MtS) : Option (MtS) := (f_X4_goYear_b2 1000 u (0 : Int32))
/-! X4_goYears -/
def f_X4_goYears_b2  : Nat → MtS → Int32 → Int32 → Option (MtS)
  | 0, _, _, _ => none
  | n + 1, u, x1, x2 => (if x1 ≤ x2 then (some u) else (bd (f_X4_isAtRest u) (fun r2 => (if r2 = 0 then (bd (f_X4_goYear u) (fun r4 => (f_X4_goYears_b2 n r4 x1 (x2 + (1 : Int32))))) else (some (mt_mk ((u.1 0 0) + (x1 - x2)) (u.1 0 1) (u.1 0 2) (u.1 0 3) (u.1 0 4) (u.1 1) (u.1 2) (u.1 3) (u.1 4) (u.1 5) (u.1 6) (u.1 7) (u.1 8) (u.1 9) u.2))))))
def f_X4_goYears (u : MtS) (a0 : Int32) : Option (MtS) := (f_X4_goYears_b2 1000 u a0 (0 : Int32))
/-! X7_isMissing -/
def f_X7_isMissing (bit : Int32) : Option (Int32) := (if bit = 0 then (some (1 : Int32)) else (some (0 : Int32)))
/-! X7_layOut -/
def f_X7_layOut_b15  (num : Nat → Int64) (bit : Int32) (len : Int32) (s0 : Int32) : Option ((Nat → Int64) × Int32 × Int32) := (bd (f_J7_fill_d0a16 num (0 : Int64)) (fun r2 => (some (r2, bit, s0))))
def f_X7_layOut (num : Nat → Int64) (bit : Int32) (len : Int32) (a0 : Int32) (a1 : Int32) : Option ((Nat → Int64) × Int32 × Int32) := (if a0 = 0 then (f_X7_layOut_b15 num a0 len (0 : Int32)) else (f_X7_layOut_b15 num a0 len a1))
/-! X7_holds -/
def f_X7_holds (len : Int32) (a0 : Int32) (a1 : Int32) : Option (Int32) := (if a0 < 0 then (some (0 : Int32)) else (if a1 < 0 then (some (0 : Int32)) else (if len < a1 then (some (0 : Int32)) else (if (len - a1) < a0 then (some (0 : Int32)) else (some (1 : Int32))))))
/-! X7_lowest -/
def f_X7_lowest (bit : Int32) (a0 : Int64) : Option (Int64) := (if bit = (8 : Int32) then (some ((((((a0).toInt32)).toInt8.toInt32)).toInt64)) else (if bit = (16 : Int32) then (some ((((((a0).toInt32)).toInt16.toInt32)).toInt64)) else (some a0)))
/-! X7_put -/
def f_X7_put (num : Nat → Int64) (bit : Int32) (len : Int32) (a0 : Int32) (a1 : Int64) : Option ((Nat → Int64)) := (bd (f_X7_holds len a0 (1 : Int32)) (fun r1 => (if r1 = 0 then (some num) else (bd (f_X7_lowest bit a1) (fun r3 => (gx a0 40 (some (vp_updL num (a0).toNatClampNeg r3))))))))
