theorem bipush_127 : (Int8.ofInt (127)).toInt32 = (127 : Int32) := by decide +kernel
theorem vi_0_6 : vp_in (0 : Int32) 6 := (by decide +kernel : ¬ ((0 : Int32) < 0 ∨ 6 ≤ (0 : Int32).toNatClampNeg))
abbrev MtS : Type := (Nat → Nat → Int32) × Int64
abbrev ShS : Type := (Nat → Int64) × Int32 × Int32
def mt_mk (p_year : Int32) (p_frost : Int32) (p_meets : Int32) (p_z : Int32) (p_fines : Int32) (p_rock : Nat → Int32) (p_high : Nat → Int32) (p_cutter : Nat → Int32) (p_cutIn : Nat → Int32) (p_kind : Nat → Int32) (p_owes : Nat → Int32) (p_at : Nat → Int32) (p_arm : Nat → Int32) (p_work : Nat → Int32) (p_whole : Int64) : MtS := (fun a => match a with
  | 0 => (fun j => match j with
    | 0 => p_year
    | 1 => p_frost
    | 2 => p_meets
    | 3 => p_z
    | _ => p_fines)
  | 1 => p_rock
  | 2 => p_high
  | 3 => p_cutter
  | 4 => p_cutIn
  | 5 => p_kind
  | 6 => p_owes
  | 7 => p_at
  | 8 => p_arm
  | _ => p_work, p_whole)
abbrev mt_W (hm : Nat → Nat) (kA : Nat) (ka : Nat → Nat) (cI cK : ClassId) (u : MtS) : va_W := [(hm 0, .inr (4, [.ref kA, .ref (hm 1), .ref (hm 2), .ref (hm 3), .ref (hm 4), .long u.2, .int (u.1 0 0), .int (u.1 0 1), .int (u.1 0 2), .int (u.1 0 3), .int (u.1 0 4), .ref (hm 5), .ref (hm 6), .ref (hm 7), .ref (hm 8), .ref (hm 9)])), (hm 1, .inl (cI, 40, .inl (u.1 1))), (hm 2, .inl (cI, 40, .inl (u.1 2))), (hm 3, .inl (cI, 40, .inl (u.1 3))), (hm 4, .inl (cI, 40, .inl (u.1 4))), (hm 5, .inl (cI, 10, .inl (u.1 5))), (hm 6, .inl (cI, 10, .inl (u.1 6))), (hm 7, .inl (cI, 10, .inl (u.1 7))), (hm 8, .inl (cI, 10, .inl (u.1 8))), (hm 9, .inl (cI, 10, .inl (u.1 9))), (kA, .inl (cK, 6, .inr (.inr (.inr (.inr (fun k => some (ka k))))))), (ka 0, .inr (3, [])), (ka 1, .inr (6, [])), (ka 2, .inr (0, [])), (ka 3, .inr (2, [])), (ka 4, .inr (1, [])), (ka 5, .inr (5, []))]
abbrev mm_W (hm hn : Nat → Nat) (kA kB : Nat) (cI : ClassId) (u v : MtS) : va_W := [(hm 0, .inr (4, [.ref kA, .ref (hm 1), .ref (hm 2), .ref (hm 3), .ref (hm 4), .long u.2, .int (u.1 0 0), .int (u.1 0 1), .int (u.1 0 2), .int (u.1 0 3), .int (u.1 0 4), .ref (hm 5), .ref (hm 6), .ref (hm 7), .ref (hm 8), .ref (hm 9)])), (hm 1, .inl (cI, 40, .inl (u.1 1))), (hm 2, .inl (cI, 40, .inl (u.1 2))), (hm 3, .inl (cI, 40, .inl (u.1 3))), (hm 4, .inl (cI, 40, .inl (u.1 4))), (hm 5, .inl (cI, 10, .inl (u.1 5))), (hm 6, .inl (cI, 10, .inl (u.1 6))), (hm 7, .inl (cI, 10, .inl (u.1 7))), (hm 8, .inl (cI, 10, .inl (u.1 8))), (hm 9, .inl (cI, 10, .inl (u.1 9))), (hn 0, .inr (4, [.ref kB, .ref (hn 1), .ref (hn 2), .ref (hn 3), .ref (hn 4), .long v.2, .int (v.1 0 0), .int (v.1 0 1), .int (v.1 0 2), .int (v.1 0 3), .int (v.1 0 4), .ref (hn 5), .ref (hn 6), .ref (hn 7), .ref (hn 8), .ref (hn 9)])), (hn 1, .inl (cI, 40, .inl (v.1 1))), (hn 2, .inl (cI, 40, .inl (v.1 2))), (hn 3, .inl (cI, 40, .inl (v.1 3))), (hn 4, .inl (cI, 40, .inl (v.1 4))), (hn 5, .inl (cI, 10, .inl (v.1 5))), (hn 6, .inl (cI, 10, .inl (v.1 6))), (hn 7, .inl (cI, 10, .inl (v.1 7))), (hn 8, .inl (cI, 10, .inl (v.1 8))), (hn 9, .inl (cI, 10, .inl (v.1 9)))]
abbrev sh_W (a b : Nat) (cJ : ClassId) (num : Nat → Int64) (bit len : Int32) : va_W := [(a, .inr (7, [.ref b, .int bit, .int len])), (b, .inl (cJ, 40, .inr (.inl num)))]
def kd_ci : Nat → Nat
  | 0 => 3
  | 1 => 6
  | 2 => 0
  | 3 => 2
  | 4 => 1
  | _ => 5

theorem mt_kat (hm : Nat → Nat) (kA : Nat) (ka : Nat → Nat) (cI cK : ClassId) (u : MtS) : ∀ j, j < 6 → (mt_W hm kA ka cI cK u)[11 + j]? = some (ka j, .inr (kd_ci j, []))
  | 0, _ => rfl
  | 1, _ => rfl
  | 2, _ => rfl
  | 3, _ => rfl
  | 4, _ => rfl
  | 5, _ => rfl
/-! J13_bitCount_95d88 -/
def f_J13_bitCount_95d88 (a0 : Int64) : Option (Int32) := (some (((((((((((a0 - ((((a0).toUInt64 >>> (((1 : Int32)).toInt64.toUInt64 &&& Int64.toUInt64 63)).toInt64) &&& (6148914691236517205 : Int64))) &&& (3689348814741910323 : Int64)) + (((((a0 - ((((a0).toUInt64 >>> (((1 : Int32)).toInt64.toUInt64 &&& Int64.toUInt64 63)).toInt64) &&& (6148914691236517205 : Int64)))).toUInt64 >>> (((2 : Int32)).toInt64.toUInt64 &&& Int64.toUInt64 63)).toInt64) &&& (3689348814741910323 : Int64))) + ((((((a0 - ((((a0).toUInt64 >>> (((1 : Int32)).toInt64.toUInt64 &&& Int64.toUInt64 63)).toInt64) &&& (6148914691236517205 : Int64))) &&& (3689348814741910323 : Int64)) + (((((a0 - ((((a0).toUInt64 >>> (((1 : Int32)).toInt64.toUInt64 &&& Int64.toUInt64 63)).toInt64) &&& (6148914691236517205 : Int64)))).toUInt64 >>> (((2 : Int32)).toInt64.toUInt64 &&& Int64.toUInt64 63)).toInt64) &&& (3689348814741910323 : Int64)))).toUInt64 >>> (((4 : Int32)).toInt64.toUInt64 &&& Int64.toUInt64 63)).toInt64)) &&& (1085102592571150095 : Int64)) + ((((((((a0 - ((((a0).toUInt64 >>> (((1 : Int32)).toInt64.toUInt64 &&& Int64.toUInt64 63)).toInt64) &&& (6148914691236517205 : Int64))) &&& (3689348814741910323 : Int64)) + (((((a0 - ((((a0).toUInt64 >>> (((1 : Int32)).toInt64.toUInt64 &&& Int64.toUInt64 63)).toInt64) &&& (6148914691236517205 : Int64)))).toUInt64 >>> (((2 : Int32)).toInt64.toUInt64 &&& Int64.toUInt64 63)).toInt64) &&& (3689348814741910323 : Int64))) + ((((((a0 - ((((a0).toUInt64 >>> (((1 : Int32)).toInt64.toUInt64 &&& Int64.toUInt64 63)).toInt64) &&& (6148914691236517205 : Int64))) &&& (3689348814741910323 : Int64)) + (((((a0 - ((((a0).toUInt64 >>> (((1 : Int32)).toInt64.toUInt64 &&& Int64.toUInt64 63)).toInt64) &&& (6148914691236517205 : Int64)))).toUInt64 >>> (((2 : Int32)).toInt64.toUInt64 &&& Int64.toUInt64 63)).toInt64) &&& (3689348814741910323 : Int64)))).toUInt64 >>> (((4 : Int32)).toInt64.toUInt64 &&& Int64.toUInt64 63)).toInt64)) &&& (1085102592571150095 : Int64))).toUInt64 >>> (((8 : Int32)).toInt64.toUInt64 &&& Int64.toUInt64 63)).toInt64)) + (((((((((a0 - ((((a0).toUInt64 >>> (((1 : Int32)).toInt64.toUInt64 &&& Int64.toUInt64 63)).toInt64) &&& (6148914691236517205 : Int64))) &&& (3689348814741910323 : Int64)) + (((((a0 - ((((a0).toUInt64 >>> (((1 : Int32)).toInt64.toUInt64 &&& Int64.toUInt64 63)).toInt64) &&& (6148914691236517205 : Int64)))).toUInt64 >>> (((2 : Int32)).toInt64.toUInt64 &&& Int64.toUInt64 63)).toInt64) &&& (3689348814741910323 : Int64))) + ((((((a0 - ((((a0).toUInt64 >>> (((1 : Int32)).toInt64.toUInt64 &&& Int64.toUInt64 63)).toInt64) &&& (6148914691236517205 : Int64))) &&& (3689348814741910323 : Int64)) + (((((a0 - ((((a0).toUInt64 >>> (((1 : Int32)).toInt64.toUInt64 &&& Int64.toUInt64 63)).toInt64) &&& (6148914691236517205 : Int64)))).toUInt64 >>> (((2 : Int32)).toInt64.toUInt64 &&& Int64.toUInt64 63)).toInt64) &&& (3689348814741910323 : Int64)))).toUInt64 >>> (((4 : Int32)).toInt64.toUInt64 &&& Int64.toUInt64 63)).toInt64)) &&& (1085102592571150095 : Int64)) + ((((((((a0 - ((((a0).toUInt64 >>> (((1 : Int32)).toInt64.toUInt64 &&& Int64.toUInt64 63)).toInt64) &&& (6148914691236517205 : Int64))) &&& (3689348814741910323 : Int64)) + (((((a0 - ((((a0).toUInt64 >>> (((1 : Int32)).toInt64.toUInt64 &&& Int64.toUInt64 63)).toInt64) &&& (6148914691236517205 : Int64)))).toUInt64 >>> (((2 : Int32)).toInt64.toUInt64 &&& Int64.toUInt64 63)).toInt64) &&& (3689348814741910323 : Int64))) + ((((((a0 - ((((a0).toUInt64 >>> (((1 : Int32)).toInt64.toUInt64 &&& Int64.toUInt64 63)).toInt64) &&& (6148914691236517205 : Int64))) &&& (3689348814741910323 : Int64)) + (((((a0 - ((((a0).toUInt64 >>> (((1 : Int32)).toInt64.toUInt64 &&& Int64.toUInt64 63)).toInt64) &&& (6148914691236517205 : Int64)))).toUInt64 >>> (((2 : Int32)).toInt64.toUInt64 &&& Int64.toUInt64 63)).toInt64) &&& (3689348814741910323 : Int64)))).toUInt64 >>> (((4 : Int32)).toInt64.toUInt64 &&& Int64.toUInt64 63)).toInt64)) &&& (1085102592571150095 : Int64))).toUInt64 >>> (((8 : Int32)).toInt64.toUInt64 &&& Int64.toUInt64 63)).toInt64))).toUInt64 >>> (((16 : Int32)).toInt64.toUInt64 &&& Int64.toUInt64 63)).toInt64)) + ((((((((((a0 - ((((a0).toUInt64 >>> (((1 : Int32)).toInt64.toUInt64 &&& Int64.toUInt64 63)).toInt64) &&& (6148914691236517205 : Int64))) &&& (3689348814741910323 : Int64)) + (((((a0 - ((((a0).toUInt64 >>> (((1 : Int32)).toInt64.toUInt64 &&& Int64.toUInt64 63)).toInt64) &&& (6148914691236517205 : Int64)))).toUInt64 >>> (((2 : Int32)).toInt64.toUInt64 &&& Int64.toUInt64 63)).toInt64) &&& (3689348814741910323 : Int64))) + ((((((a0 - ((((a0).toUInt64 >>> (((1 : Int32)).toInt64.toUInt64 &&& Int64.toUInt64 63)).toInt64) &&& (6148914691236517205 : Int64))) &&& (3689348814741910323 : Int64)) + (((((a0 - ((((a0).toUInt64 >>> (((1 : Int32)).toInt64.toUInt64 &&& Int64.toUInt64 63)).toInt64) &&& (6148914691236517205 : Int64)))).toUInt64 >>> (((2 : Int32)).toInt64.toUInt64 &&& Int64.toUInt64 63)).toInt64) &&& (3689348814741910323 : Int64)))).toUInt64 >>> (((4 : Int32)).toInt64.toUInt64 &&& Int64.toUInt64 63)).toInt64)) &&& (1085102592571150095 : Int64)) + ((((((((a0 - ((((a0).toUInt64 >>> (((1 : Int32)).toInt64.toUInt64 &&& Int64.toUInt64 63)).toInt64) &&& (6148914691236517205 : Int64))) &&& (3689348814741910323 : Int64)) + (((((a0 - ((((a0).toUInt64 >>> (((1 : Int32)).toInt64.toUInt64 &&& Int64.toUInt64 63)).toInt64) &&& (6148914691236517205 : Int64)))).toUInt64 >>> (((2 : Int32)).toInt64.toUInt64 &&& Int64.toUInt64 63)).toInt64) &&& (3689348814741910323 : Int64))) + ((((((a0 - ((((a0).toUInt64 >>> (((1 : Int32)).toInt64.toUInt64 &&& Int64.toUInt64 63)).toInt64) &&& (6148914691236517205 : Int64))) &&& (3689348814741910323 : Int64)) + (((((a0 - ((((a0).toUInt64 >>> (((1 : Int32)).toInt64.toUInt64 &&& Int64.toUInt64 63)).toInt64) &&& (6148914691236517205 : Int64)))).toUInt64 >>> (((2 : Int32)).toInt64.toUInt64 &&& Int64.toUInt64 63)).toInt64) &&& (3689348814741910323 : Int64)))).toUInt64 >>> (((4 : Int32)).toInt64.toUInt64 &&& Int64.toUInt64 63)).toInt64)) &&& (1085102592571150095 : Int64))).toUInt64 >>> (((8 : Int32)).toInt64.toUInt64 &&& Int64.toUInt64 63)).toInt64)) + (((((((((a0 - ((((a0).toUInt64 >>> (((1 : Int32)).toInt64.toUInt64 &&& Int64.toUInt64 63)).toInt64) &&& (6148914691236517205 : Int64))) &&& (3689348814741910323 : Int64)) + (((((a0 - ((((a0).toUInt64 >>> (((1 : Int32)).toInt64.toUInt64 &&& Int64.toUInt64 63)).toInt64) &&& (6148914691236517205 : Int64)))).toUInt64 >>> (((2 : Int32)).toInt64.toUInt64 &&& Int64.toUInt64 63)).toInt64) &&& (3689348814741910323 : Int64))) + ((((((a0 - ((((a0).toUInt64 >>> (((1 : Int32)).toInt64.toUInt64 &&& Int64.toUInt64 63)).toInt64) &&& (6148914691236517205 : Int64))) &&& (3689348814741910323 : Int64)) + (((((a0 - ((((a0).toUInt64 >>> (((1 : Int32)).toInt64.toUInt64 &&& Int64.toUInt64 63)).toInt64) &&& (6148914691236517205 : Int64)))).toUInt64 >>> (((2 : Int32)).toInt64.toUInt64 &&& Int64.toUInt64 63)).toInt64) &&& (3689348814741910323 : Int64)))).toUInt64 >>> (((4 : Int32)).toInt64.toUInt64 &&& Int64.toUInt64 63)).toInt64)) &&& (1085102592571150095 : Int64)) + ((((((((a0 - ((((a0).toUInt64 >>> (((1 : Int32)).toInt64.toUInt64 &&& Int64.toUInt64 63)).toInt64) &&& (6148914691236517205 : Int64))) &&& (3689348814741910323 : Int64)) + (((((a0 - ((((a0).toUInt64 >>> (((1 : Int32)).toInt64.toUInt64 &&& Int64.toUInt64 63)).toInt64) &&& (6148914691236517205 : Int64)))).toUInt64 >>> (((2 : Int32)).toInt64.toUInt64 &&& Int64.toUInt64 63)).toInt64) &&& (3689348814741910323 : Int64))) + ((((((a0 - ((((a0).toUInt64 >>> (((1 : Int32)).toInt64.toUInt64 &&& Int64.toUInt64 63)).toInt64) &&& (6148914691236517205 : Int64))) &&& (3689348814741910323 : Int64)) + (((((a0 - ((((a0).toUInt64 >>> (((1 : Int32)).toInt64.toUInt64 &&& Int64.toUInt64 63)).toInt64) &&& (6148914691236517205 : Int64)))).toUInt64 >>> (((2 : Int32)).toInt64.toUInt64 &&& Int64.toUInt64 63)).toInt64) &&& (3689348814741910323 : Int64)))).toUInt64 >>> (((4 : Int32)).toInt64.toUInt64 &&& Int64.toUInt64 63)).toInt64)) &&& (1085102592571150095 : Int64))).toUInt64 >>> (((8 : Int32)).toInt64.toUInt64 &&& Int64.toUInt64 63)).toInt64))).toUInt64 >>> (((16 : Int32)).toInt64.toUInt64 &&& Int64.toUInt64 63)).toInt64))).toUInt64 >>> (((32 : Int32)).toInt64.toUInt64 &&& Int64.toUInt64 63)).toInt64))).toInt32) &&& (127 : Int32)))
/-! J7_fill_53178 -/
def f_J7_fill_53178_b5  : Nat → (Nat → Int32) → Int32 → Int32 → Int32 → Option ((Nat → Int32))
  | 0, _, _, _, _ => none
  | n + 1, arr, x1, x2, x3 => (if x3 ≤ x2 then (some arr) else (gx x2 40 (f_J7_fill_53178_b5 n (upd arr (x2).toNatClampNeg x1) x1 (x2 + (1 : Int32)) x3)))
def f_J7_fill_53178 (arr : Nat → Int32) (a1 : Int32) : Option ((Nat → Int32)) := (f_J7_fill_53178_b5 1000 arr a1 (0 : Int32) (40 : Int32))
/-! J7_fill_d0a16 -/
def f_J7_fill_d0a16_b6  : Nat → (Nat → Int64) → Int64 → Int32 → Int32 → Option ((Nat → Int64))
  | 0, _, _, _, _ => none
  | n + 1, arr, x1, x3, x4 => (if x4 ≤ x3 then (some arr) else (gx x3 40 (f_J7_fill_d0a16_b6 n (vp_updL arr (x3).toNatClampNeg x1) x1 (x3 + (1 : Int32)) x4)))
def f_J7_fill_d0a16 (arr : Nat → Int64) (a1 : Int64) : Option ((Nat → Int64)) := (f_J7_fill_d0a16_b6 1000 arr a1 (0 : Int32) (40 : Int32))
/-! X9_isWithin -/
def f_X9_isWithin (a0 : Int32) (a1 : Int32) (a2 : Int32) : Option (Int32) := (if a0 < a1 then (some (0 : Int32)) else (if a2 < a0 then (some (0 : Int32)) else (some (1 : Int32))))
/-! X9_isPlace -/
def f_X9_isPlace (a0 : Int32) : Option (Int32) := (if a0 < 0 then (some (0 : Int32)) else (if (40 : Int32) ≤ a0 then (some (0 : Int32)) else (some (1 : Int32))))
/-! X9_isKind -/
def f_X9_isKind (a0 : Int32) : Option (Int32) := (if a0 < 0 then (some (0 : Int32)) else (if (6 : Int32) ≤ a0 then (some (0 : Int32)) else (some (1 : Int32))))
/-! X9_isSheet -/
def f_X9_isSheet (a0 : Int32) : Option (Int32) := (if a0 < 0 then (some (0 : Int32)) else (if (4 : Int32) ≤ a0 then (some (0 : Int32)) else (some (1 : Int32))))
/-! X8_isLetter -/
def f_X8_isLetter (a0 : Int32) : Option (Int32) := (if a0 < (97 : Int32) then (some (0 : Int32)) else (if (122 : Int32) < a0 then (some (0 : Int32)) else (some (1 : Int32))))
/-! X8_isDigit -/
def f_X8_isDigit (a0 : Int32) : Option (Int32) := (if a0 < (48 : Int32) then (some (0 : Int32)) else (if (57 : Int32) < a0 then (some (0 : Int32)) else (some (1 : Int32))))
/-! X3_name -/
def f_X3_name  : Option (Nat) := (some 0)
/-! X3_works -/
def f_X3_works (a0 : Int32) (a1 : Int32) : Option (Int32) := (some a0)
/-! X3_cutsHigh -/
def f_X3_cutsHigh (a0 : Int32) : Option (Int32) := (some ((8 : Int32) + a0))
/-! X3_counts -/
def f_X3_counts  : Option (Int32) := (some (1 : Int32))
/-! X6_name -/
def f_X6_name  : Option (Nat) := (some 1)
/-! X6_works -/
def f_X6_works (a0 : Int32) (a1 : Int32) : Option (Int32) := (bd (f_X3_works a0 a1) (fun r1 => (some ((2 : Int32) * r1))))
/-! X0_name -/
def f_X0_name  : Option (Nat) := (some 2)
/-! X0_cutsHigh -/
def f_X0_cutsHigh (a0 : Int32) : Option (Int32) := (bd (f_X3_cutsHigh a0) (fun r1 => (some (r1 - (2 : Int32)))))
/-! X2_name -/
def f_X2_name  : Option (Nat) := (some 3)
/-! X2_works -/
def f_X2_works (a0 : Int32) (a1 : Int32) : Option (Int32) := (bd (f_X3_works a0 a1) (fun r1 => (some (r1 + (2 : Int32)))))
/-! X2_cutsHigh -/
def f_X2_cutsHigh (a0 : Int32) : Option (Int32) := (bd (f_X3_cutsHigh a0) (fun r1 => (some (r1 + (5 : Int32)))))
/-! X1_name -/
def f_X1_name  : Option (Nat) := (some 4)
/-! X1_works -/
def f_X1_works (a0 : Int32) (a1 : Int32) : Option (Int32) := (bd (f_X2_works a0 a1) (fun r1 => (some (r1 / (2 : Int32)))))
/-! X1_cutsHigh -/
def f_X1_cutsHigh (a0 : Int32) : Option (Int32) := (bd (f_X2_cutsHigh a0) (fun r1 => (some (r1 + (3 : Int32)))))
/-! X1_counts -/
def f_X1_counts  : Option (Int32) := (some (2 : Int32))
/-! X5_name -/
def f_X5_name  : Option (Nat) := (some 5)
/-! X5_works -/
def f_X5_works (a0 : Int32) (a1 : Int32) : Option (Int32) := (bd (f_X3_works a0 a1) (fun r1 => (some (r1 + (a1 / (10 : Int32))))))
/-! X5_cutsHigh -/
def f_X5_cutsHigh (a0 : Int32) : Option (Int32) := (if a0 ≤ (5 : Int32) then (bd (f_X0_cutsHigh a0) (fun r2 => (some r2))) else (some (7 : Int32)))
