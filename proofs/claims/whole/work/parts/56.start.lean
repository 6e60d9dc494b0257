/-! the law's start: what the Statement gives -/
def law_tm (i : Nat) : Term := match sf_strs[i]? with
  | some q => .string q.1 q.2.1
  | none => .int 0
def law_fl : List Cond := flatC (Jvm.Cond.and given_1 narrow_1)
theorem fl_ex : ∀ i, i < 13 → Cond.exactly (law_tm i) "java/lang/String" ∈ law_fl := by decide +kernel
theorem fl_co : ∀ i, i < 13 → Cond.eq (.field (law_tm i) "java/lang/String" "coder" "B") (.int 0) ∈ law_fl := by decide +kernel
theorem fl_ar : ∀ i, i < 13 → Cond.arrayOf (.field (law_tm i) "java/lang/String" "value" "[B") .byte ∈ law_fl := by decide +kernel
theorem fl_le : ∀ i, i < 13 → Cond.eq (.length (.field (law_tm i) "java/lang/String" "value" "[B")) (.int (Int32.ofNat (sf_len.getD i 0))) ∈ law_fl := by decide +kernel
theorem fl_el : ∀ i, i < 13 → ∀ j, j < sf_len.getD i 0 → Cond.eq (.elem (.field (law_tm i) "java/lang/String" "value" "[B") (.int (Int32.ofNat j))) (.int ((sf_byt.getD i []).getD j 0)) ∈ law_fl := by decide +kernel
theorem fn_0_6 : Cond.not (Cond.eq (law_tm 0) (law_tm 6)) ∈ law_fl := List.mem_of_getElem? (i := 187) (by decide +kernel)
theorem fn_0_7 : Cond.not (Cond.eq (law_tm 0) (law_tm 7)) ∈ law_fl := List.mem_of_getElem? (i := 200) (by decide +kernel)
theorem fn_0_8 : Cond.not (Cond.eq (law_tm 0) (law_tm 8)) ∈ law_fl := List.mem_of_getElem? (i := 215) (by decide +kernel)
theorem fn_0_9 : Cond.not (Cond.eq (law_tm 0) (law_tm 9)) ∈ law_fl := List.mem_of_getElem? (i := 229) (by decide +kernel)
theorem fn_0_10 : Cond.not (Cond.eq (law_tm 0) (law_tm 10)) ∈ law_fl := List.mem_of_getElem? (i := 244) (by decide +kernel)
theorem fn_0_11 : Cond.not (Cond.eq (law_tm 0) (law_tm 11)) ∈ law_fl := List.mem_of_getElem? (i := 263) (by decide +kernel)
theorem fn_0_12 : Cond.not (Cond.eq (law_tm 0) (law_tm 12)) ∈ law_fl := List.mem_of_getElem? (i := 283) (by decide +kernel)
theorem fn_1_0 : Cond.not (Cond.eq (law_tm 1) (law_tm 0)) ∈ law_fl := List.mem_of_getElem? (i := 175) (by decide +kernel)
theorem fn_1_6 : Cond.not (Cond.eq (law_tm 1) (law_tm 6)) ∈ law_fl := List.mem_of_getElem? (i := 186) (by decide +kernel)
theorem fn_1_7 : Cond.not (Cond.eq (law_tm 1) (law_tm 7)) ∈ law_fl := List.mem_of_getElem? (i := 199) (by decide +kernel)
theorem fn_1_8 : Cond.not (Cond.eq (law_tm 1) (law_tm 8)) ∈ law_fl := List.mem_of_getElem? (i := 214) (by decide +kernel)
theorem fn_1_9 : Cond.not (Cond.eq (law_tm 1) (law_tm 9)) ∈ law_fl := List.mem_of_getElem? (i := 228) (by decide +kernel)
theorem fn_1_10 : Cond.not (Cond.eq (law_tm 1) (law_tm 10)) ∈ law_fl := List.mem_of_getElem? (i := 243) (by decide +kernel)
theorem fn_1_11 : Cond.not (Cond.eq (law_tm 1) (law_tm 11)) ∈ law_fl := List.mem_of_getElem? (i := 262) (by decide +kernel)
theorem fn_1_12 : Cond.not (Cond.eq (law_tm 1) (law_tm 12)) ∈ law_fl := List.mem_of_getElem? (i := 282) (by decide +kernel)
theorem fn_2_0 : Cond.not (Cond.eq (law_tm 2) (law_tm 0)) ∈ law_fl := List.mem_of_getElem? (i := 171) (by decide +kernel)
theorem fn_2_1 : Cond.not (Cond.eq (law_tm 2) (law_tm 1)) ∈ law_fl := List.mem_of_getElem? (i := 159) (by decide +kernel)
theorem fn_2_3 : Cond.not (Cond.eq (law_tm 2) (law_tm 3)) ∈ law_fl := List.mem_of_getElem? (i := 133) (by decide +kernel)
theorem fn_2_4 : Cond.not (Cond.eq (law_tm 2) (law_tm 4)) ∈ law_fl := List.mem_of_getElem? (i := 123) (by decide +kernel)
theorem fn_2_5 : Cond.not (Cond.eq (law_tm 2) (law_tm 5)) ∈ law_fl := List.mem_of_getElem? (i := 146) (by decide +kernel)
theorem fn_2_6 : Cond.not (Cond.eq (law_tm 2) (law_tm 6)) ∈ law_fl := List.mem_of_getElem? (i := 182) (by decide +kernel)
theorem fn_2_7 : Cond.not (Cond.eq (law_tm 2) (law_tm 7)) ∈ law_fl := List.mem_of_getElem? (i := 195) (by decide +kernel)
theorem fn_2_8 : Cond.not (Cond.eq (law_tm 2) (law_tm 8)) ∈ law_fl := List.mem_of_getElem? (i := 210) (by decide +kernel)
theorem fn_2_9 : Cond.not (Cond.eq (law_tm 2) (law_tm 9)) ∈ law_fl := List.mem_of_getElem? (i := 224) (by decide +kernel)
theorem fn_2_10 : Cond.not (Cond.eq (law_tm 2) (law_tm 10)) ∈ law_fl := List.mem_of_getElem? (i := 239) (by decide +kernel)
theorem fn_2_11 : Cond.not (Cond.eq (law_tm 2) (law_tm 11)) ∈ law_fl := List.mem_of_getElem? (i := 258) (by decide +kernel)
theorem fn_2_12 : Cond.not (Cond.eq (law_tm 2) (law_tm 12)) ∈ law_fl := List.mem_of_getElem? (i := 278) (by decide +kernel)
theorem fn_3_0 : Cond.not (Cond.eq (law_tm 3) (law_tm 0)) ∈ law_fl := List.mem_of_getElem? (i := 173) (by decide +kernel)
theorem fn_3_1 : Cond.not (Cond.eq (law_tm 3) (law_tm 1)) ∈ law_fl := List.mem_of_getElem? (i := 161) (by decide +kernel)
theorem fn_3_5 : Cond.not (Cond.eq (law_tm 3) (law_tm 5)) ∈ law_fl := List.mem_of_getElem? (i := 148) (by decide +kernel)
theorem fn_3_6 : Cond.not (Cond.eq (law_tm 3) (law_tm 6)) ∈ law_fl := List.mem_of_getElem? (i := 184) (by decide +kernel)
theorem fn_3_7 : Cond.not (Cond.eq (law_tm 3) (law_tm 7)) ∈ law_fl := List.mem_of_getElem? (i := 197) (by decide +kernel)
theorem fn_3_8 : Cond.not (Cond.eq (law_tm 3) (law_tm 8)) ∈ law_fl := List.mem_of_getElem? (i := 212) (by decide +kernel)
theorem fn_3_9 : Cond.not (Cond.eq (law_tm 3) (law_tm 9)) ∈ law_fl := List.mem_of_getElem? (i := 226) (by decide +kernel)
theorem fn_3_10 : Cond.not (Cond.eq (law_tm 3) (law_tm 10)) ∈ law_fl := List.mem_of_getElem? (i := 241) (by decide +kernel)
theorem fn_3_11 : Cond.not (Cond.eq (law_tm 3) (law_tm 11)) ∈ law_fl := List.mem_of_getElem? (i := 260) (by decide +kernel)
theorem fn_3_12 : Cond.not (Cond.eq (law_tm 3) (law_tm 12)) ∈ law_fl := List.mem_of_getElem? (i := 280) (by decide +kernel)
theorem fn_4_0 : Cond.not (Cond.eq (law_tm 4) (law_tm 0)) ∈ law_fl := List.mem_of_getElem? (i := 172) (by decide +kernel)
theorem fn_4_1 : Cond.not (Cond.eq (law_tm 4) (law_tm 1)) ∈ law_fl := List.mem_of_getElem? (i := 160) (by decide +kernel)
theorem fn_4_3 : Cond.not (Cond.eq (law_tm 4) (law_tm 3)) ∈ law_fl := List.mem_of_getElem? (i := 134) (by decide +kernel)
theorem fn_4_5 : Cond.not (Cond.eq (law_tm 4) (law_tm 5)) ∈ law_fl := List.mem_of_getElem? (i := 147) (by decide +kernel)
theorem fn_4_6 : Cond.not (Cond.eq (law_tm 4) (law_tm 6)) ∈ law_fl := List.mem_of_getElem? (i := 183) (by decide +kernel)
theorem fn_4_7 : Cond.not (Cond.eq (law_tm 4) (law_tm 7)) ∈ law_fl := List.mem_of_getElem? (i := 196) (by decide +kernel)
theorem fn_4_8 : Cond.not (Cond.eq (law_tm 4) (law_tm 8)) ∈ law_fl := List.mem_of_getElem? (i := 211) (by decide +kernel)
theorem fn_4_9 : Cond.not (Cond.eq (law_tm 4) (law_tm 9)) ∈ law_fl := List.mem_of_getElem? (i := 225) (by decide +kernel)
theorem fn_4_10 : Cond.not (Cond.eq (law_tm 4) (law_tm 10)) ∈ law_fl := List.mem_of_getElem? (i := 240) (by decide +kernel)
theorem fn_4_11 : Cond.not (Cond.eq (law_tm 4) (law_tm 11)) ∈ law_fl := List.mem_of_getElem? (i := 259) (by decide +kernel)
theorem fn_4_12 : Cond.not (Cond.eq (law_tm 4) (law_tm 12)) ∈ law_fl := List.mem_of_getElem? (i := 279) (by decide +kernel)
theorem fn_5_0 : Cond.not (Cond.eq (law_tm 5) (law_tm 0)) ∈ law_fl := List.mem_of_getElem? (i := 174) (by decide +kernel)
theorem fn_5_1 : Cond.not (Cond.eq (law_tm 5) (law_tm 1)) ∈ law_fl := List.mem_of_getElem? (i := 162) (by decide +kernel)
theorem fn_5_6 : Cond.not (Cond.eq (law_tm 5) (law_tm 6)) ∈ law_fl := List.mem_of_getElem? (i := 185) (by decide +kernel)
theorem fn_5_7 : Cond.not (Cond.eq (law_tm 5) (law_tm 7)) ∈ law_fl := List.mem_of_getElem? (i := 198) (by decide +kernel)
theorem fn_5_8 : Cond.not (Cond.eq (law_tm 5) (law_tm 8)) ∈ law_fl := List.mem_of_getElem? (i := 213) (by decide +kernel)
theorem fn_5_9 : Cond.not (Cond.eq (law_tm 5) (law_tm 9)) ∈ law_fl := List.mem_of_getElem? (i := 227) (by decide +kernel)
theorem fn_5_10 : Cond.not (Cond.eq (law_tm 5) (law_tm 10)) ∈ law_fl := List.mem_of_getElem? (i := 242) (by decide +kernel)
theorem fn_5_11 : Cond.not (Cond.eq (law_tm 5) (law_tm 11)) ∈ law_fl := List.mem_of_getElem? (i := 261) (by decide +kernel)
theorem fn_5_12 : Cond.not (Cond.eq (law_tm 5) (law_tm 12)) ∈ law_fl := List.mem_of_getElem? (i := 281) (by decide +kernel)
theorem fn_6_7 : Cond.not (Cond.eq (law_tm 6) (law_tm 7)) ∈ law_fl := List.mem_of_getElem? (i := 201) (by decide +kernel)
theorem fn_6_8 : Cond.not (Cond.eq (law_tm 6) (law_tm 8)) ∈ law_fl := List.mem_of_getElem? (i := 216) (by decide +kernel)
theorem fn_6_9 : Cond.not (Cond.eq (law_tm 6) (law_tm 9)) ∈ law_fl := List.mem_of_getElem? (i := 230) (by decide +kernel)
theorem fn_6_10 : Cond.not (Cond.eq (law_tm 6) (law_tm 10)) ∈ law_fl := List.mem_of_getElem? (i := 245) (by decide +kernel)
theorem fn_6_11 : Cond.not (Cond.eq (law_tm 6) (law_tm 11)) ∈ law_fl := List.mem_of_getElem? (i := 264) (by decide +kernel)
theorem fn_6_12 : Cond.not (Cond.eq (law_tm 6) (law_tm 12)) ∈ law_fl := List.mem_of_getElem? (i := 284) (by decide +kernel)
theorem fn_7_8 : Cond.not (Cond.eq (law_tm 7) (law_tm 8)) ∈ law_fl := List.mem_of_getElem? (i := 217) (by decide +kernel)
theorem fn_7_9 : Cond.not (Cond.eq (law_tm 7) (law_tm 9)) ∈ law_fl := List.mem_of_getElem? (i := 231) (by decide +kernel)
theorem fn_7_10 : Cond.not (Cond.eq (law_tm 7) (law_tm 10)) ∈ law_fl := List.mem_of_getElem? (i := 246) (by decide +kernel)
theorem fn_7_11 : Cond.not (Cond.eq (law_tm 7) (law_tm 11)) ∈ law_fl := List.mem_of_getElem? (i := 265) (by decide +kernel)
theorem fn_7_12 : Cond.not (Cond.eq (law_tm 7) (law_tm 12)) ∈ law_fl := List.mem_of_getElem? (i := 285) (by decide +kernel)
theorem fn_8_9 : Cond.not (Cond.eq (law_tm 8) (law_tm 9)) ∈ law_fl := List.mem_of_getElem? (i := 232) (by decide +kernel)
theorem fn_8_10 : Cond.not (Cond.eq (law_tm 8) (law_tm 10)) ∈ law_fl := List.mem_of_getElem? (i := 247) (by decide +kernel)
theorem fn_8_11 : Cond.not (Cond.eq (law_tm 8) (law_tm 11)) ∈ law_fl := List.mem_of_getElem? (i := 266) (by decide +kernel)
theorem fn_8_12 : Cond.not (Cond.eq (law_tm 8) (law_tm 12)) ∈ law_fl := List.mem_of_getElem? (i := 286) (by decide +kernel)
theorem fn_9_10 : Cond.not (Cond.eq (law_tm 9) (law_tm 10)) ∈ law_fl := List.mem_of_getElem? (i := 248) (by decide +kernel)
theorem fn_9_11 : Cond.not (Cond.eq (law_tm 9) (law_tm 11)) ∈ law_fl := List.mem_of_getElem? (i := 267) (by decide +kernel)
theorem fn_9_12 : Cond.not (Cond.eq (law_tm 9) (law_tm 12)) ∈ law_fl := List.mem_of_getElem? (i := 287) (by decide +kernel)
theorem fn_10_11 : Cond.not (Cond.eq (law_tm 10) (law_tm 11)) ∈ law_fl := List.mem_of_getElem? (i := 268) (by decide +kernel)
theorem fn_10_12 : Cond.not (Cond.eq (law_tm 10) (law_tm 12)) ∈ law_fl := List.mem_of_getElem? (i := 288) (by decide +kernel)
theorem fn_11_12 : Cond.not (Cond.eq (law_tm 11) (law_tm 12)) ∈ law_fl := List.mem_of_getElem? (i := 289) (by decide +kernel)
theorem fm_0 : ∀ j, j < 13 → 0 ≠ j → Cond.not (Cond.eq (law_tm 0) (law_tm j)) ∈ law_fl ∨ Cond.not (Cond.eq (law_tm j) (law_tm 0)) ∈ law_fl
  | 0, _, h => absurd rfl h
  | 1, _, _ => Or.inr fn_1_0
  | 2, _, _ => Or.inr fn_2_0
  | 3, _, _ => Or.inr fn_3_0
  | 4, _, _ => Or.inr fn_4_0
  | 5, _, _ => Or.inr fn_5_0
  | 6, _, _ => Or.inl fn_0_6
  | 7, _, _ => Or.inl fn_0_7
  | 8, _, _ => Or.inl fn_0_8
  | 9, _, _ => Or.inl fn_0_9
  | 10, _, _ => Or.inl fn_0_10
  | 11, _, _ => Or.inl fn_0_11
  | 12, _, _ => Or.inl fn_0_12
  | n + 13, h, _ => absurd h (by omega)
theorem fm_1 : ∀ j, j < 13 → 1 ≠ j → Cond.not (Cond.eq (law_tm 1) (law_tm j)) ∈ law_fl ∨ Cond.not (Cond.eq (law_tm j) (law_tm 1)) ∈ law_fl
  | 0, _, _ => Or.inl fn_1_0
  | 1, _, h => absurd rfl h
  | 2, _, _ => Or.inr fn_2_1
  | 3, _, _ => Or.inr fn_3_1
  | 4, _, _ => Or.inr fn_4_1
  | 5, _, _ => Or.inr fn_5_1
  | 6, _, _ => Or.inl fn_1_6
  | 7, _, _ => Or.inl fn_1_7
  | 8, _, _ => Or.inl fn_1_8
  | 9, _, _ => Or.inl fn_1_9
  | 10, _, _ => Or.inl fn_1_10
  | 11, _, _ => Or.inl fn_1_11
  | 12, _, _ => Or.inl fn_1_12
  | n + 13, h, _ => absurd h (by omega)
theorem fm_2 : ∀ j, j < 13 → 2 ≠ j → Cond.not (Cond.eq (law_tm 2) (law_tm j)) ∈ law_fl ∨ Cond.not (Cond.eq (law_tm j) (law_tm 2)) ∈ law_fl
  | 0, _, _ => Or.inl fn_2_0
  | 1, _, _ => Or.inl fn_2_1
  | 2, _, h => absurd rfl h
  | 3, _, _ => Or.inl fn_2_3
  | 4, _, _ => Or.inl fn_2_4
  | 5, _, _ => Or.inl fn_2_5
  | 6, _, _ => Or.inl fn_2_6
  | 7, _, _ => Or.inl fn_2_7
  | 8, _, _ => Or.inl fn_2_8
  | 9, _, _ => Or.inl fn_2_9
  | 10, _, _ => Or.inl fn_2_10
  | 11, _, _ => Or.inl fn_2_11
  | 12, _, _ => Or.inl fn_2_12
  | n + 13, h, _ => absurd h (by omega)
theorem fm_3 : ∀ j, j < 13 → 3 ≠ j → Cond.not (Cond.eq (law_tm 3) (law_tm j)) ∈ law_fl ∨ Cond.not (Cond.eq (law_tm j) (law_tm 3)) ∈ law_fl
  | 0, _, _ => Or.inl fn_3_0
  | 1, _, _ => Or.inl fn_3_1
  | 2, _, _ => Or.inr fn_2_3
  | 3, _, h => absurd rfl h
  | 4, _, _ => Or.inr fn_4_3
  | 5, _, _ => Or.inl fn_3_5
  | 6, _, _ => Or.inl fn_3_6
  | 7, _, _ => Or.inl fn_3_7
  | 8, _, _ => Or.inl fn_3_8
  | 9, _, _ => Or.inl fn_3_9
  | 10, _, _ => Or.inl fn_3_10
  | 11, _, _ => Or.inl fn_3_11
  | 12, _, _ => Or.inl fn_3_12
  | n + 13, h, _ => absurd h (by omega)
theorem fm_4 : ∀ j, j < 13 → 4 ≠ j → Cond.not (Cond.eq (law_tm 4) (law_tm j)) ∈ law_fl ∨ Cond.not (Cond.eq (law_tm j) (law_tm 4)) ∈ law_fl
  | 0, _, _ => Or.inl fn_4_0
  | 1, _, _ => Or.inl fn_4_1
  | 2, _, _ => Or.inr fn_2_4
  | 3, _, _ => Or.inl fn_4_3
  | 4, _, h => absurd rfl h
  | 5, _, _ => Or.inl fn_4_5
  | 6, _, _ => Or.inl fn_4_6
  | 7, _, _ => Or.inl fn_4_7
  | 8, _, _ => Or.inl fn_4_8
  | 9, _, _ => Or.inl fn_4_9
  | 10, _, _ => Or.inl fn_4_10
  | 11, _, _ => Or.inl fn_4_11
  | 12, _, _ => Or.inl fn_4_12
  | n + 13, h, _ => absurd h (by omega)
theorem fm_5 : ∀ j, j < 13 → 5 ≠ j → Cond.not (Cond.eq (law_tm 5) (law_tm j)) ∈ law_fl ∨ Cond.not (Cond.eq (law_tm j) (law_tm 5)) ∈ law_fl
  | 0, _, _ => Or.inl fn_5_0
  | 1, _, _ => Or.inl fn_5_1
  | 2, _, _ => Or.inr fn_2_5
  | 3, _, _ => Or.inr fn_3_5
  | 4, _, _ => Or.inr fn_4_5
  | 5, _, h => absurd rfl h
  | 6, _, _ => Or.inl fn_5_6
  | 7, _, _ => Or.inl fn_5_7
  | 8, _, _ => Or.inl fn_5_8
  | 9, _, _ => Or.inl fn_5_9
  | 10, _, _ => Or.inl fn_5_10
  | 11, _, _ => Or.inl fn_5_11
  | 12, _, _ => Or.inl fn_5_12
  | n + 13, h, _ => absurd h (by omega)
theorem fm_6 : ∀ j, j < 13 → 6 ≠ j → Cond.not (Cond.eq (law_tm 6) (law_tm j)) ∈ law_fl ∨ Cond.not (Cond.eq (law_tm j) (law_tm 6)) ∈ law_fl
  | 0, _, _ => Or.inr fn_0_6
  | 1, _, _ => Or.inr fn_1_6
  | 2, _, _ => Or.inr fn_2_6
  | 3, _, _ => Or.inr fn_3_6
  | 4, _, _ => Or.inr fn_4_6
  | 5, _, _ => Or.inr fn_5_6
  | 6, _, h => absurd rfl h
  | 7, _, _ => Or.inl fn_6_7
  | 8, _, _ => Or.inl fn_6_8
  | 9, _, _ => Or.inl fn_6_9
  | 10, _, _ => Or.inl fn_6_10
  | 11, _, _ => Or.inl fn_6_11
  | 12, _, _ => Or.inl fn_6_12
  | n + 13, h, _ => absurd h (by omega)
theorem fm_7 : ∀ j, j < 13 → 7 ≠ j → Cond.not (Cond.eq (law_tm 7) (law_tm j)) ∈ law_fl ∨ Cond.not (Cond.eq (law_tm j) (law_tm 7)) ∈ law_fl
  | 0, _, _ => Or.inr fn_0_7
  | 1, _, _ => Or.inr fn_1_7
  | 2, _, _ => Or.inr fn_2_7
  | 3, _, _ => Or.inr fn_3_7
  | 4, _, _ => Or.inr fn_4_7
  | 5, _, _ => Or.inr fn_5_7
  | 6, _, _ => Or.inr fn_6_7
  | 7, _, h => absurd rfl h
  | 8, _, _ => Or.inl fn_7_8
  | 9, _, _ => Or.inl fn_7_9
  | 10, _, _ => Or.inl fn_7_10
  | 11, _, _ => Or.inl fn_7_11
  | 12, _, _ => Or.inl fn_7_12
  | n + 13, h, _ => absurd h (by omega)
theorem fm_8 : ∀ j, j < 13 → 8 ≠ j → Cond.not (Cond.eq (law_tm 8) (law_tm j)) ∈ law_fl ∨ Cond.not (Cond.eq (law_tm j) (law_tm 8)) ∈ law_fl
  | 0, _, _ => Or.inr fn_0_8
  | 1, _, _ => Or.inr fn_1_8
  | 2, _, _ => Or.inr fn_2_8
  | 3, _, _ => Or.inr fn_3_8
  | 4, _, _ => Or.inr fn_4_8
  | 5, _, _ => Or.inr fn_5_8
  | 6, _, _ => Or.inr fn_6_8
  | 7, _, _ => Or.inr fn_7_8
  | 8, _, h => absurd rfl h
  | 9, _, _ => Or.inl fn_8_9
  | 10, _, _ => Or.inl fn_8_10
  | 11, _, _ => Or.inl fn_8_11
  | 12, _, _ => Or.inl fn_8_12
  | n + 13, h, _ => absurd h (by omega)
theorem fm_9 : ∀ j, j < 13 → 9 ≠ j → Cond.not (Cond.eq (law_tm 9) (law_tm j)) ∈ law_fl ∨ Cond.not (Cond.eq (law_tm j) (law_tm 9)) ∈ law_fl
  | 0, _, _ => Or.inr fn_0_9
  | 1, _, _ => Or.inr fn_1_9
  | 2, _, _ => Or.inr fn_2_9
  | 3, _, _ => Or.inr fn_3_9
  | 4, _, _ => Or.inr fn_4_9
  | 5, _, _ => Or.inr fn_5_9
  | 6, _, _ => Or.inr fn_6_9
  | 7, _, _ => Or.inr fn_7_9
  | 8, _, _ => Or.inr fn_8_9
  | 9, _, h => absurd rfl h
  | 10, _, _ => Or.inl fn_9_10
  | 11, _, _ => Or.inl fn_9_11
  | 12, _, _ => Or.inl fn_9_12
  | n + 13, h, _ => absurd h (by omega)
theorem fm_10 : ∀ j, j < 13 → 10 ≠ j → Cond.not (Cond.eq (law_tm 10) (law_tm j)) ∈ law_fl ∨ Cond.not (Cond.eq (law_tm j) (law_tm 10)) ∈ law_fl
  | 0, _, _ => Or.inr fn_0_10
  | 1, _, _ => Or.inr fn_1_10
  | 2, _, _ => Or.inr fn_2_10
  | 3, _, _ => Or.inr fn_3_10
  | 4, _, _ => Or.inr fn_4_10
  | 5, _, _ => Or.inr fn_5_10
  | 6, _, _ => Or.inr fn_6_10
  | 7, _, _ => Or.inr fn_7_10
  | 8, _, _ => Or.inr fn_8_10
  | 9, _, _ => Or.inr fn_9_10
  | 10, _, h => absurd rfl h
  | 11, _, _ => Or.inl fn_10_11
  | 12, _, _ => Or.inl fn_10_12
  | n + 13, h, _ => absurd h (by omega)
theorem fm_11 : ∀ j, j < 13 → 11 ≠ j → Cond.not (Cond.eq (law_tm 11) (law_tm j)) ∈ law_fl ∨ Cond.not (Cond.eq (law_tm j) (law_tm 11)) ∈ law_fl
  | 0, _, _ => Or.inr fn_0_11
  | 1, _, _ => Or.inr fn_1_11
  | 2, _, _ => Or.inr fn_2_11
  | 3, _, _ => Or.inr fn_3_11
  | 4, _, _ => Or.inr fn_4_11
  | 5, _, _ => Or.inr fn_5_11
  | 6, _, _ => Or.inr fn_6_11
  | 7, _, _ => Or.inr fn_7_11
  | 8, _, _ => Or.inr fn_8_11
  | 9, _, _ => Or.inr fn_9_11
  | 10, _, _ => Or.inr fn_10_11
  | 11, _, h => absurd rfl h
  | 12, _, _ => Or.inl fn_11_12
  | n + 13, h, _ => absurd h (by omega)
theorem fm_12 : ∀ j, j < 13 → 12 ≠ j → Cond.not (Cond.eq (law_tm 12) (law_tm j)) ∈ law_fl ∨ Cond.not (Cond.eq (law_tm j) (law_tm 12)) ∈ law_fl
  | 0, _, _ => Or.inr fn_0_12
  | 1, _, _ => Or.inr fn_1_12
  | 2, _, _ => Or.inr fn_2_12
  | 3, _, _ => Or.inr fn_3_12
  | 4, _, _ => Or.inr fn_4_12
  | 5, _, _ => Or.inr fn_5_12
  | 6, _, _ => Or.inr fn_6_12
  | 7, _, _ => Or.inr fn_7_12
  | 8, _, _ => Or.inr fn_8_12
  | 9, _, _ => Or.inr fn_9_12
  | 10, _, _ => Or.inr fn_10_12
  | 11, _, _ => Or.inr fn_11_12
  | 12, _, h => absurd rfl h
  | n + 13, h, _ => absurd h (by omega)
theorem fl_ne : ∀ i, i < 13 → ∀ j, j < 13 → i ≠ j → Cond.not (Cond.eq (law_tm i) (law_tm j)) ∈ law_fl ∨ Cond.not (Cond.eq (law_tm j) (law_tm i)) ∈ law_fl
  | 0, _ => fm_0
  | 1, _ => fm_1
  | 2, _ => fm_2
  | 3, _ => fm_3
  | 4, _ => fm_4
  | 5, _ => fm_5
  | 6, _ => fm_6
  | 7, _ => fm_7
  | 8, _ => fm_8
  | 9, _ => fm_9
  | 10, _ => fm_10
  | 11, _ => fm_11
  | 12, _ => fm_12
  | n + 13, h => absurd h (by omega)
theorem fl_nc : ∀ q ∈ sf_ncs, Cond.not (.castable q.1 q.2) ∈ law_fl := by decide +kernel
theorem fl_cs : Cond.eq (.static "java/lang/String" "COMPACT_STRINGS" "Z") (.int 1) ∈ law_fl := by decide +kernel
theorem fl_sf : Cond.isRef (.static "jdk/internal/util/Preconditions" "SIOOBE_FORMATTER" "Ljava/util/function/BiFunction;") ∈ law_fl := by decide +kernel
theorem tb_m {w : Cond} (i : Nat) (h : tables_1[i]? = some w) : w ∈ lw_tbl := List.mem_append_right _ (List.mem_of_getElem? h)
theorem tb_i1 : Cond.initialized "java/lang/String" ∈ lw_tbl := tb_m 16 (by decide +kernel)
theorem tb_i2 : Cond.initialized "jdk/internal/util/Preconditions" ∈ lw_tbl := tb_m 18 (by decide +kernel)
theorem tb_l1 : Cond.laysStatic "java/lang/String" "COMPACT_STRINGS" "Z" ∈ lw_tbl := tb_m 633 (by decide +kernel)
theorem tb_l2 : Cond.laysStatic "jdk/internal/util/Preconditions" "SIOOBE_FORMATTER" "Ljava/util/function/BiFunction;" ∈ lw_tbl := tb_m 649 (by decide +kernel)
theorem tb_o1 : Cond.arrayOver (.object "StairFines$Kind") ∈ lw_tbl := tb_m 29 (by decide +kernel)
theorem tb_o2 : Cond.arrayOver (.object "StairFines$Sheet") ∈ lw_tbl := tb_m 181 (by decide +kernel)
theorem tb_s : ∀ (i : Nat) (q : String × Nat × String), sf_strs[i]? = some q → Cond.stringRef q.1 q.2.1 q.2.2 ∈ lw_tbl
  | 0, _, h => by cases h; exact tb_m 619 (by decide +kernel)
  | 1, _, h => by cases h; exact tb_m 617 (by decide +kernel)
  | 2, _, h => by cases h; exact tb_m 601 (by decide +kernel)
  | 3, _, h => by cases h; exact tb_m 609 (by decide +kernel)
  | 4, _, h => by cases h; exact tb_m 605 (by decide +kernel)
  | 5, _, h => by cases h; exact tb_m 613 (by decide +kernel)
  | 6, _, h => by cases h; exact tb_m 682 (by decide +kernel)
  | 7, _, h => by cases h; exact tb_m 687 (by decide +kernel)
  | 8, _, h => by cases h; exact tb_m 689 (by decide +kernel)
  | 9, _, h => by cases h; exact tb_m 694 (by decide +kernel)
  | 10, _, h => by cases h; exact tb_m 695 (by decide +kernel)
  | 11, _, h => by cases h; exact tb_m 696 (by decide +kernel)
  | 12, _, h => by cases h; exact tb_m 697 (by decide +kernel)
  | n + 13, q, h => by
    have h2 : sf_strs[n + 13]? = none := List.getElem?_eq_none (by show 13 ≤ n + 13; omega)
    rw [h2] at h; cases h
theorem law_St {s : State} {args : Array Value} (hts : ∀ w ∈ lw_tbl, w.before args s = true) (hgv : (Jvm.Cond.and given_1 narrow_1).before args s = true) : ∃ adK adV : Nat → Nat, ∀ D1 : va_G, sf_St (D1, adK, adV) (fun q => s.heap.size ≤ q) s s.heap := by
  have hs : ∀ w ∈ law_fl, w.before args s = true := flat_of_before _ hgv
  have hA : ∀ a : Nat, a < s.heap.size → ¬ (fun q => s.heap.size ≤ q) a := fun a h => Nat.not_le.mpr h
  obtain ⟨adK, adV, h1, h2⟩ := vk_Sof (N := 13) (tm := law_tm) (len := sf_len) (byt := sf_byt) (A := fun q => s.heap.size ≤ q) (by decide +kernel) (fun i hi => hs _ (fl_ex i hi)) (fun i hi => hs _ (fl_co i hi)) (fun i hi => hs _ (fl_ar i hi)) (fun i hi => hs _ (fl_le i hi)) (fun i hi j hj => hs _ (fl_el i hi j hj)) (fun i j hi hj hij => (fl_ne i hi j hj hij).elim (fun h => Or.inl (hs _ h)) (fun h => Or.inr (hs _ h))) hA
  refine ⟨adK, adV, fun D1 => ⟨h1, fun i q hq => ?_, ?_, ?_, fun q hq => va_Nc.of (hs _ (fl_nc q hq))⟩⟩
  · have hi : i < 13 := (List.getElem?_eq_some_iff.mp hq).1
    have h3 := h2 i hi
    have h4 : law_tm i = .string q.1 q.2.1 := by unfold law_tm; rw [hq]
    rw [h4] at h3
    exact vk_R.of (A := args) (hts _ (tb_s i q hq)) h3
  · exact va_Zof (hts _ tb_l1) (hts _ tb_i1) (va_eqt (hs _ fl_cs)) hA
  · exact va_Zqof (hts _ tb_l2) (hts _ tb_i2) (hs _ fl_sf) hA
theorem law_K {s : State} {args : Array Value} (hg : ∀ w ∈ sf_gtbl, w.before args s = true) : ∃ D1 : va_G, ∀ (c : Nat) (q : vw_C), vwCl[c]? = some q → u_Kn s q.1 q.2.1 q.2.2 (D1.1 c) (D1.2 c) := by
  have key : ∀ (C : String) (T : u_T) (N c : Nat), vwCl[c]? = some (C, T, N) → (∀ w ∈ u_ws C T N, w ∈ sf_gtbl) → Cond.instantiable C N ∈ sf_gtbl → ∃ x : ClassId × (Nat → Nat), ∀ q : vw_C, vwCl[c]? = some q → u_Kn s q.1 q.2.1 q.2.2 x.1 x.2 := by
    intro C T N c h1 h2 h3
    obtain ⟨cC, iS, h⟩ := u_known (n := N) hg h2 (hg _ h3)
    exact ⟨(cC, iS), fun q hq => by rw [h1] at hq; cases hq; exact h⟩
  obtain ⟨x0, -⟩ := key RX0 TX0 0 0 rfl in_X0 isn_RX0
  have h0 : ∀ c : Nat, ∃ x : ClassId × (Nat → Nat), ∀ q : vw_C, vwCl[c]? = some q → u_Kn s q.1 q.2.1 q.2.2 x.1 x.2 := fun c => match c with
    | 0 => key RX0 TX0 0 0 rfl in_X0 isn_RX0
    | 1 => key RX1 TX1 0 1 rfl in_X1 isn_RX1
    | 2 => key RX2 TX2 0 2 rfl in_X2 isn_RX2
    | 3 => key RX3 TX3 0 3 rfl in_X3 isn_RX3
    | 4 => key RX4 TX4 16 4 rfl in_X4 isn_RX4
    | 5 => key RX5 TX5 0 5 rfl in_X5 isn_RX5
    | 6 => key RX6 TX6 0 6 rfl in_X6 isn_RX6
    | 7 => key RX7 TX7 3 7 rfl in_X7 isn_RX7
    | 8 => key RX8 TX8 8 8 rfl in_X8 isn_RX8
    | 9 => key RX9 TX9 7 9 rfl in_X9 isn_RX9
    | 10 => key RX10 TX10 18 10 rfl in_X10 isn_RX10
    | n + 11 => ⟨x0, fun q hq => by
      have h2 : vwCl[n + 11]? = none := List.getElem?_eq_none (by show 11 ≤ n + 11; omega)
      rw [h2] at hq; cases hq⟩
  obtain ⟨f, hf⟩ := Classical.axiomOfChoice h0
  exact ⟨(fun c => (f c).1, fun c => (f c).2), fun c q hq => hf c q hq⟩
theorem law_arr {s : State} {args : Array Value} {ty : FieldType} (h : (Cond.arrayClass ty).before args s = true) : ∃ cA : ClassId, ArrOfT s cA ty ∧ s.vm.findClass ("[" ++ ty.toString) = some cA := by
  obtain ⟨cA, kA, comp, h1, h2, h3⟩ := Cond.arrayClass_spec h
  exact ⟨cA, fun n z => ⟨fun k h => (by cases h), kA, h2, comp, h3⟩, h1⟩
theorem law_arrq {s : State} {C : String} (h : va_AO C s) : ∃ cA : ClassId, ArrOfT s cA (.object C) ∧ va_RA s cA (.object C) := by
  obtain ⟨comp, cA, kA, h1, -, h3, h4, h5⟩ := Cond.arrayOver_spec h
  exact ⟨cA, fun n z => ⟨fun k h => (by cases h), kA, h3, comp, h4⟩, kA, comp, h3, h4, h1, h5⟩
theorem law_tys {s : State} {args : Array Value} (hts : ∀ w ∈ lw_tbl, w.before args s = true) (hg : ∀ w ∈ sf_gtbl, w.before args s = true) : ∃ (D1 : va_G) (cI cJ cK cS : ClassId), va_K D1 vwCl (sf_ty cI cJ cK cS) s := by
  obtain ⟨D1, hK⟩ := law_K hg
  obtain ⟨cI, i1, i2⟩ := law_arr (hg _ arc_int)
  obtain ⟨cJ, j1, j2⟩ := law_arr (hg _ arc_long)
  obtain ⟨cK, k1, k2⟩ := law_arrq (va_AO.of (hts _ tb_o1))
  obtain ⟨cS, s1, s2⟩ := law_arrq (va_AO.of (hts _ tb_o2))
  refine ⟨D1, cI, cJ, cK, cS, hK, fun k q hq => ?_⟩
  match k, hq with
  | 0, hq => cases hq; exact ⟨i1, i2⟩
  | 1, hq => cases hq; exact ⟨j1, j2⟩
  | 2, hq => cases hq; exact ⟨k1, k2⟩
  | 3, hq => cases hq; exact ⟨s1, s2⟩
  | n + 4, hq =>
    have h2 : (sf_ty cI cJ cK cS)[n + 4]? = none := List.getElem?_eq_none (by show 4 ≤ n + 4; omega)
    rw [h2] at hq; cases hq
/-! the start's relation -/
def N0 (k : Nat) : Nat := if k = 2 then 4 else if 5 ≤ k ∧ k < 45 then 3 else 0
theorem N0_z {k : Nat} (h2 : k ≠ 2) (h5 : k < 5 ∨ 45 ≤ k) : N0 k = 0 := by
  unfold N0
  rw [if_neg h2, if_neg (by omega)]
theorem N0_r {p : Nat} (hp : p < 40) : N0 (5 + p) = 3 := by
  unfold N0
  rw [if_neg (by omega), if_pos (by omega)]
theorem fld0 {f w : Nat} : fld N0 f w = 0 := N0_z (by omega) (by omega)
theorem RA_0 {r0 row : Nat → Int32} (h0 : ∀ j, j < 40 → r0 j = nI 3) (hr : ∀ k, row k = R0 40 k) : RA (M0 r0) row := by
  refine ⟨N0, nI 1, ⟨?_, ?_, ?_, ?_, ?_, fun p hp => ?_, fun p hp hw => ?_, fun f hf => ?_, 0, ?_, by decide, fun p hp => ?_⟩, ⟨fun k hk h3 => ?_, ?_, fun _ _ => rfl, fun k hk h3 => Or.inr ?_⟩, ⟨by decide, by decide, by decide, fun p hp => ?_, fun f hf => ?_⟩, by decide⟩
  · show (0 : Int32) = nI (N0 0); decide
  · show (0 : Int32) = nI (N0 1); decide
  · show (4 : Int32) = nI (N0 2); decide
  · show (1 : Int32) = nI 1; decide
  · show (0 : Int32) = nI (N0 4); decide
  · show r0 p = nI (N0 (5 + p)); rw [h0 p hp, N0_r hp]
  · rw [N0_z (by omega) (by omega)] at hw; cases hw
  · rw [show N0 4 = 0 by decide] at hf; exact absurd hf (Nat.not_lt_zero f)
  · show (0 : Int64) = lN 0; decide
  · rw [Nat.zero_testBit, N0_z (by omega) (by omega)]; rfl
  · rw [Nat.zero_add, hr k]
    unfold R0 N0
    by_cases c2 : k = 2
    · rw [if_pos c2, if_pos c2]
    · rw [if_neg c2, if_neg c2, if_neg h3]
      by_cases c5 : 5 ≤ k ∧ k < 45
      · rw [if_pos (by omega), if_pos c5]
      · rw [if_neg (by omega), if_neg c5]
  · rw [hr]; unfold R0; rw [if_neg (by decide), if_pos (by decide)]
  · unfold N0; split
    · decide
    · split <;> decide
  · rw [N0_r hp, N0_z (by omega) (by omega), N0_z (by omega) (by omega), N0_z (by omega) (by omega)]; decide
  · rw [fld0, fld0, fld0, fld0, fld0, show N0 4 = 0 by decide]
    exact ⟨by decide, by decide, by decide, by decide, by decide, fun h => absurd h (Nat.not_lt_zero f)⟩
theorem LR_0 {r0 row : Nat → Int32} {ke : MtS} {imag : Nat → Int32} (h0 : ∀ j, j < 40 → r0 j = nI 3) (hr : ∀ k, row k = R0 40 k) : LR (M0 r0) ke 0 (fun _ => 0) 0 sh0 (fun _ => 0) row (fun _ => 0) (fun _ => 0) 0 (fun _ => 0) (fun _ => 0) (fun _ => 0) imag 0 := by
  refine ⟨RA_0 h0 hr, fun _ _ => rfl, ⟨rfl, Or.inl nI_0.symm⟩, ?_, fun s hs => ⟨rfl, Or.inl nI_0.symm, ⟨0, Nat.zero_le _, nI_0.symm⟩, rfl, fun _ _ => rfl⟩⟩
  rw [← nI_0]; exact RT_0
theorem df_X9 : ∀ j, j < 7 → defaultValue (tyX9 j) = vp_V [.null, .null, .null, .int 0, .null, .null, .null] j := by decide +kernel
theorem pi_X9 : sf_PkI yX9_init cX9_init 2 0 := ⟨pk_yX9_init, inst_yX9_init, rfl⟩
section LS
variable {p : Program} {l : Launch} {e : Env} {R : Room} {s : State} {m : MethodId} {args : Array Value} {below : List Frame} {meth : Method} {c : Code} {cells slots : Nat} {Q : State → Prop} {cc : ByteArray} {nL : Nat} {own : String} {D : sf_D} {tys : List (ClassId × FieldType)} {A : Nat → Prop} {ws : va_W} {lv lv' : List (Nat × Value)} {pc pc' : Nat} {st rest : List Value} {P : va_W → Prop} {mc ms : Nat}
theorem sf_AO_moved {u U : State} (h : u.vm.Alike U.vm) (hA : sf_AO u) : sf_AO U := ⟨hA.1.moved h, hA.2.moved h⟩
theorem sw_callIA (cx : sf_Cx p m meth c cc nL s args own D tys A) (hAO : sf_AO s) {y : MethodName} {bytes : ByteArray} {maxL n index : Nat} {rm : Room} {x : Nat × va_E} {wr : va_W} {As : List Value} {b : Nat} (hc : sf_CnA l y bytes maxL rm D tys (.ref b :: As) [x] P mc ms) (pk : sf_PkI y bytes maxL n) (hlink : Cond.methodLink own index y ∈ sf_gtbl) (hrm : rm.cells = mc ∧ rm.slots = ms) (hR : rm.frames + 1 ≤ R.frames ∧ 8 + (maxL + 11) + rm.locals ≤ R.locals) (hcs : cells + mc ≤ R.cells ∧ slots + ms ≤ R.slots) (hnA : As.length = n) (hW : (rest.map fun v => v.category).sum ≤ 8) (hst : st = As.reverse ++ .ref b :: rest) (hdg : decode cc pc = .ok (.invokespecial index, 3)) (hn : pc + 3 = pc') (k : ∀ w', P w' → sf_W p l e R s m args below meth c (cells + mc) (slots + ms) Q nL D A (wr ++ w') lv pc' rest) : sf_W p l e R s m args below meth c cells slots Q nL D A (wr ++ [x]) lv pc st := by
  intro H locs ls hP hD hS hl
  have hC : [wr.length].map (fun i => (wr ++ [x])[i]?) = [x].map some := by simp
  exact sf_goN cx (va_runI ⟨cx.1, cx.2.1, cx.2.2.1, cx.2.2.2.1, cx.2.2.2.2.1⟩ (hc H.size) ⟨callB_of n cx.2.2.2.2.1 (sf_ht pk.1.2.1) rfl hrm.1 hrm.2 (cx.2.2.2.2.1 _ pk.1.1) (cx.2.2.2.2.1 _ hlink) pk.1.2.2 hR, pk.2.2, cx.2.2.2.2.1 _ pk.2.1⟩ ⟨fun a U g mk q => ⟨sf_Pc_blind a U g mk q.1, sf_AO_moved (u := U) (U := U.calling g mk a) (Vm.Alike.refl U.vm) q.2⟩, fun U hU hW2 => ⟨sf_pre cx hP hD hS [wr.length] hC rfl U hU hW2, sf_AO_moved hW2.alike hAO⟩⟩ rfl hnA hl.1 hst (lv_room hW) hdg hcs) hP hD hS hl [wr.length] (List.range' 0 wr.length) hC (ap_l wr [x]) (nd_r _ _) (fun i hi => by rw [List.mem_range'_1] at hi; simp; omega) hn k
end LS
