/-! constructors: Sheet, Tape -/
abbrev rm_S : Room := ({ frames := 1, cells := 1, slots := 40, locals := 12 } : Room)
theorem n_X7 (l : Launch) (D : sf_D) (cI cJ cK cS : ClassId) (b : Nat) : sf_Cn l yX7_init cX7_init 1 rm_S D (sf_ty cI cJ cK cS) [.ref b] [(b, .inr (7, [.null, .int 0, .int 0]))] (fun w => ∃ q, w = [(b, .inr (7, [.ref q, .int 0, .int 0])), (q, .inl (cJ, 40, .inr (.inl (fun _ => 0))))]) 1 40 := by
  refine sf_metN (lv := [(0, .ref b)]) (by decide) (Nat.le_of_ble_eq_true rfl) rfl ?_
  intro p e s m args below meth c A Q cx hr hnm hQ
  have cx : sf_Cx p m meth c cX7_init 1 s args RX7 D (sf_ty cI cJ cK cS) A := cx
  refine sw_aload_n (pc' := 1) cx dX7_init_0 rfl 0 rfl rfl ?_
  refine sw_objI (pc' := 4) cx ml_RX7_3 inst_objectInit code_objectInit (by decide) (by decide) dX7_init_1 rfl ?_
  refine sw_aload_n (pc' := 5) cx dX7_init_4 rfl 0 rfl rfl ?_
  refine sw_bipush (pc' := 7) cx dX7_init_5 rfl rfl ?_
  refine sw_newL (pc' := 9) cx arc_long (cJ := cJ) 1 rfl (N' := 40) (by decide) (by decide) (by decide) ⟨by decide, by decide⟩ dX7_init_7 rfl (fun q => ?_)
  refine sw_putF (pc' := 12) (ws' := [(b, .inr (7, [.ref q, .int 0, .int 0])), (q, .inl (cJ, 40, .inr (.inl (fun _ => 0))))]) cx hnm in_X7 tyX7 tyX7_ok nmX7 0 rfl rfl 0 (Nat.le_of_ble_eq_true rfl) fl_RX7_9 rfl rfl rfl rfl (Nat.le_of_ble_eq_true rfl) dX7_init_9 rfl rfl ?_
  exact sw_vretN cx hr hQ ⟨q, rfl⟩ dX7_init_12
abbrev rm_T : Room := ({ frames := 1, cells := 1, slots := 120, locals := 12 } : Room)
theorem n_X8 (l : Launch) (D : sf_D) (cI cJ cK cS : ClassId) (b kA : Nat) : sf_Cn l yX8_init cX8_init 2 rm_T D (sf_ty cI cJ cK cS) [.ref b, .ref kA] [(b, .inr (8, [.null, .null, .int 0, .int 0, .int 0, .int 0, .int 0, .int 0]))] (fun w => ∃ q, w = tp_W b q kA cI (fun _ => 0) 0 0 0 0 0 0) 1 120 := by
  refine sf_metN (lv := [(0, .ref b), (1, .ref kA)]) (by decide) (Nat.le_of_ble_eq_true rfl) rfl ?_
  intro p e s m args below meth c A Q cx hr hnm hQ
  have cx : sf_Cx p m meth c cX8_init 2 s args RX8 D (sf_ty cI cJ cK cS) A := cx
  refine sw_aload_n (pc' := 1) cx dX8_init_0 rfl 0 rfl rfl ?_
  refine sw_objI (pc' := 4) cx ml_RX8_3 inst_objectInit code_objectInit (by decide) (by decide) dX8_init_1 rfl ?_
  refine sw_aload_n (pc' := 5) cx dX8_init_4 rfl 0 rfl rfl ?_
  refine sw_bipush (pc' := 7) cx dX8_init_5 rfl rfl ?_
  refine sw_newI (pc' := 9) cx arc_int (cI := cI) 0 rfl (N' := 120) (by decide) (by decide) (by decide) ⟨by decide, by decide⟩ dX8_init_7 rfl (fun q => ?_)
  refine sw_putF (pc' := 12) (ws' := [(b, .inr (8, [.null, .ref q, .int 0, .int 0, .int 0, .int 0, .int 0, .int 0])), (q, .inl (cI, 120, .inl (fun _ => 0)))]) cx hnm in_X8 tyX8 tyX8_ok nmX8 0 rfl rfl 1 (Nat.le_of_ble_eq_true rfl) fl_RX8_9 rfl rfl rfl rfl (Nat.le_of_ble_eq_true rfl) dX8_init_9 rfl rfl ?_
  refine sw_aload_n (pc' := 13) cx dX8_init_12 rfl 0 rfl rfl ?_
  refine sw_aload_n (pc' := 14) cx dX8_init_13 rfl 1 rfl rfl ?_
  refine sw_putF (pc' := 17) (ws' := tp_W b q kA cI (fun _ => 0) 0 0 0 0 0 0) cx hnm in_X8 tyX8 tyX8_ok nmX8 0 rfl rfl 0 (Nat.le_of_ble_eq_true rfl) fl_RX8_15 rfl rfl rfl rfl (Nat.le_of_ble_eq_true rfl) dX8_init_14 rfl rfl ?_
  exact sw_vretN cx hr hQ ⟨q, rfl⟩ dX8_init_17
theorem fillI_l : ∀ n k (arr : Nat → Int32), k ≤ 40 → 40 < k + n → (∀ j, j < k → arr j = nI 3) → ∃ arr', f_J7_fill_53178_b5 n arr (nI 3) (nI k) (nI 40) = some arr' ∧ ∀ j, j < 40 → arr' j = nI 3
  | 0, k, arr, h1, h2, h3 => by omega
  | n + 1, k, arr, h1, h2, h3 => by
    rw [q_J7_fill_53178_b5]
    by_cases c : k = 40
    · subst c
      exact ⟨arr, by rw [if_pos (by decide)], h3⟩
    · rw [if_neg (nI_ge (by omega) (by decide)), gx_n (by omega) (by decide), nI_clamp (by omega), nI_add]
      refine fillI_l n (k + 1) _ (by omega) (by omega) fun j hj => ?_
      by_cases e : j = k
      · subst e; exact pk_us
      · rw [pk_un e]; exact h3 j (by omega)
abbrev rm_M : Room := ({ frames := 2, cells := 9, slots := 210, locals := 60 } : Room)
set_option maxRecDepth 100000 in
theorem n_X4 (l : Launch) (D : sf_D) (cI cJ cK cS : ClassId) (b kA : Nat) : sf_Cn l yX4_init cX4_init 2 rm_M D (sf_ty cI cJ cK cS) [.ref b, .ref kA] [(b, .inr (4, [.null, .null, .null, .null, .null, .long 0, .int 0, .int 0, .int 0, .int 0, .int 0, .null, .null, .null, .null, .null]))] (fun w => ∃ q1 q2 q3 q4 q5 q6 q7 q8 q9 res, (∀ j, j < 40 → res j = nI 3) ∧ w = [(b, .inr (4, [.ref kA, .ref q1, .ref q2, .ref q3, .ref q4, .long 0, .int 0, .int 0, .int 4, .int 1, .int 0, .ref q5, .ref q6, .ref q7, .ref q8, .ref q9])), (q1, .inl (cI, 40, .inl res)), (q2, .inl (cI, 40, .inl (fun _ => 0))), (q3, .inl (cI, 40, .inl (fun _ => 0))), (q4, .inl (cI, 40, .inl (fun _ => 0))), (q5, .inl (cI, 10, .inl (fun _ => 0))), (q6, .inl (cI, 10, .inl (fun _ => 0))), (q7, .inl (cI, 10, .inl (fun _ => 0))), (q8, .inl (cI, 10, .inl (fun _ => 0))), (q9, .inl (cI, 10, .inl (fun _ => 0)))]) 9 210 := by
  obtain ⟨res, hres, h3⟩ := fillI_l 1000 0 (fun _ => 0) (by decide) (by decide) (fun j hj => absurd hj (Nat.not_lt_zero j))
  have hres : f_J7_fill_53178 (fun _ => 0) 3 = some res := hres
  refine sf_metN (lv := [(0, .ref b), (1, .ref kA)]) (by decide) (Nat.le_of_ble_eq_true rfl) rfl ?_
  intro p e s m args below meth c A Q cx hr hnm hQ
  have cx : sf_Cx p m meth c cX4_init 2 s args RX4 D (sf_ty cI cJ cK cS) A := cx
  refine sw_aload_n (pc' := 1) cx dX4_init_0 rfl 0 rfl rfl ?_
  refine sw_objI (pc' := 4) cx ml_RX4_3 inst_objectInit code_objectInit (by decide) (by decide) dX4_init_1 rfl ?_
  refine sw_aload_n (pc' := 5) cx dX4_init_4 rfl 0 rfl rfl ?_
  refine sw_bipush (pc' := 7) cx dX4_init_5 rfl rfl ?_
  refine sw_newI (pc' := 9) cx arc_int (cI := cI) 0 rfl (N' := 40) (by decide) (by decide) (by decide) ⟨Nat.le_of_ble_eq_true rfl, Nat.le_of_ble_eq_true rfl⟩ dX4_init_7 rfl (fun q1 => ?_)
  refine sw_putF (pc' := 12) (ws' := [(b, .inr (4, [.null, .ref q1, .null, .null, .null, .long 0, .int 0, .int 0, .int 0, .int 0, .int 0, .null, .null, .null, .null, .null])), (q1, .inl (cI, 40, .inl (fun _ => 0)))]) cx hnm in_X4 tyX4 tyX4_ok nmX4 0 rfl rfl 1 (Nat.le_of_ble_eq_true rfl) fl_RX4_9 rfl rfl rfl rfl (Nat.le_of_ble_eq_true rfl) dX4_init_9 rfl rfl ?_
  refine sw_aload_n (pc' := 13) cx dX4_init_12 rfl 0 rfl rfl ?_
  refine sw_bipush (pc' := 15) cx dX4_init_13 rfl rfl ?_
  refine sw_newI (pc' := 17) cx arc_int (cI := cI) 0 rfl (N' := 40) (by decide) (by decide) (by decide) ⟨Nat.le_of_ble_eq_true rfl, Nat.le_of_ble_eq_true rfl⟩ dX4_init_15 rfl (fun q2 => ?_)
  refine sw_putF (pc' := 20) (ws' := [(b, .inr (4, [.null, .ref q1, .ref q2, .null, .null, .long 0, .int 0, .int 0, .int 0, .int 0, .int 0, .null, .null, .null, .null, .null])), (q1, .inl (cI, 40, .inl (fun _ => 0))), (q2, .inl (cI, 40, .inl (fun _ => 0)))]) cx hnm in_X4 tyX4 tyX4_ok nmX4 0 rfl rfl 2 (Nat.le_of_ble_eq_true rfl) fl_RX4_15 rfl rfl rfl rfl (Nat.le_of_ble_eq_true rfl) dX4_init_17 rfl rfl ?_
  refine sw_aload_n (pc' := 21) cx dX4_init_20 rfl 0 rfl rfl ?_
  refine sw_bipush (pc' := 23) cx dX4_init_21 rfl rfl ?_
  refine sw_newI (pc' := 25) cx arc_int (cI := cI) 0 rfl (N' := 40) (by decide) (by decide) (by decide) ⟨Nat.le_of_ble_eq_true rfl, Nat.le_of_ble_eq_true rfl⟩ dX4_init_23 rfl (fun q3 => ?_)
  refine sw_putF (pc' := 28) (ws' := [(b, .inr (4, [.null, .ref q1, .ref q2, .ref q3, .null, .long 0, .int 0, .int 0, .int 0, .int 0, .int 0, .null, .null, .null, .null, .null])), (q1, .inl (cI, 40, .inl (fun _ => 0))), (q2, .inl (cI, 40, .inl (fun _ => 0))), (q3, .inl (cI, 40, .inl (fun _ => 0)))]) cx hnm in_X4 tyX4 tyX4_ok nmX4 0 rfl rfl 3 (Nat.le_of_ble_eq_true rfl) fl_RX4_18 rfl rfl rfl rfl (Nat.le_of_ble_eq_true rfl) dX4_init_25 rfl rfl ?_
  refine sw_aload_n (pc' := 29) cx dX4_init_28 rfl 0 rfl rfl ?_
  refine sw_bipush (pc' := 31) cx dX4_init_29 rfl rfl ?_
  refine sw_newI (pc' := 33) cx arc_int (cI := cI) 0 rfl (N' := 40) (by decide) (by decide) (by decide) ⟨Nat.le_of_ble_eq_true rfl, Nat.le_of_ble_eq_true rfl⟩ dX4_init_31 rfl (fun q4 => ?_)
  refine sw_putF (pc' := 36) (ws' := [(b, .inr (4, [.null, .ref q1, .ref q2, .ref q3, .ref q4, .long 0, .int 0, .int 0, .int 0, .int 0, .int 0, .null, .null, .null, .null, .null])), (q1, .inl (cI, 40, .inl (fun _ => 0))), (q2, .inl (cI, 40, .inl (fun _ => 0))), (q3, .inl (cI, 40, .inl (fun _ => 0))), (q4, .inl (cI, 40, .inl (fun _ => 0)))]) cx hnm in_X4 tyX4 tyX4_ok nmX4 0 rfl rfl 4 (Nat.le_of_ble_eq_true rfl) fl_RX4_21 rfl rfl rfl rfl (Nat.le_of_ble_eq_true rfl) dX4_init_33 rfl rfl ?_
  refine sw_aload_n (pc' := 37) cx dX4_init_36 rfl 0 rfl rfl ?_
  refine sw_iconst (pc' := 38) (v := 4) cx dX4_init_37 iconst_4 rfl ?_
  refine sw_put (pc' := 41) (ws' := [(b, .inr (4, [.null, .ref q1, .ref q2, .ref q3, .ref q4, .long 0, .int 0, .int 0, .int 4, .int 0, .int 0, .null, .null, .null, .null, .null])), (q1, .inl (cI, 40, .inl (fun _ => 0))), (q2, .inl (cI, 40, .inl (fun _ => 0))), (q3, .inl (cI, 40, .inl (fun _ => 0))), (q4, .inl (cI, 40, .inl (fun _ => 0)))]) cx in_X4 tyX4 tyX4_ok nmX4 0 rfl rfl 8 (Nat.le_of_ble_eq_true rfl) fl_RX4_24 rfl rfl rfl (Nat.le_of_ble_eq_true rfl) dX4_init_38 rfl rfl ?_
  refine sw_aload_n (pc' := 42) cx dX4_init_41 rfl 0 rfl rfl ?_
  refine sw_iconst (pc' := 43) (v := 1) cx dX4_init_42 iconst_1 rfl ?_
  refine sw_put (pc' := 46) (ws' := [(b, .inr (4, [.null, .ref q1, .ref q2, .ref q3, .ref q4, .long 0, .int 0, .int 0, .int 4, .int 1, .int 0, .null, .null, .null, .null, .null])), (q1, .inl (cI, 40, .inl (fun _ => 0))), (q2, .inl (cI, 40, .inl (fun _ => 0))), (q3, .inl (cI, 40, .inl (fun _ => 0))), (q4, .inl (cI, 40, .inl (fun _ => 0)))]) cx in_X4 tyX4 tyX4_ok nmX4 0 rfl rfl 9 (Nat.le_of_ble_eq_true rfl) fl_RX4_28 rfl rfl rfl (Nat.le_of_ble_eq_true rfl) dX4_init_43 rfl rfl ?_
  refine sw_aload_n (pc' := 47) cx dX4_init_46 rfl 0 rfl rfl ?_
  refine sw_bipush (pc' := 49) cx dX4_init_47 rfl rfl ?_
  refine sw_newI (pc' := 51) cx arc_int (cI := cI) 0 rfl (N' := 10) (by decide) (by decide) (by decide) ⟨Nat.le_of_ble_eq_true rfl, Nat.le_of_ble_eq_true rfl⟩ dX4_init_49 rfl (fun q5 => ?_)
  refine sw_putF (pc' := 54) (ws' := [(b, .inr (4, [.null, .ref q1, .ref q2, .ref q3, .ref q4, .long 0, .int 0, .int 0, .int 4, .int 1, .int 0, .ref q5, .null, .null, .null, .null])), (q1, .inl (cI, 40, .inl (fun _ => 0))), (q2, .inl (cI, 40, .inl (fun _ => 0))), (q3, .inl (cI, 40, .inl (fun _ => 0))), (q4, .inl (cI, 40, .inl (fun _ => 0))), (q5, .inl (cI, 10, .inl (fun _ => 0)))]) cx hnm in_X4 tyX4 tyX4_ok nmX4 0 rfl rfl 11 (Nat.le_of_ble_eq_true rfl) fl_RX4_31 rfl rfl rfl rfl (Nat.le_of_ble_eq_true rfl) dX4_init_51 rfl rfl ?_
  refine sw_aload_n (pc' := 55) cx dX4_init_54 rfl 0 rfl rfl ?_
  refine sw_bipush (pc' := 57) cx dX4_init_55 rfl rfl ?_
  refine sw_newI (pc' := 59) cx arc_int (cI := cI) 0 rfl (N' := 10) (by decide) (by decide) (by decide) ⟨Nat.le_of_ble_eq_true rfl, Nat.le_of_ble_eq_true rfl⟩ dX4_init_57 rfl (fun q6 => ?_)
  refine sw_putF (pc' := 62) (ws' := [(b, .inr (4, [.null, .ref q1, .ref q2, .ref q3, .ref q4, .long 0, .int 0, .int 0, .int 4, .int 1, .int 0, .ref q5, .ref q6, .null, .null, .null])), (q1, .inl (cI, 40, .inl (fun _ => 0))), (q2, .inl (cI, 40, .inl (fun _ => 0))), (q3, .inl (cI, 40, .inl (fun _ => 0))), (q4, .inl (cI, 40, .inl (fun _ => 0))), (q5, .inl (cI, 10, .inl (fun _ => 0))), (q6, .inl (cI, 10, .inl (fun _ => 0)))]) cx hnm in_X4 tyX4 tyX4_ok nmX4 0 rfl rfl 12 (Nat.le_of_ble_eq_true rfl) fl_RX4_34 rfl rfl rfl rfl (Nat.le_of_ble_eq_true rfl) dX4_init_59 rfl rfl ?_
  refine sw_aload_n (pc' := 63) cx dX4_init_62 rfl 0 rfl rfl ?_
  refine sw_bipush (pc' := 65) cx dX4_init_63 rfl rfl ?_
  refine sw_newI (pc' := 67) cx arc_int (cI := cI) 0 rfl (N' := 10) (by decide) (by decide) (by decide) ⟨Nat.le_of_ble_eq_true rfl, Nat.le_of_ble_eq_true rfl⟩ dX4_init_65 rfl (fun q7 => ?_)
  refine sw_putF (pc' := 70) (ws' := [(b, .inr (4, [.null, .ref q1, .ref q2, .ref q3, .ref q4, .long 0, .int 0, .int 0, .int 4, .int 1, .int 0, .ref q5, .ref q6, .ref q7, .null, .null])), (q1, .inl (cI, 40, .inl (fun _ => 0))), (q2, .inl (cI, 40, .inl (fun _ => 0))), (q3, .inl (cI, 40, .inl (fun _ => 0))), (q4, .inl (cI, 40, .inl (fun _ => 0))), (q5, .inl (cI, 10, .inl (fun _ => 0))), (q6, .inl (cI, 10, .inl (fun _ => 0))), (q7, .inl (cI, 10, .inl (fun _ => 0)))]) cx hnm in_X4 tyX4 tyX4_ok nmX4 0 rfl rfl 13 (Nat.le_of_ble_eq_true rfl) fl_RX4_37 rfl rfl rfl rfl (Nat.le_of_ble_eq_true rfl) dX4_init_67 rfl rfl ?_
  refine sw_aload_n (pc' := 71) cx dX4_init_70 rfl 0 rfl rfl ?_
  refine sw_bipush (pc' := 73) cx dX4_init_71 rfl rfl ?_
  refine sw_newI (pc' := 75) cx arc_int (cI := cI) 0 rfl (N' := 10) (by decide) (by decide) (by decide) ⟨Nat.le_of_ble_eq_true rfl, Nat.le_of_ble_eq_true rfl⟩ dX4_init_73 rfl (fun q8 => ?_)
  refine sw_putF (pc' := 78) (ws' := [(b, .inr (4, [.null, .ref q1, .ref q2, .ref q3, .ref q4, .long 0, .int 0, .int 0, .int 4, .int 1, .int 0, .ref q5, .ref q6, .ref q7, .ref q8, .null])), (q1, .inl (cI, 40, .inl (fun _ => 0))), (q2, .inl (cI, 40, .inl (fun _ => 0))), (q3, .inl (cI, 40, .inl (fun _ => 0))), (q4, .inl (cI, 40, .inl (fun _ => 0))), (q5, .inl (cI, 10, .inl (fun _ => 0))), (q6, .inl (cI, 10, .inl (fun _ => 0))), (q7, .inl (cI, 10, .inl (fun _ => 0))), (q8, .inl (cI, 10, .inl (fun _ => 0)))]) cx hnm in_X4 tyX4 tyX4_ok nmX4 0 rfl rfl 14 (Nat.le_of_ble_eq_true rfl) fl_RX4_40 rfl rfl rfl rfl (Nat.le_of_ble_eq_true rfl) dX4_init_75 rfl rfl ?_
  refine sw_aload_n (pc' := 79) cx dX4_init_78 rfl 0 rfl rfl ?_
  refine sw_bipush (pc' := 81) cx dX4_init_79 rfl rfl ?_
  refine sw_newI (pc' := 83) cx arc_int (cI := cI) 0 rfl (N' := 10) (by decide) (by decide) (by decide) ⟨Nat.le_of_ble_eq_true rfl, Nat.le_of_ble_eq_true rfl⟩ dX4_init_81 rfl (fun q9 => ?_)
  refine sw_putF (pc' := 86) (ws' := [(b, .inr (4, [.null, .ref q1, .ref q2, .ref q3, .ref q4, .long 0, .int 0, .int 0, .int 4, .int 1, .int 0, .ref q5, .ref q6, .ref q7, .ref q8, .ref q9])), (q1, .inl (cI, 40, .inl (fun _ => 0))), (q2, .inl (cI, 40, .inl (fun _ => 0))), (q3, .inl (cI, 40, .inl (fun _ => 0))), (q4, .inl (cI, 40, .inl (fun _ => 0))), (q5, .inl (cI, 10, .inl (fun _ => 0))), (q6, .inl (cI, 10, .inl (fun _ => 0))), (q7, .inl (cI, 10, .inl (fun _ => 0))), (q8, .inl (cI, 10, .inl (fun _ => 0))), (q9, .inl (cI, 10, .inl (fun _ => 0)))]) cx hnm in_X4 tyX4 tyX4_ok nmX4 0 rfl rfl 15 (Nat.le_of_ble_eq_true rfl) fl_RX4_43 rfl rfl rfl rfl (Nat.le_of_ble_eq_true rfl) dX4_init_83 rfl rfl ?_
  refine sw_aload_n (pc' := 87) cx dX4_init_86 rfl 0 rfl rfl ?_
  refine sw_aload_n (pc' := 88) cx dX4_init_87 rfl 1 rfl rfl ?_
  refine sw_putF (pc' := 91) (ws' := [(b, .inr (4, [.ref kA, .ref q1, .ref q2, .ref q3, .ref q4, .long 0, .int 0, .int 0, .int 4, .int 1, .int 0, .ref q5, .ref q6, .ref q7, .ref q8, .ref q9])), (q1, .inl (cI, 40, .inl (fun _ => 0))), (q2, .inl (cI, 40, .inl (fun _ => 0))), (q3, .inl (cI, 40, .inl (fun _ => 0))), (q4, .inl (cI, 40, .inl (fun _ => 0))), (q5, .inl (cI, 10, .inl (fun _ => 0))), (q6, .inl (cI, 10, .inl (fun _ => 0))), (q7, .inl (cI, 10, .inl (fun _ => 0))), (q8, .inl (cI, 10, .inl (fun _ => 0))), (q9, .inl (cI, 10, .inl (fun _ => 0)))]) cx hnm in_X4 tyX4 tyX4_ok nmX4 0 rfl rfl 0 (Nat.le_of_ble_eq_true rfl) fl_RX4_46 rfl rfl rfl rfl (Nat.le_of_ble_eq_true rfl) dX4_init_88 rfl rfl ?_
  refine sw_aload_n (pc' := 92) cx dX4_init_91 rfl 0 rfl rfl ?_
  refine sw_get (pc' := 95) cx in_X4 0 rfl rfl 1 (Nat.le_of_ble_eq_true rfl) fl_RX4_9 rfl dX4_init_92 rfl ?_
  refine sw_iconst (pc' := 96) (v := 3) cx dX4_init_95 iconst_3 rfl ?_
  refine sw_callS (pc' := 99) (As := [.ref q1, .int 3]) (rest := []) cx (k_J7_fill_53178 l D q1 cI cJ cK cS (fun _ => 0) 3 res hres) pk_yJ7_fill_53178 ml_RX4_50 ⟨rfl, rfl⟩ ⟨Nat.le_of_ble_eq_true rfl, Nat.le_of_ble_eq_true rfl⟩ ⟨Nat.le_of_ble_eq_true rfl, Nat.le_of_ble_eq_true rfl⟩ [1] rfl rfl rfl (wn := [(b, .inr (4, [.ref kA, .ref q1, .ref q2, .ref q3, .ref q4, .long 0, .int 0, .int 0, .int 4, .int 1, .int 0, .ref q5, .ref q6, .ref q7, .ref q8, .ref q9])), (q1, .inl (cI, 40, .inl res)), (q2, .inl (cI, 40, .inl (fun _ => 0))), (q3, .inl (cI, 40, .inl (fun _ => 0))), (q4, .inl (cI, 40, .inl (fun _ => 0))), (q5, .inl (cI, 10, .inl (fun _ => 0))), (q6, .inl (cI, 10, .inl (fun _ => 0))), (q7, .inl (cI, 10, .inl (fun _ => 0))), (q8, .inl (cI, 10, .inl (fun _ => 0))), (q9, .inl (cI, 10, .inl (fun _ => 0)))]) rfl rfl (Nat.le_of_ble_eq_true rfl) rfl dX4_init_96 rfl ?_
  exact sw_vretN cx hr hQ ⟨q1, q2, q3, q4, q5, q6, q7, q8, q9, res, h3, rfl⟩ dX4_init_99
