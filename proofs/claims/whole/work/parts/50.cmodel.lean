/-! constructors: StairFinesModel -/
def R0 (i k : Nat) : Int32 := if k = 2 then nI 4 else if k = 3 then nI 1 else if 5 ≤ k ∧ k < 5 + i then nI 3 else nI 0
abbrev mo0 (h : Nat → Nat) (cI cJ : ClassId) (row : Nat → Int32) : va_W := mo_W h cI cJ row 0 (fun _ => 0) (fun _ => 0) 0 0 0 0 0 0 0 (fun _ => 0) (fun _ => 0) (fun _ => 0) (fun _ => 0) (fun _ => 0) (fun _ => 0) 0
def moP (b : Nat) (cI cJ : ClassId) (w : va_W) : Prop := ∃ h row, h 0 = b ∧ (∀ k, row k = R0 40 k) ∧ w = mo0 h cI cJ row
theorem df_X10 : ∀ j, j < 18 → defaultValue (tyX10 j) = vp_V [.null, .int 0, .null, .null, .int 0, .int 0, .int 0, .int 0, .long 0, .int 0, .int 0, .null, .null, .null, .null, .null, .null, .int 0] j := by decide +kernel
theorem pi_X10 : sf_PkI yX10_init cX10_init 2 0 := ⟨pk_yX10_init, inst_yX10_init, rfl⟩
section CM
variable {p : Program} {l : Launch} {e : Env} {R : Room} {s : State} {m : MethodId} {args : Array Value} {below : List Frame} {meth : Method} {c : Code} {cells slots : Nat} {Q : State → Prop} {D : sf_D} {cI cJ cK cS : ClassId} {A : Nat → Prop}
theorem mi_loop (cx : sf_Cx p m meth c cX10_init 2 s args RX10 D (sf_ty cI cJ cK cS) A) {h : Nat → Nat} (K : ∀ row, (∀ k, row k = R0 40 k) → sf_W p l e R s m args below meth c cells slots Q 2 D A (mo0 h cI cJ row) [(1, .int (nI 40)), (0, .ref (h 0))] 115 []) : ∀ n i row, i ≤ 40 → 40 < i + n → (∀ k, row k = R0 i k) → sf_W p l e R s m args below meth c cells slots Q 2 D A (mo0 h cI cJ row) [(1, .int (nI i)), (0, .ref (h 0))] 94 []
  | 0, i, row, h1, h2, _ => by omega
  | n + 1, i, row, h1, h2, h3 => by
    refine sw_iload_n (pc' := 95) cx dX10_init_94 rfl 0 rfl rfl ?_
    refine sw_bipush (pc' := 97) (v := nI 40) cx dX10_init_95 (by decide) rfl ?_
    refine sw_icmp_ge (pc' := 100) (tgt := 115) cx dX10_init_97 (by decide) rfl (fun hc => ?_) (fun hc => ?_)
    · have e40 : i = 40 := by
        rcases Nat.lt_or_ge i 40 with q | q
        · exact absurd hc (nI_ge q (by decide))
        · omega
      subst e40
      exact K row h3
    · have hlt : i < 40 := by
        rcases Nat.lt_or_ge i 40 with q | q
        · exact q
        · exact absurd (nI_le q (by omega)) hc
      refine sw_aload_n (pc' := 101) cx dX10_init_100 rfl 1 rfl rfl ?_
      refine sw_get (pc' := 104) cx in_X10 0 rfl rfl 0 (Nat.le_of_ble_eq_true rfl) fl_RX10_7 rfl dX10_init_101 rfl ?_
      refine sw_iconst (pc' := 105) (v := nI 5) cx dX10_init_104 (by decide) rfl ?_
      refine sw_iload_n (pc' := 106) cx dX10_init_105 rfl 0 rfl rfl ?_
      refine sw_iadd (pc' := 107) cx dX10_init_106 rfl ?_
      refine sw_iconst (pc' := 108) (v := nI 3) cx dX10_init_107 (by decide) rfl ?_
      refine sw_iast (pc' := 109) (ws' := mo0 h cI cJ (upd row (5 + i) (nI 3))) cx 1 0 rfl rfl (by rw [nI_add]; exact vp_in_nI (by omega) (by decide)) dX10_init_108 (by rw [nI_add, nI_clamp (by omega)]; rfl) rfl ?_
      refine sw_iinc (pc' := 112) (v := nI (i + 1)) (lv' := [(1, .int (nI (i + 1))), (0, .ref (h 0))]) cx dX10_init_109 0 rfl (nI_1 i) (by decide) rfl rfl ?_
      refine sw_goto (tgt := 94) cx dX10_init_112 (by decide) ?_
      refine mi_loop cx K n (i + 1) _ (by omega) (by omega) (fun k => ?_)
      by_cases ek : k = 5 + i
      · subst ek
        rw [pk_us]; unfold R0
        rw [if_neg (by omega), if_neg (by omega), if_pos (by omega)]
      · rw [pk_un ek, h3 k]; unfold R0
        by_cases c2 : k = 2
        · rw [if_pos c2, if_pos c2]
        · rw [if_neg c2, if_neg c2]
          by_cases c3 : k = 3
          · rw [if_pos c3, if_pos c3]
          · rw [if_neg c3, if_neg c3]
            by_cases c5 : 5 ≤ k ∧ k < 5 + i
            · rw [if_pos c5, if_pos (by omega)]
            · rw [if_neg c5, if_neg (by omega)]
end CM
abbrev rm_N : Room := ({ frames := 1, cells := 9, slots := 1355, locals := 12 } : Room)
set_option maxRecDepth 100000 in
theorem n_X10 (l : Launch) (D : sf_D) (cI cJ cK cS : ClassId) (b : Nat) : sf_Cn l yX10_init cX10_init 2 rm_N D (sf_ty cI cJ cK cS) [.ref b] [(b, .inr (10, [.null, .int 0, .null, .null, .int 0, .int 0, .int 0, .int 0, .long 0, .int 0, .int 0, .null, .null, .null, .null, .null, .null, .int 0]))] (moP b cI cJ) 9 1355 := by
  refine sf_metN (lv := [(0, .ref b)]) (by decide) (Nat.le_of_ble_eq_true rfl) rfl ?_
  intro p e s m args below meth c A Q cx hr hnm hQ
  have cx : sf_Cx p m meth c cX10_init 2 s args RX10 D (sf_ty cI cJ cK cS) A := cx
  refine sw_aload_n (pc' := 1) cx dX10_init_0 rfl 0 rfl rfl ?_
  refine sw_objI (pc' := 4) cx ml_RX10_1 inst_objectInit code_objectInit (by decide) (by decide) dX10_init_1 rfl ?_
  refine sw_aload_n (pc' := 5) cx dX10_init_4 rfl 0 rfl rfl ?_
  refine sw_sipush (pc' := 8) (v := 510) cx dX10_init_5 (by decide) rfl ?_
  refine sw_newI (pc' := 10) cx arc_int (cI := cI) 0 rfl (N' := 510) (by decide) (by decide) (by decide) ⟨Nat.le_of_ble_eq_true rfl, Nat.le_of_ble_eq_true rfl⟩ dX10_init_8 rfl (fun q1 => ?_)
  refine sw_putF (pc' := 13) (ws' := [(b, .inr (10, [.ref q1, .int 0, .null, .null, .int 0, .int 0, .int 0, .int 0, .long 0, .int 0, .int 0, .null, .null, .null, .null, .null, .null, .int 0])), (q1, .inl (cI, 510, .inl (fun _ => 0)))]) cx hnm in_X10 tyX10 tyX10_ok nmX10 0 rfl rfl 0 (Nat.le_of_ble_eq_true rfl) fl_RX10_7 rfl rfl rfl rfl (Nat.le_of_ble_eq_true rfl) dX10_init_10 rfl rfl ?_
  refine sw_aload_n (pc' := 14) cx dX10_init_13 rfl 0 rfl rfl ?_
  refine sw_bipush (pc' := 16) (v := 7) cx dX10_init_14 (by decide) rfl ?_
  refine sw_newI (pc' := 18) cx arc_int (cI := cI) 0 rfl (N' := 7) (by decide) (by decide) (by decide) ⟨Nat.le_of_ble_eq_true rfl, Nat.le_of_ble_eq_true rfl⟩ dX10_init_16 rfl (fun q2 => ?_)
  refine sw_putF (pc' := 21) (ws' := [(b, .inr (10, [.ref q1, .int 0, .ref q2, .null, .int 0, .int 0, .int 0, .int 0, .long 0, .int 0, .int 0, .null, .null, .null, .null, .null, .null, .int 0])), (q1, .inl (cI, 510, .inl (fun _ => 0))), (q2, .inl (cI, 7, .inl (fun _ => 0)))]) cx hnm in_X10 tyX10 tyX10_ok nmX10 0 rfl rfl 2 (Nat.le_of_ble_eq_true rfl) fl_RX10_13 rfl rfl rfl rfl (Nat.le_of_ble_eq_true rfl) dX10_init_18 rfl rfl ?_
  refine sw_aload_n (pc' := 22) cx dX10_init_21 rfl 0 rfl rfl ?_
  refine sw_bipush (pc' := 24) (v := 120) cx dX10_init_22 (by decide) rfl ?_
  refine sw_newI (pc' := 26) cx arc_int (cI := cI) 0 rfl (N' := 120) (by decide) (by decide) (by decide) ⟨Nat.le_of_ble_eq_true rfl, Nat.le_of_ble_eq_true rfl⟩ dX10_init_24 rfl (fun q3 => ?_)
  refine sw_putF (pc' := 29) (ws' := [(b, .inr (10, [.ref q1, .int 0, .ref q2, .ref q3, .int 0, .int 0, .int 0, .int 0, .long 0, .int 0, .int 0, .null, .null, .null, .null, .null, .null, .int 0])), (q1, .inl (cI, 510, .inl (fun _ => 0))), (q2, .inl (cI, 7, .inl (fun _ => 0))), (q3, .inl (cI, 120, .inl (fun _ => 0)))]) cx hnm in_X10 tyX10 tyX10_ok nmX10 0 rfl rfl 3 (Nat.le_of_ble_eq_true rfl) fl_RX10_16 rfl rfl rfl rfl (Nat.le_of_ble_eq_true rfl) dX10_init_26 rfl rfl ?_
  refine sw_aload_n (pc' := 30) cx dX10_init_29 rfl 0 rfl rfl ?_
  refine sw_iconst (pc' := 31) (v := 4) cx dX10_init_30 (by decide) rfl ?_
  refine sw_newI (pc' := 33) cx arc_int (cI := cI) 0 rfl (N' := 4) (by decide) (by decide) (by decide) ⟨Nat.le_of_ble_eq_true rfl, Nat.le_of_ble_eq_true rfl⟩ dX10_init_31 rfl (fun q4 => ?_)
  refine sw_putF (pc' := 36) (ws' := [(b, .inr (10, [.ref q1, .int 0, .ref q2, .ref q3, .int 0, .int 0, .int 0, .int 0, .long 0, .int 0, .int 0, .ref q4, .null, .null, .null, .null, .null, .int 0])), (q1, .inl (cI, 510, .inl (fun _ => 0))), (q2, .inl (cI, 7, .inl (fun _ => 0))), (q3, .inl (cI, 120, .inl (fun _ => 0))), (q4, .inl (cI, 4, .inl (fun _ => 0)))]) cx hnm in_X10 tyX10 tyX10_ok nmX10 0 rfl rfl 11 (Nat.le_of_ble_eq_true rfl) fl_RX10_19 rfl rfl rfl rfl (Nat.le_of_ble_eq_true rfl) dX10_init_33 rfl rfl ?_
  refine sw_aload_n (pc' := 37) cx dX10_init_36 rfl 0 rfl rfl ?_
  refine sw_iconst (pc' := 38) (v := 4) cx dX10_init_37 (by decide) rfl ?_
  refine sw_newI (pc' := 40) cx arc_int (cI := cI) 0 rfl (N' := 4) (by decide) (by decide) (by decide) ⟨Nat.le_of_ble_eq_true rfl, Nat.le_of_ble_eq_true rfl⟩ dX10_init_38 rfl (fun q5 => ?_)
  refine sw_putF (pc' := 43) (ws' := [(b, .inr (10, [.ref q1, .int 0, .ref q2, .ref q3, .int 0, .int 0, .int 0, .int 0, .long 0, .int 0, .int 0, .ref q4, .ref q5, .null, .null, .null, .null, .int 0])), (q1, .inl (cI, 510, .inl (fun _ => 0))), (q2, .inl (cI, 7, .inl (fun _ => 0))), (q3, .inl (cI, 120, .inl (fun _ => 0))), (q4, .inl (cI, 4, .inl (fun _ => 0))), (q5, .inl (cI, 4, .inl (fun _ => 0)))]) cx hnm in_X10 tyX10 tyX10_ok nmX10 0 rfl rfl 12 (Nat.le_of_ble_eq_true rfl) fl_RX10_22 rfl rfl rfl rfl (Nat.le_of_ble_eq_true rfl) dX10_init_40 rfl rfl ?_
  refine sw_aload_n (pc' := 44) cx dX10_init_43 rfl 0 rfl rfl ?_
  refine sw_sipush (pc' := 47) (v := 160) cx dX10_init_44 (by decide) rfl ?_
  refine sw_newL (pc' := 49) cx arc_long (cJ := cJ) 1 rfl (N' := 160) (by decide) (by decide) (by decide) ⟨Nat.le_of_ble_eq_true rfl, Nat.le_of_ble_eq_true rfl⟩ dX10_init_47 rfl (fun q6 => ?_)
  refine sw_putF (pc' := 52) (ws' := [(b, .inr (10, [.ref q1, .int 0, .ref q2, .ref q3, .int 0, .int 0, .int 0, .int 0, .long 0, .int 0, .int 0, .ref q4, .ref q5, .ref q6, .null, .null, .null, .int 0])), (q1, .inl (cI, 510, .inl (fun _ => 0))), (q2, .inl (cI, 7, .inl (fun _ => 0))), (q3, .inl (cI, 120, .inl (fun _ => 0))), (q4, .inl (cI, 4, .inl (fun _ => 0))), (q5, .inl (cI, 4, .inl (fun _ => 0))), (q6, .inl (cJ, 160, .inr (.inl (fun _ => 0))))]) cx hnm in_X10 tyX10 tyX10_ok nmX10 0 rfl rfl 13 (Nat.le_of_ble_eq_true rfl) fl_RX10_25 rfl rfl rfl rfl (Nat.le_of_ble_eq_true rfl) dX10_init_49 rfl rfl ?_
  refine sw_aload_n (pc' := 53) cx dX10_init_52 rfl 0 rfl rfl ?_
  refine sw_bipush (pc' := 55) (v := 40) cx dX10_init_53 (by decide) rfl ?_
  refine sw_newL (pc' := 57) cx arc_long (cJ := cJ) 1 rfl (N' := 40) (by decide) (by decide) (by decide) ⟨Nat.le_of_ble_eq_true rfl, Nat.le_of_ble_eq_true rfl⟩ dX10_init_55 rfl (fun q7 => ?_)
  refine sw_putF (pc' := 60) (ws' := [(b, .inr (10, [.ref q1, .int 0, .ref q2, .ref q3, .int 0, .int 0, .int 0, .int 0, .long 0, .int 0, .int 0, .ref q4, .ref q5, .ref q6, .ref q7, .null, .null, .int 0])), (q1, .inl (cI, 510, .inl (fun _ => 0))), (q2, .inl (cI, 7, .inl (fun _ => 0))), (q3, .inl (cI, 120, .inl (fun _ => 0))), (q4, .inl (cI, 4, .inl (fun _ => 0))), (q5, .inl (cI, 4, .inl (fun _ => 0))), (q6, .inl (cJ, 160, .inr (.inl (fun _ => 0)))), (q7, .inl (cJ, 40, .inr (.inl (fun _ => 0))))]) cx hnm in_X10 tyX10 tyX10_ok nmX10 0 rfl rfl 14 (Nat.le_of_ble_eq_true rfl) fl_RX10_29 rfl rfl rfl rfl (Nat.le_of_ble_eq_true rfl) dX10_init_57 rfl rfl ?_
  refine sw_aload_n (pc' := 61) cx dX10_init_60 rfl 0 rfl rfl ?_
  refine sw_sipush (pc' := 64) (v := 255) cx dX10_init_61 (by decide) rfl ?_
  refine sw_newI (pc' := 66) cx arc_int (cI := cI) 0 rfl (N' := 255) (by decide) (by decide) (by decide) ⟨Nat.le_of_ble_eq_true rfl, Nat.le_of_ble_eq_true rfl⟩ dX10_init_64 rfl (fun q8 => ?_)
  refine sw_putF (pc' := 69) (ws' := [(b, .inr (10, [.ref q1, .int 0, .ref q2, .ref q3, .int 0, .int 0, .int 0, .int 0, .long 0, .int 0, .int 0, .ref q4, .ref q5, .ref q6, .ref q7, .ref q8, .null, .int 0])), (q1, .inl (cI, 510, .inl (fun _ => 0))), (q2, .inl (cI, 7, .inl (fun _ => 0))), (q3, .inl (cI, 120, .inl (fun _ => 0))), (q4, .inl (cI, 4, .inl (fun _ => 0))), (q5, .inl (cI, 4, .inl (fun _ => 0))), (q6, .inl (cJ, 160, .inr (.inl (fun _ => 0)))), (q7, .inl (cJ, 40, .inr (.inl (fun _ => 0)))), (q8, .inl (cI, 255, .inl (fun _ => 0)))]) cx hnm in_X10 tyX10 tyX10_ok nmX10 0 rfl rfl 15 (Nat.le_of_ble_eq_true rfl) fl_RX10_32 rfl rfl rfl rfl (Nat.le_of_ble_eq_true rfl) dX10_init_66 rfl rfl ?_
  refine sw_aload_n (pc' := 70) cx dX10_init_69 rfl 0 rfl rfl ?_
  refine sw_sipush (pc' := 73) (v := 255) cx dX10_init_70 (by decide) rfl ?_
  refine sw_newI (pc' := 75) cx arc_int (cI := cI) 0 rfl (N' := 255) (by decide) (by decide) (by decide) ⟨Nat.le_of_ble_eq_true rfl, Nat.le_of_ble_eq_true rfl⟩ dX10_init_73 rfl (fun q9 => ?_)
  refine sw_putF (pc' := 78) (ws' := [(b, .inr (10, [.ref q1, .int 0, .ref q2, .ref q3, .int 0, .int 0, .int 0, .int 0, .long 0, .int 0, .int 0, .ref q4, .ref q5, .ref q6, .ref q7, .ref q8, .ref q9, .int 0])), (q1, .inl (cI, 510, .inl (fun _ => 0))), (q2, .inl (cI, 7, .inl (fun _ => 0))), (q3, .inl (cI, 120, .inl (fun _ => 0))), (q4, .inl (cI, 4, .inl (fun _ => 0))), (q5, .inl (cI, 4, .inl (fun _ => 0))), (q6, .inl (cJ, 160, .inr (.inl (fun _ => 0)))), (q7, .inl (cJ, 40, .inr (.inl (fun _ => 0)))), (q8, .inl (cI, 255, .inl (fun _ => 0))), (q9, .inl (cI, 255, .inl (fun _ => 0)))]) cx hnm in_X10 tyX10 tyX10_ok nmX10 0 rfl rfl 16 (Nat.le_of_ble_eq_true rfl) fl_RX10_35 rfl rfl rfl rfl (Nat.le_of_ble_eq_true rfl) dX10_init_75 rfl rfl ?_
  obtain ⟨h, rfl, rfl, rfl, rfl, rfl, rfl, rfl, rfl, rfl, rfl⟩ : ∃ h : Nat → Nat, h 0 = b ∧ h 1 = q1 ∧ h 2 = q2 ∧ h 3 = q3 ∧ h 4 = q4 ∧ h 5 = q5 ∧ h 6 = q6 ∧ h 7 = q7 ∧ h 8 = q8 ∧ h 9 = q9 := ⟨fun k => match k with | 0 => b | 1 => q1 | 2 => q2 | 3 => q3 | 4 => q4 | 5 => q5 | 6 => q6 | 7 => q7 | 8 => q8 | _ => q9, rfl, rfl, rfl, rfl, rfl, rfl, rfl, rfl, rfl, rfl⟩
  refine sw_eq (ws2 := mo0 h cI cJ (fun _ => 0)) rfl rfl rfl rfl ?_
  refine sw_aload_n (pc' := 79) cx dX10_init_78 rfl 0 rfl rfl ?_
  refine sw_get (pc' := 82) cx in_X10 0 rfl rfl 0 (Nat.le_of_ble_eq_true rfl) fl_RX10_7 rfl dX10_init_79 rfl ?_
  refine sw_iconst (pc' := 83) (v := 2) cx dX10_init_82 (by decide) rfl ?_
  refine sw_iconst (pc' := 84) (v := 4) cx dX10_init_83 (by decide) rfl ?_
  refine sw_iast (pc' := 85) (ws' := mo0 h cI cJ (upd (fun _ => 0) 2 4)) cx 1 0 rfl rfl (by unfold vp_in; decide) dX10_init_84 rfl rfl ?_
  refine sw_aload_n (pc' := 86) cx dX10_init_85 rfl 0 rfl rfl ?_
  refine sw_get (pc' := 89) cx in_X10 0 rfl rfl 0 (Nat.le_of_ble_eq_true rfl) fl_RX10_7 rfl dX10_init_86 rfl ?_
  refine sw_iconst (pc' := 90) (v := 3) cx dX10_init_89 (by decide) rfl ?_
  refine sw_iconst (pc' := 91) (v := 1) cx dX10_init_90 (by decide) rfl ?_
  refine sw_iast (pc' := 92) (ws' := mo0 h cI cJ (upd (upd (fun _ => 0) 2 4) 3 1)) cx 1 0 rfl rfl (by unfold vp_in; decide) dX10_init_91 rfl rfl ?_
  refine sw_iconst (pc' := 93) (v := nI 0) cx dX10_init_92 (by decide) rfl ?_
  refine sw_istore_n (pc' := 94) (lv' := [(1, .int (nI 0)), (0, .ref (h 0))]) cx dX10_init_93 rfl (by decide) rfl rfl ?_
  refine mi_loop cx (fun row h4 => ?_) 41 0 _ (Nat.zero_le _) (by decide) (fun k => ?_)
  · exact sw_vretN cx hr hQ ⟨h, row, rfl, h4, rfl⟩ dX10_init_115
  · unfold R0
    by_cases c3 : k = 3
    · subst c3; rw [pk_us]; rfl
    · rw [pk_un c3]
      by_cases c2 : k = 2
      · subst c2; rw [pk_us]; rfl
      · rw [pk_un c2, if_neg c2, if_neg c3, if_neg (by omega)]; rfl
