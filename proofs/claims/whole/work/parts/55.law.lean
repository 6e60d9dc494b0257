/-! the law: its switch, its loop -/
section LC
variable {p : Program} {l : Launch} {e : Env} {s : State} {m : MethodId} {args : Array Value} {below : List Frame} {meth : Method} {c : Code} {Q : State → Prop} {D : sf_D} {A : Nat → Prop} {g m0 m1 m2 ka sa sn h : Nat → Nat} {cI cJ cK cS : ClassId} {b i L : Nat} {xs : Nat → Int32}
def law_offs : Array Int := #[187, 220, 253, 296, 329, 372, 405, 438, 471, 485, 544, 557, 571, 594, 617, 640, 664, 687, 700, 723, 746, 779, 812, 825, 848, 861, 894, 917, 940, 963, 996, 1009, 1022, 1065, 1139, 1202, 1225, 1258, 1281, 1294, 1307, 1320, 1343]
theorem law_sw (cx : sf_Cx p m meth c cL_law 4 s args RL D (sf_ty cI cJ cK cS) A) (X : LX s A b L xs i) (K : LG p l e s m args below meth c Q D A g m0 m1 m2 ka sa sn h cI cJ cK cS b i 1399) : ∀ j, j < 43 → ∃ (off : Int) (tgt : Nat), law_offs[j]? = some off ∧ ((33 : Nat) : Int) + off = (tgt : Int) ∧ LG p l e s m args below meth c Q D A g m0 m1 m2 ka sa sn h cI cJ cK cS b i tgt
  | 0, _ => ⟨187, 220, rfl, by decide, cs_rock cx X K⟩
  | 1, _ => ⟨220, 253, rfl, by decide, cs_let cx X K⟩
  | 2, _ => ⟨253, 286, rfl, by decide, cs_fine cx X K⟩
  | 3, _ => ⟨296, 329, rfl, by decide, cs_of cx X K⟩
  | 4, _ => ⟨329, 362, rfl, by decide, cs_set cx X K⟩
  | 5, _ => ⟨372, 405, rfl, by decide, cs_turn cx X K⟩
  | 6, _ => ⟨405, 438, rfl, by decide, cs_as cx X K⟩
  | 7, _ => ⟨438, 471, rfl, by decide, cs_placeOf cx X K⟩
  | 8, _ => ⟨471, 504, rfl, by decide, cs_whole cx X K⟩
  | 9, _ => ⟨485, 518, rfl, by decide, cs_make cx X K⟩
  | 10, _ => ⟨544, 577, rfl, by decide, cs_reach cx X K⟩
  | 11, _ => ⟨557, 590, rfl, by decide, cs_faults cx X K⟩
  | 12, _ => ⟨571, 604, rfl, by decide, cs_years cx X K⟩
  | 13, _ => ⟨594, 627, rfl, by decide, cs_seed cx X K⟩
  | 14, _ => ⟨617, 650, rfl, by decide, cs_now cx X K⟩
  | 15, _ => ⟨640, 673, rfl, by decide, cs_on cx X K⟩
  | 16, _ => ⟨664, 697, rfl, by decide, cs_reachOn cx X K⟩
  | 17, _ => ⟨687, 720, rfl, by decide, cs_pass cx X K⟩
  | 18, _ => ⟨700, 733, rfl, by decide, cs_paid cx X K⟩
  | 19, _ => ⟨723, 756, rfl, by decide, cs_farthest cx X K⟩
  | 20, _ => ⟨746, 779, rfl, by decide, cs_best cx X K⟩
  | 21, _ => ⟨779, 812, rfl, by decide, cs_kind cx X K⟩
  | 22, _ => ⟨812, 845, rfl, by decide, cs_mend cx X K⟩
  | 23, _ => ⟨825, 858, rfl, by decide, cs_needed cx X K⟩
  | 24, _ => ⟨848, 881, rfl, by decide, cs_steepest cx X K⟩
  | 25, _ => ⟨861, 894, rfl, by decide, cs_whose cx X K⟩
  | 26, _ => ⟨894, 927, rfl, by decide, cs_bears cx X K⟩
  | 27, _ => ⟨917, 950, rfl, by decide, cs_meetsFor cx X K⟩
  | 28, _ => ⟨940, 973, rfl, by decide, cs_alone cx X K⟩
  | 29, _ => ⟨963, 996, rfl, by decide, cs_feed cx X K⟩
  | 30, _ => ⟨996, 1029, rfl, by decide, cs_wipe cx X K⟩
  | 31, _ => ⟨1009, 1042, rfl, by decide, cs_court cx X K⟩
  | 32, _ => ⟨1022, 1055, rfl, by decide, cs_sheet cx X K⟩
  | 33, _ => ⟨1065, 1098, rfl, by decide, cs_write cx X K⟩
  | 34, _ => ⟨1139, 1172, rfl, by decide, cs_copy cx X K⟩
  | 35, _ => ⟨1202, 1235, rfl, by decide, cs_lays cx X K⟩
  | 36, _ => ⟨1225, 1258, rfl, by decide, cs_stair cx X K⟩
  | 37, _ => ⟨1258, 1291, rfl, by decide, cs_read cx X K⟩
  | 38, _ => ⟨1281, 1314, rfl, by decide, cs_image cx X K⟩
  | 39, _ => ⟨1294, 1327, rfl, by decide, cs_undo cx X K⟩
  | 40, _ => ⟨1307, 1340, rfl, by decide, cs_tear cx X K⟩
  | 41, _ => ⟨1320, 1353, rfl, by decide, cs_count cx X K⟩
  | 42, _ => ⟨1343, 1376, rfl, by decide, cs_status cx X K⟩
  | j + 43, hj => absurd hj (by omega)
theorem law_loop (cx : sf_Cx p m meth c cL_law 4 s args RL D (sf_ty cI cJ cK cS) A) (hX : va_X b L xs s s.heap) (hbl : b < s.heap.size) (hbA : ¬ A b) (hL : L ≤ 3072) (KE : ∀ i, LG p l e s m args below meth c Q D A g m0 m1 m2 ka sa sn h cI cJ cK cS b i 1405) : ∀ n i, i ≤ L + 6 → L + 6 < i + n → LG p l e s m args below meth c Q D A g m0 m1 m2 ka sa sn h cI cJ cK cS b i 18
  | 0, i, h1, h2 => by omega
  | n + 1, i, h1, h2 => by
    intro mu tr ke kp tby tlen ttok tsta tbeh tnum ttak sh fi row fnd tape tmany sort begs tends word valu good bits size shts lent imag befo kept hR
    refine sw_iload_n (pc' := 19) cx dL_law_18 rfl 0 rfl rfl ?_
    refine sw_aload_n (pc' := 20) cx dL_law_19 rfl 3 rfl rfl ?_
    refine sw_slen (pc' := 21) cx hX hbl hbA dL_law_20 rfl ?_
    refine sw_bipush (pc' := 23) (v := nI 6) cx dL_law_21 (by decide) rfl ?_
    refine sw_isub (pc' := 24) cx dL_law_23 rfl ?_
    refine sw_icmp_gt (tgt := 1405) (pc' := 27) cx dL_law_24 (by decide) rfl (fun _ => KE i _ _ _ _ _ _ _ _ _ _ _ _ _ _ _ _ _ _ _ _ _ _ _ _ _ _ _ _ _ _ hR) (fun hc => ?_)
    have hi : i + 6 ≤ L := cmp6 hL (by omega) hc
    refine sw_aload_n (pc' := 28) cx dL_law_27 rfl 3 rfl rfl ?_
    refine sw_iload_n (pc' := 29) cx dL_law_28 rfl 0 rfl rfl ?_
    refine sw_sld (pc' := 30) cx hX hbl hbA (vp_in_nI (by omega) (by omega)) (nI_clamp (by omega)) dL_law_29 rfl ?_
    refine sw_bipush (pc' := 32) (v := 63) cx dL_law_30 (by decide) rfl ?_
    refine sw_iand (pc' := 33) cx dL_law_32 rfl ?_
    have K : LG p l e s m args below meth c Q D A g m0 m1 m2 ka sa sn h cI cJ cK cS b i 1399 := by
      intro mu tr ke kp tby tlen ttok tsta tbeh tnum ttak sh fi row fnd tape tmany sort begs tends word valu good bits size shts lent imag befo kept hR
      refine sw_iinc (pc' := 1402) (v := nI (i + 6)) (lv' := [(3, .int (nI (i + 6))), (2, .ref (h 0)), (1, .ref (g 0)), (0, .ref b)]) cx dL_law_1399 0 rfl (nI_add i 6) (by decide) rfl rfl ?_
      refine sw_goto (tgt := 18) cx dL_law_1402 (by decide) ?_
      exact law_loop cx hX hbl hbA hL KE n (i + 6) (by omega) (by omega) _ _ _ _ _ _ _ _ _ _ _ _ _ _ _ _ _ _ _ _ _ _ _ _ _ _ _ _ _ _ hR
    obtain ⟨j, hj, ej⟩ := and63 (xs i)
    rw [ej]
    have et : (nI j).toInt = (j : Int) := nI_toInt (by omega)
    rcases Nat.lt_or_ge j 43 with hj2 | hj2
    · obtain ⟨off, tgt, ho, ht, hg⟩ := law_sw cx ⟨hX, hbl, hbA, hi, hL⟩ K j hj2
      refine sw_tableIn (off := off) (tgt := tgt) cx dL_law_33 (by rw [et]; omega) (by rw [et]; omega) ?_ ht (hg _ _ _ _ _ _ _ _ _ _ _ _ _ _ _ _ _ _ _ _ _ _ _ _ _ _ _ _ _ _ hR)
      rw [et, show ((j : Int) - 0).toNat = j by omega]
      exact ho
    · exact sw_tableOut (tgt := 1399) cx dL_law_33 (by rw [et]; omega) (by decide) (K _ _ _ _ _ _ _ _ _ _ _ _ _ _ _ _ _ _ _ _ _ _ _ _ _ _ _ _ _ _ hR)
end LC
