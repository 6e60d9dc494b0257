abbrev rm_X10_serves : Room := ({ frames := 3, cells := 0, slots := 0, locals := 65 } : Room)
set_option maxRecDepth 100000 in
set_option maxHeartbeats 4000000 in
theorem k_X10_serves (l : Launch) (D : sf_D) (h : Nat → Nat) (cI cJ cK cS : ClassId) (row : Nat → Int32) (att : Int32) (fnd : Nat → Int32) (tape : Nat → Int32) (tmany : Int32) (sort : Int32) (begs : Int32) (tends : Int32) (word : Int64) (valu : Int32) (good : Int32) (bits : Nat → Int32) (size : Nat → Int32) (shts : Nat → Int64) (lent : Nat → Int64) (imag : Nat → Int32) (befo : Nat → Int32) (kept : Int32) (a0 : Int32) (res : (Nat → Int32)) (hf : f_X10_serves row att a0 = some res) : sf_Ct l yX10_serves cX10_serves 5 none rm_X10_serves D (sf_ty cI cJ cK cS) [.ref (h 0), .int a0] (mo_W h cI cJ row att fnd tape tmany sort begs tends word valu good bits size shts lent imag befo kept) none (mo_W h cI cJ res att fnd tape tmany sort begs tends word valu good bits size shts lent imag befo kept) := by
  refine sf_met (lv := [(0, .ref (h 0)), (1, .int a0)]) (by decide) (Nat.le_of_ble_eq_true rfl) rfl ?_
  intro p e s m args below meth c A Q cx hr hQ
  have cx : sf_Cx p m meth c cX10_serves 5 s args RX10 D (sf_ty cI cJ cK cS) A := cx
  have B147 : ∀ (row : Nat → Int32) (x1 : Int32) (s0 : Int32) (s1 : Int32) (s2 : Int32), f_X10_serves_b147 att row x1 s0 s1 s2 = some res → sf_W p l e rm_X10_serves s m args below meth c 0 0 Q 5 D A (mo_W h cI cJ row att fnd tape tmany sort begs tends word valu good bits size shts lent imag befo kept) [(0, .ref (h 0)), (1, .int x1)] 147 [.int s0, .int s1, .int s2, .ref (h 0)] := by
    intro row x1 s0 s1 s2 hf
    unfold f_X10_serves_b147 at hf
    obtain ⟨r23, hr23, hf⟩ := bd_s hf
    refine sw_callVw (pc' := 150) (As := [.int s2, .int s1, .int s0]) (rest := []) (w' := (mo_W h cI cJ r23 att fnd tape tmany sort begs tends word valu good bits size shts lent imag befo kept)) cx (k_X10_sets l D h cI cJ cK cS row att fnd tape tmany sort begs tends word valu good bits size shts lent imag befo kept s2 s1 s0 r23 hr23) pk_yX10_sets ml_RX10_66 ⟨rfl, rfl⟩ ⟨(Nat.le_of_ble_eq_true rfl), (Nat.le_of_ble_eq_true rfl)⟩ ⟨(Nat.le_of_ble_eq_true rfl), (Nat.le_of_ble_eq_true rfl)⟩ 0 rfl rfl rfl rfl (Nat.le_of_ble_eq_true rfl) rfl dX10_serves_147 rfl ?_
    refine sw_aload_n (pc' := 151) (i := 0) cx dX10_serves_150 rfl 0 rfl rfl ?_
    refine sw_iload_n (pc' := 152) (i := 1) cx dX10_serves_151 rfl 1 rfl rfl ?_
    refine sw_iconst (pc' := 153) (v := 4) cx dX10_serves_152 iconst_4 rfl ?_
    refine sw_iconst (pc' := 154) (v := 0) cx dX10_serves_153 iconst_0 rfl ?_
    obtain ⟨r24, hr24, hf⟩ := bd_s hf
    refine sw_callVw (pc' := 157) (As := [.int x1, .int (4 : Int32), .int (0 : Int32)]) (rest := []) (w' := (mo_W h cI cJ r24 att fnd tape tmany sort begs tends word valu good bits size shts lent imag befo kept)) cx (k_X10_sets l D h cI cJ cK cS r23 att fnd tape tmany sort begs tends word valu good bits size shts lent imag befo kept x1 (4 : Int32) (0 : Int32) r24 hr24) pk_yX10_sets ml_RX10_66 ⟨rfl, rfl⟩ ⟨(Nat.le_of_ble_eq_true rfl), (Nat.le_of_ble_eq_true rfl)⟩ ⟨(Nat.le_of_ble_eq_true rfl), (Nat.le_of_ble_eq_true rfl)⟩ 0 rfl rfl rfl rfl (Nat.le_of_ble_eq_true rfl) rfl dX10_serves_154 rfl ?_
    obtain rfl := Option.some.inj hf
    exact sw_vret cx hr hQ dX10_serves_157
  have B130 : ∀ (row : Nat → Int32) (x1 : Int32) (s0 : Int32) (s1 : Int32), f_X10_serves_b130 att row x1 s0 s1 = some res → sf_W p l e rm_X10_serves s m args below meth c 0 0 Q 5 D A (mo_W h cI cJ row att fnd tape tmany sort begs tends word valu good bits size shts lent imag befo kept) [(0, .ref (h 0)), (1, .int x1)] 130 [.int s0, .int s1] := by
    intro row x1 s0 s1 hf
    unfold f_X10_serves_b130 at hf
    refine sw_isub (pc' := 131) cx dX10_serves_130 rfl ?_
    refine sw_istore (pc' := 133) (i := 4) (lv' := [(4, .int (s1 - s0)), (0, .ref (h 0)), (1, .int x1)]) cx dX10_serves_131 (Nat.le_of_ble_eq_true rfl) rfl rfl ?_
    refine sw_aload_n (pc' := 134) (i := 0) cx dX10_serves_133 rfl 1 rfl rfl ?_
    refine sw_iload_n (pc' := 135) (i := 1) cx dX10_serves_134 rfl 2 rfl rfl ?_
    refine sw_iconst (pc' := 136) (v := 1) cx dX10_serves_135 iconst_1 rfl ?_
    refine sw_iload (pc' := 138) (i := 4) cx dX10_serves_136 0 rfl rfl ?_
    refine sw_if_ge (pc' := 141) (tgt := 145) cx dX10_serves_138 (by decide) rfl (fun c22 => ?_) (fun c22 => ?_)
    · replace hf := it_p c22 hf
      refine sw_iload (pc' := 147) (i := 4) cx dX10_serves_145 0 rfl rfl ?_
      exact sw_lv [1, 2] rfl (B147 row x1 (s1 - s0) (1 : Int32) x1 hf)
    · replace hf := it_n c22 hf
      refine sw_iconst (pc' := 142) (v := 0) cx dX10_serves_141 iconst_0 rfl ?_
      refine sw_goto (tgt := 147) cx dX10_serves_142 (by decide) ?_
      exact sw_lv [1, 2] rfl (B147 row x1 (0 : Int32) (1 : Int32) x1 hf)
  have B19 : ∀ (n : Nat), ∀ (row : Nat → Int32) (x1 : Int32), f_X10_serves_b19 att n row x1 = some res → sf_W p l e rm_X10_serves s m args below meth c 0 0 Q 5 D A (mo_W h cI cJ row att fnd tape tmany sort begs tends word valu good bits size shts lent imag befo kept) [(0, .ref (h 0)), (1, .int x1)] 19 [] := by
    intro n
    induction n with
    | zero => intro row x1 hf; rw [f_X10_serves_b19] at hf; cases hf
    | succ n ih =>
      intro row x1 hf
      rw [f_X10_serves_b19] at hf
      refine sw_aload_n (pc' := 20) (i := 0) cx dX10_serves_19 rfl 0 rfl rfl ?_
      refine sw_aload_n (pc' := 21) (i := 0) cx dX10_serves_20 rfl 0 rfl rfl ?_
      refine sw_iload_n (pc' := 22) (i := 1) cx dX10_serves_21 rfl 1 rfl rfl ?_
      refine sw_iconst (pc' := 23) (v := 2) cx dX10_serves_22 iconst_2 rfl ?_
      obtain ⟨r5, hr5, hf⟩ := bd_s hf
      refine sw_callVw (pc' := 26) (As := [.int x1, .int (2 : Int32)]) (rest := [.ref (h 0)]) (w' := (mo_W h cI cJ row att fnd tape tmany sort begs tends word valu good bits size shts lent imag befo kept)) cx (k_X10_fineOf l D h cI cJ cK cS row att fnd tape tmany sort begs tends word valu good bits size shts lent imag befo kept x1 (2 : Int32) r5 hr5) pk_yX10_fineOf ml_RX10_51 ⟨rfl, rfl⟩ ⟨(Nat.le_of_ble_eq_true rfl), (Nat.le_of_ble_eq_true rfl)⟩ ⟨(Nat.le_of_ble_eq_true rfl), (Nat.le_of_ble_eq_true rfl)⟩ 0 rfl rfl rfl rfl (Nat.le_of_ble_eq_true rfl) rfl dX10_serves_23 rfl ?_
      obtain ⟨r6, hr6, hf⟩ := bd_s hf
      refine sw_callVw (pc' := 29) (As := [.int r5]) (rest := []) (w' := (mo_W h cI cJ row att fnd tape tmany sort begs tends word valu good bits size shts lent imag befo kept)) cx (k_X10_isWhole l D h cI cJ cK cS row att fnd tape tmany sort begs tends word valu good bits size shts lent imag befo kept r5 r6 hr6) pk_yX10_isWhole ml_RX10_78 ⟨rfl, rfl⟩ ⟨(Nat.le_of_ble_eq_true rfl), (Nat.le_of_ble_eq_true rfl)⟩ ⟨(Nat.le_of_ble_eq_true rfl), (Nat.le_of_ble_eq_true rfl)⟩ 0 rfl rfl rfl rfl (Nat.le_of_ble_eq_true rfl) rfl dX10_serves_26 rfl ?_
      refine sw_if_eq (pc' := 32) (tgt := 59) cx dX10_serves_29 (by decide) rfl (fun c7 => ?_) (fun c7 => ?_)
      · replace hf := it_p c7 hf
        refine sw_aload_n (pc' := 60) (i := 0) cx dX10_serves_59 rfl 0 rfl rfl ?_
        refine sw_iload_n (pc' := 61) (i := 1) cx dX10_serves_60 rfl 1 rfl rfl ?_
        refine sw_iconst (pc' := 62) (v := 2) cx dX10_serves_61 iconst_2 rfl ?_
        obtain ⟨r8, hr8, hf⟩ := bd_s hf
        refine sw_callVw (pc' := 65) (As := [.int x1, .int (2 : Int32)]) (rest := []) (w' := (mo_W h cI cJ row att fnd tape tmany sort begs tends word valu good bits size shts lent imag befo kept)) cx (k_X10_fineOf l D h cI cJ cK cS row att fnd tape tmany sort begs tends word valu good bits size shts lent imag befo kept x1 (2 : Int32) r8 hr8) pk_yX10_fineOf ml_RX10_51 ⟨rfl, rfl⟩ ⟨(Nat.le_of_ble_eq_true rfl), (Nat.le_of_ble_eq_true rfl)⟩ ⟨(Nat.le_of_ble_eq_true rfl), (Nat.le_of_ble_eq_true rfl)⟩ 0 rfl rfl rfl rfl (Nat.le_of_ble_eq_true rfl) rfl dX10_serves_62 rfl ?_
        refine sw_istore_n (pc' := 66) (i := 2) (lv' := [(2, .int r8), (0, .ref (h 0)), (1, .int x1)]) cx dX10_serves_65 rfl (Nat.le_of_ble_eq_true rfl) rfl rfl ?_
        refine sw_aload_n (pc' := 67) (i := 0) cx dX10_serves_66 rfl 1 rfl rfl ?_
        refine sw_iload_n (pc' := 68) (i := 1) cx dX10_serves_67 rfl 2 rfl rfl ?_
        refine sw_iconst (pc' := 69) (v := 4) cx dX10_serves_68 iconst_4 rfl ?_
        obtain ⟨r9, hr9, hf⟩ := bd_s hf
        refine sw_callVw (pc' := 72) (As := [.int x1, .int (4 : Int32)]) (rest := []) (w' := (mo_W h cI cJ row att fnd tape tmany sort begs tends word valu good bits size shts lent imag befo kept)) cx (k_X10_fineOf l D h cI cJ cK cS row att fnd tape tmany sort begs tends word valu good bits size shts lent imag befo kept x1 (4 : Int32) r9 hr9) pk_yX10_fineOf ml_RX10_51 ⟨rfl, rfl⟩ ⟨(Nat.le_of_ble_eq_true rfl), (Nat.le_of_ble_eq_true rfl)⟩ ⟨(Nat.le_of_ble_eq_true rfl), (Nat.le_of_ble_eq_true rfl)⟩ 0 rfl rfl rfl rfl (Nat.le_of_ble_eq_true rfl) rfl dX10_serves_69 rfl ?_
        refine sw_aload_n (pc' := 73) (i := 0) cx dX10_serves_72 rfl 1 rfl rfl ?_
        refine sw_iload_n (pc' := 74) (i := 1) cx dX10_serves_73 rfl 2 rfl rfl ?_
        obtain ⟨r10, hr10, hf⟩ := bd_s hf
        refine sw_callVw (pc' := 77) (As := [.int x1]) (rest := [.int r9]) (w' := (mo_W h cI cJ row att fnd tape tmany sort begs tends word valu good bits size shts lent imag befo kept)) cx (k_X10_works l D h cI cJ cK cS row att fnd tape tmany sort begs tends word valu good bits size shts lent imag befo kept x1 r10 hr10) pk_yX10_works ml_RX10_84 ⟨rfl, rfl⟩ ⟨(Nat.le_of_ble_eq_true rfl), (Nat.le_of_ble_eq_true rfl)⟩ ⟨(Nat.le_of_ble_eq_true rfl), (Nat.le_of_ble_eq_true rfl)⟩ 0 rfl rfl rfl rfl (Nat.le_of_ble_eq_true rfl) rfl dX10_serves_74 rfl ?_
        refine sw_iadd (pc' := 78) cx dX10_serves_77 rfl ?_
        refine sw_istore_n (pc' := 79) (i := 3) (lv' := [(3, .int (r9 + r10)), (2, .int r8), (0, .ref (h 0)), (1, .int x1)]) cx dX10_serves_78 rfl (Nat.le_of_ble_eq_true rfl) rfl rfl ?_
        refine sw_aload_n (pc' := 80) (i := 0) cx dX10_serves_79 rfl 2 rfl rfl ?_
        refine sw_iload_n (pc' := 81) (i := 1) cx dX10_serves_80 rfl 3 rfl rfl ?_
        refine sw_iconst (pc' := 82) (v := 4) cx dX10_serves_81 iconst_4 rfl ?_
        refine sw_iload_n (pc' := 83) (i := 3) cx dX10_serves_82 rfl 0 rfl rfl ?_
        obtain ⟨r11, hr11, hf⟩ := bd_s hf
        refine sw_callVw (pc' := 86) (As := [.int x1, .int (4 : Int32), .int (r9 + r10)]) (rest := []) (w' := (mo_W h cI cJ r11 att fnd tape tmany sort begs tends word valu good bits size shts lent imag befo kept)) cx (k_X10_sets l D h cI cJ cK cS row att fnd tape tmany sort begs tends word valu good bits size shts lent imag befo kept x1 (4 : Int32) (r9 + r10) r11 hr11) pk_yX10_sets ml_RX10_66 ⟨rfl, rfl⟩ ⟨(Nat.le_of_ble_eq_true rfl), (Nat.le_of_ble_eq_true rfl)⟩ ⟨(Nat.le_of_ble_eq_true rfl), (Nat.le_of_ble_eq_true rfl)⟩ 0 rfl rfl rfl rfl (Nat.le_of_ble_eq_true rfl) rfl dX10_serves_83 rfl ?_
        refine sw_iload_n (pc' := 87) (i := 3) cx dX10_serves_86 rfl 0 rfl rfl ?_
        refine sw_aload_n (pc' := 88) (i := 0) cx dX10_serves_87 rfl 2 rfl rfl ?_
        refine sw_iconst (pc' := 89) (v := 5) cx dX10_serves_88 iconst_5 rfl ?_
        refine sw_iload_n (pc' := 90) (i := 2) cx dX10_serves_89 rfl 1 rfl rfl ?_
        refine sw_iadd (pc' := 91) cx dX10_serves_90 rfl ?_
        obtain ⟨r12, hr12, hf⟩ := bd_s hf
        refine sw_callVw (pc' := 94) (As := [.int ((5 : Int32) + r8)]) (rest := [.int (r9 + r10)]) (w' := (mo_W h cI cJ r11 att fnd tape tmany sort begs tends word valu good bits size shts lent imag befo kept)) cx (k_X10_its l D h cI cJ cK cS r11 att fnd tape tmany sort begs tends word valu good bits size shts lent imag befo kept ((5 : Int32) + r8) r12 hr12) pk_yX10_its ml_RX10_43 ⟨rfl, rfl⟩ ⟨(Nat.le_of_ble_eq_true rfl), (Nat.le_of_ble_eq_true rfl)⟩ ⟨(Nat.le_of_ble_eq_true rfl), (Nat.le_of_ble_eq_true rfl)⟩ 0 rfl rfl rfl rfl (Nat.le_of_ble_eq_true rfl) rfl dX10_serves_91 rfl ?_
        refine sw_icmp_lt (pc' := 97) (tgt := 157) cx dX10_serves_94 (by decide) rfl (fun c13 => ?_) (fun c13 => ?_)
        · replace hf := it_p c13 hf
          obtain rfl := Option.some.inj hf
          exact sw_vret cx hr hQ dX10_serves_157
        · replace hf := it_n c13 hf
          refine sw_aload_n (pc' := 98) (i := 0) cx dX10_serves_97 rfl 2 rfl rfl ?_
          refine sw_iload_n (pc' := 99) (i := 2) cx dX10_serves_98 rfl 1 rfl rfl ?_
          refine sw_aload_n (pc' := 100) (i := 0) cx dX10_serves_99 rfl 2 rfl rfl ?_
          refine sw_iload_n (pc' := 101) (i := 1) cx dX10_serves_100 rfl 3 rfl rfl ?_
          refine sw_iload_n (pc' := 102) (i := 2) cx dX10_serves_101 rfl 1 rfl rfl ?_
          obtain ⟨r14, hr14, hf⟩ := bd_s hf
          refine sw_callVw (pc' := 105) (As := [.int x1, .int r8]) (rest := [.int r8, .ref (h 0)]) (w' := (mo_W h cI cJ r11 att fnd tape tmany sort begs tends word valu good bits size shts lent imag befo kept)) cx (k_X10_highAt l D h cI cJ cK cS r11 att fnd tape tmany sort begs tends word valu good bits size shts lent imag befo kept x1 r8 r14 hr14) pk_yX10_highAt ml_RX10_87 ⟨rfl, rfl⟩ ⟨(Nat.le_of_ble_eq_true rfl), (Nat.le_of_ble_eq_true rfl)⟩ ⟨(Nat.le_of_ble_eq_true rfl), (Nat.le_of_ble_eq_true rfl)⟩ 0 rfl rfl rfl rfl (Nat.le_of_ble_eq_true rfl) rfl dX10_serves_102 rfl ?_
          refine sw_iload_n (pc' := 106) (i := 1) cx dX10_serves_105 rfl 3 rfl rfl ?_
          obtain ⟨r15, hr15, hf⟩ := bd_s hf
          refine sw_callVw (pc' := 109) (As := [.int r8, .int r14, .int x1]) (rest := []) (w' := (mo_W h cI cJ r15 att fnd tape tmany sort begs tends word valu good bits size shts lent imag befo kept)) cx (k_X10_cuts l D h cI cJ cK cS r11 att fnd tape tmany sort begs tends word valu good bits size shts lent imag befo kept r8 r14 x1 r15 hr15) pk_yX10_cuts ml_RX10_106 ⟨rfl, rfl⟩ ⟨(Nat.le_of_ble_eq_true rfl), (Nat.le_of_ble_eq_true rfl)⟩ ⟨(Nat.le_of_ble_eq_true rfl), (Nat.le_of_ble_eq_true rfl)⟩ 0 rfl rfl rfl rfl (Nat.le_of_ble_eq_true rfl) rfl dX10_serves_106 rfl ?_
          refine sw_aload_n (pc' := 110) (i := 0) cx dX10_serves_109 rfl 2 rfl rfl ?_
          refine sw_iload_n (pc' := 111) (i := 1) cx dX10_serves_110 rfl 3 rfl rfl ?_
          refine sw_iconst (pc' := 112) (v := 1) cx dX10_serves_111 iconst_1 rfl ?_
          obtain ⟨r16, hr16, hf⟩ := bd_s hf
          refine sw_callVw (pc' := 115) (As := [.int x1, .int (1 : Int32)]) (rest := []) (w' := (mo_W h cI cJ r15 att fnd tape tmany sort begs tends word valu good bits size shts lent imag befo kept)) cx (k_X10_fineOf l D h cI cJ cK cS r15 att fnd tape tmany sort begs tends word valu good bits size shts lent imag befo kept x1 (1 : Int32) r16 hr16) pk_yX10_fineOf ml_RX10_51 ⟨rfl, rfl⟩ ⟨(Nat.le_of_ble_eq_true rfl), (Nat.le_of_ble_eq_true rfl)⟩ ⟨(Nat.le_of_ble_eq_true rfl), (Nat.le_of_ble_eq_true rfl)⟩ 0 rfl rfl rfl rfl (Nat.le_of_ble_eq_true rfl) rfl dX10_serves_112 rfl ?_
          refine sw_aload_n (pc' := 116) (i := 0) cx dX10_serves_115 rfl 2 rfl rfl ?_
          refine sw_iload_n (pc' := 117) (i := 1) cx dX10_serves_116 rfl 3 rfl rfl ?_
          refine sw_iconst (pc' := 118) (v := 0) cx dX10_serves_117 iconst_0 rfl ?_
          obtain ⟨r17, hr17, hf⟩ := bd_s hf
          refine sw_callVw (pc' := 121) (As := [.int x1, .int (0 : Int32)]) (rest := [.int r16]) (w' := (mo_W h cI cJ r15 att fnd tape tmany sort begs tends word valu good bits size shts lent imag befo kept)) cx (k_X10_fineOf l D h cI cJ cK cS r15 att fnd tape tmany sort begs tends word valu good bits size shts lent imag befo kept x1 (0 : Int32) r17 hr17) pk_yX10_fineOf ml_RX10_51 ⟨rfl, rfl⟩ ⟨(Nat.le_of_ble_eq_true rfl), (Nat.le_of_ble_eq_true rfl)⟩ ⟨(Nat.le_of_ble_eq_true rfl), (Nat.le_of_ble_eq_true rfl)⟩ 0 rfl rfl rfl rfl (Nat.le_of_ble_eq_true rfl) rfl dX10_serves_118 rfl ?_
          refine sw_iconst (pc' := 122) (v := 4) cx dX10_serves_121 iconst_4 rfl ?_
          refine sw_icmp_ne (pc' := 125) (tgt := 129) cx dX10_serves_122 (by decide) rfl (fun c18 => ?_) (fun c18 => ?_)
          · replace hf := it_n c18 hf
            refine sw_iconst (pc' := 130) (v := 1) cx dX10_serves_129 iconst_1 rfl ?_
            exact sw_lv [2, 3] rfl (B130 r15 x1 (1 : Int32) r16 hf)
          · replace hf := it_p c18 hf
            refine sw_iconst (pc' := 126) (v := 2) cx dX10_serves_125 iconst_2 rfl ?_
            refine sw_goto (tgt := 130) cx dX10_serves_126 (by decide) ?_
            exact sw_lv [2, 3] rfl (B130 r15 x1 (2 : Int32) r16 hf)
      · replace hf := it_n c7 hf
        refine sw_aload_n (pc' := 33) (i := 0) cx dX10_serves_32 rfl 0 rfl rfl ?_
        refine sw_iload_n (pc' := 34) (i := 1) cx dX10_serves_33 rfl 1 rfl rfl ?_
        refine sw_iconst (pc' := 35) (v := 2) cx dX10_serves_34 iconst_2 rfl ?_
        refine sw_aload_n (pc' := 36) (i := 0) cx dX10_serves_35 rfl 0 rfl rfl ?_
        refine sw_iload_n (pc' := 37) (i := 1) cx dX10_serves_36 rfl 1 rfl rfl ?_
        refine sw_iconst (pc' := 38) (v := 2) cx dX10_serves_37 iconst_2 rfl ?_
        obtain ⟨r19, hr19, hf⟩ := bd_s hf
        refine sw_callVw (pc' := 41) (As := [.int x1, .int (2 : Int32)]) (rest := [.int (2 : Int32), .int x1, .ref (h 0)]) (w' := (mo_W h cI cJ row att fnd tape tmany sort begs tends word valu good bits size shts lent imag befo kept)) cx (k_X10_fineOf l D h cI cJ cK cS row att fnd tape tmany sort begs tends word valu good bits size shts lent imag befo kept x1 (2 : Int32) r19 hr19) pk_yX10_fineOf ml_RX10_51 ⟨rfl, rfl⟩ ⟨(Nat.le_of_ble_eq_true rfl), (Nat.le_of_ble_eq_true rfl)⟩ ⟨(Nat.le_of_ble_eq_true rfl), (Nat.le_of_ble_eq_true rfl)⟩ 0 rfl rfl rfl rfl (Nat.le_of_ble_eq_true rfl) rfl dX10_serves_38 rfl ?_
        refine sw_iconst (pc' := 42) (v := 1) cx dX10_serves_41 iconst_1 rfl ?_
        refine sw_iadd (pc' := 43) cx dX10_serves_42 rfl ?_
        refine sw_bipush (pc' := 45) (v := 40) cx dX10_serves_43 bipush_40 rfl ?_
        refine sw_irem (pc' := 46) cx dX10_serves_45 (by decide +kernel) rfl ?_
        obtain ⟨r20, hr20, hf⟩ := bd_s hf
        refine sw_callVw (pc' := 49) (As := [.int x1, .int (2 : Int32), .int ((r19 + (1 : Int32)) - (r19 + (1 : Int32)) / (40 : Int32) * (40 : Int32))]) (rest := []) (w' := (mo_W h cI cJ r20 att fnd tape tmany sort begs tends word valu good bits size shts lent imag befo kept)) cx (k_X10_sets l D h cI cJ cK cS row att fnd tape tmany sort begs tends word valu good bits size shts lent imag befo kept x1 (2 : Int32) ((r19 + (1 : Int32)) - (r19 + (1 : Int32)) / (40 : Int32) * (40 : Int32)) r20 hr20) pk_yX10_sets ml_RX10_66 ⟨rfl, rfl⟩ ⟨(Nat.le_of_ble_eq_true rfl), (Nat.le_of_ble_eq_true rfl)⟩ ⟨(Nat.le_of_ble_eq_true rfl), (Nat.le_of_ble_eq_true rfl)⟩ 0 rfl rfl rfl rfl (Nat.le_of_ble_eq_true rfl) rfl dX10_serves_46 rfl ?_
        refine sw_aload_n (pc' := 50) (i := 0) cx dX10_serves_49 rfl 0 rfl rfl ?_
        refine sw_iload_n (pc' := 51) (i := 1) cx dX10_serves_50 rfl 1 rfl rfl ?_
        refine sw_iconst (pc' := 52) (v := 4) cx dX10_serves_51 iconst_4 rfl ?_
        refine sw_iconst (pc' := 53) (v := 0) cx dX10_serves_52 iconst_0 rfl ?_
        obtain ⟨r21, hr21, hf⟩ := bd_s hf
        refine sw_callVw (pc' := 56) (As := [.int x1, .int (4 : Int32), .int (0 : Int32)]) (rest := []) (w' := (mo_W h cI cJ r21 att fnd tape tmany sort begs tends word valu good bits size shts lent imag befo kept)) cx (k_X10_sets l D h cI cJ cK cS r20 att fnd tape tmany sort begs tends word valu good bits size shts lent imag befo kept x1 (4 : Int32) (0 : Int32) r21 hr21) pk_yX10_sets ml_RX10_66 ⟨rfl, rfl⟩ ⟨(Nat.le_of_ble_eq_true rfl), (Nat.le_of_ble_eq_true rfl)⟩ ⟨(Nat.le_of_ble_eq_true rfl), (Nat.le_of_ble_eq_true rfl)⟩ 0 rfl rfl rfl rfl (Nat.le_of_ble_eq_true rfl) rfl dX10_serves_53 rfl ?_
        refine sw_goto (tgt := 19) cx dX10_serves_56 (by decide) ?_
        exact sw_lv [0, 1] rfl (ih r21 x1 hf)
  unfold f_X10_serves at hf
  refine sw_aload_n (pc' := 1) (i := 0) cx dX10_serves_0 rfl 0 rfl rfl ?_
  refine sw_iload_n (pc' := 2) (i := 1) cx dX10_serves_1 rfl 1 rfl rfl ?_
  refine sw_iconst (pc' := 3) (v := 1) cx dX10_serves_2 iconst_1 rfl ?_
  obtain ⟨r1, hr1, hf⟩ := bd_s hf
  refine sw_callVw (pc' := 6) (As := [.int a0, .int (1 : Int32)]) (rest := []) (w' := (mo_W h cI cJ row att fnd tape tmany sort begs tends word valu good bits size shts lent imag befo kept)) cx (k_X10_fineOf l D h cI cJ cK cS row att fnd tape tmany sort begs tends word valu good bits size shts lent imag befo kept a0 (1 : Int32) r1 hr1) pk_yX10_fineOf ml_RX10_51 ⟨rfl, rfl⟩ ⟨(Nat.le_of_ble_eq_true rfl), (Nat.le_of_ble_eq_true rfl)⟩ ⟨(Nat.le_of_ble_eq_true rfl), (Nat.le_of_ble_eq_true rfl)⟩ 0 rfl rfl rfl rfl (Nat.le_of_ble_eq_true rfl) rfl dX10_serves_3 rfl ?_
  refine sw_if_eq (pc' := 9) (tgt := 18) cx dX10_serves_6 (by decide) rfl (fun c2 => ?_) (fun c2 => ?_)
  · replace hf := it_p c2 hf
    obtain rfl := Option.some.inj hf
    exact sw_vret cx hr hQ dX10_serves_18
  · replace hf := it_n c2 hf
    refine sw_aload_n (pc' := 10) (i := 0) cx dX10_serves_9 rfl 0 rfl rfl ?_
    obtain ⟨r3, hr3, hf⟩ := bd_s hf
    refine sw_callVw (pc' := 13) (As := []) (rest := []) (w' := (mo_W h cI cJ row att fnd tape tmany sort begs tends word valu good bits size shts lent imag befo kept)) cx (k_X10_wholes l D h cI cJ cK cS row att fnd tape tmany sort begs tends word valu good bits size shts lent imag befo kept  r3 hr3) pk_yX10_wholes ml_RX10_55 ⟨rfl, rfl⟩ ⟨(Nat.le_of_ble_eq_true rfl), (Nat.le_of_ble_eq_true rfl)⟩ ⟨(Nat.le_of_ble_eq_true rfl), (Nat.le_of_ble_eq_true rfl)⟩ 0 rfl rfl rfl rfl (Nat.le_of_ble_eq_true rfl) rfl dX10_serves_10 rfl ?_
    refine sw_bipush (pc' := 15) (v := 40) cx dX10_serves_13 bipush_40 rfl ?_
    refine sw_icmp_ne (pc' := 18) (tgt := 19) cx dX10_serves_15 (by decide) rfl (fun c4 => ?_) (fun c4 => ?_)
    · replace hf := it_n c4 hf
      exact sw_lv [0, 1] rfl (B19 1000 row a0 hf)
    · replace hf := it_p c4 hf
      obtain rfl := Option.some.inj hf
      exact sw_vret cx hr hQ dX10_serves_18
abbrev rm_X10_freezes : Room := ({ frames := 2, cells := 0, slots := 0, locals := 42 } : Room)
set_option maxRecDepth 100000 in
set_option maxHeartbeats 4000000 in
theorem k_X10_freezes (l : Launch) (D : sf_D) (h : Nat → Nat) (cI cJ cK cS : ClassId) (row : Nat → Int32) (att : Int32) (fnd : Nat → Int32) (tape : Nat → Int32) (tmany : Int32) (sort : Int32) (begs : Int32) (tends : Int32) (word : Int64) (valu : Int32) (good : Int32) (bits : Nat → Int32) (size : Nat → Int32) (shts : Nat → Int64) (lent : Nat → Int64) (imag : Nat → Int32) (befo : Nat → Int32) (kept : Int32)  (res : (Nat → Int32)) (hf : f_X10_freezes row att = some res) : sf_Ct l yX10_freezes cX10_freezes 3 none rm_X10_freezes D (sf_ty cI cJ cK cS) [.ref (h 0)] (mo_W h cI cJ row att fnd tape tmany sort begs tends word valu good bits size shts lent imag befo kept) none (mo_W h cI cJ res att fnd tape tmany sort begs tends word valu good bits size shts lent imag befo kept) := by
  refine sf_met (lv := [(0, .ref (h 0))]) (by decide) (Nat.le_of_ble_eq_true rfl) rfl ?_
  intro p e s m args below meth c A Q cx hr hQ
  have cx : sf_Cx p m meth c cX10_freezes 3 s args RX10 D (sf_ty cI cJ cK cS) A := cx
  have B61 : ∀ (kk : (Nat → Int32) → Int32 → Option ((Nat → Int32))), (∀ (row : Nat → Int32) (x1 : Int32), kk row x1 = some res → sf_W p l e rm_X10_freezes s m args below meth c 0 0 Q 3 D A (mo_W h cI cJ row att fnd tape tmany sort begs tends word valu good bits size shts lent imag befo kept) [(0, .ref (h 0)), (1, .int x1)] 2 []) → ∀ (row : Nat → Int32) (x1 : Int32), f_X10_freezes_b61 att kk row x1 = some res → sf_W p l e rm_X10_freezes s m args below meth c 0 0 Q 3 D A (mo_W h cI cJ row att fnd tape tmany sort begs tends word valu good bits size shts lent imag befo kept) [(0, .ref (h 0)), (1, .int x1)] 61 [] := by
    intro kk hkk row x1 hf
    unfold f_X10_freezes_b61 at hf
    refine sw_iinc (pc' := 64) (v := (x1 + (1 : Int32))) (lv' := [(1, .int (x1 + (1 : Int32))), (0, .ref (h 0))]) cx dX10_freezes_61 1 rfl rfl (Nat.le_of_ble_eq_true rfl) rfl rfl ?_
    refine sw_goto (tgt := 2) cx dX10_freezes_64 (by decide) ?_
    exact sw_lv [1, 0] rfl (hkk row (x1 + (1 : Int32)) hf)
  have B2 : ∀ (n : Nat), ∀ (row : Nat → Int32) (x1 : Int32), f_X10_freezes_b2 att n row x1 = some res → sf_W p l e rm_X10_freezes s m args below meth c 0 0 Q 3 D A (mo_W h cI cJ row att fnd tape tmany sort begs tends word valu good bits size shts lent imag befo kept) [(0, .ref (h 0)), (1, .int x1)] 2 [] := by
    intro n
    induction n with
    | zero => intro row x1 hf; rw [f_X10_freezes_b2] at hf; cases hf
    | succ n ih =>
      intro row x1 hf
      rw [f_X10_freezes_b2] at hf
      refine sw_iload_n (pc' := 3) (i := 1) cx dX10_freezes_2 rfl 1 rfl rfl ?_
      refine sw_bipush (pc' := 5) (v := 40) cx dX10_freezes_3 bipush_40 rfl ?_
      refine sw_icmp_ge (pc' := 8) (tgt := 67) cx dX10_freezes_5 (by decide) rfl (fun c1 => ?_) (fun c1 => ?_)
      · replace hf := it_p c1 hf
        obtain rfl := Option.some.inj hf
        exact sw_vret cx hr hQ dX10_freezes_67
      · replace hf := it_n c1 hf
        refine sw_aload_n (pc' := 9) (i := 0) cx dX10_freezes_8 rfl 0 rfl rfl ?_
        refine sw_iload_n (pc' := 10) (i := 1) cx dX10_freezes_9 rfl 1 rfl rfl ?_
        obtain ⟨r2, hr2, hf⟩ := bd_s hf
        refine sw_callVw (pc' := 13) (As := [.int x1]) (rest := []) (w' := (mo_W h cI cJ row att fnd tape tmany sort begs tends word valu good bits size shts lent imag befo kept)) cx (k_X10_isWhole l D h cI cJ cK cS row att fnd tape tmany sort begs tends word valu good bits size shts lent imag befo kept x1 r2 hr2) pk_yX10_isWhole ml_RX10_78 ⟨rfl, rfl⟩ ⟨(Nat.le_of_ble_eq_true rfl), (Nat.le_of_ble_eq_true rfl)⟩ ⟨(Nat.le_of_ble_eq_true rfl), (Nat.le_of_ble_eq_true rfl)⟩ 0 rfl rfl rfl rfl (Nat.le_of_ble_eq_true rfl) rfl dX10_freezes_10 rfl ?_
        refine sw_if_eq (pc' := 16) (tgt := 61) cx dX10_freezes_13 (by decide) rfl (fun c3 => ?_) (fun c3 => ?_)
        · replace hf := it_p c3 hf
          exact sw_lv [0, 1] rfl (B61 _ ih row x1 hf)
        · replace hf := it_n c3 hf
          refine sw_aload_n (pc' := 17) (i := 0) cx dX10_freezes_16 rfl 0 rfl rfl ?_
          refine sw_iconst (pc' := 18) (v := 3) cx dX10_freezes_17 iconst_3 rfl ?_
          obtain ⟨r4, hr4, hf⟩ := bd_s hf
          refine sw_callVw (pc' := 21) (As := [.int (3 : Int32)]) (rest := []) (w' := (mo_W h cI cJ row att fnd tape tmany sort begs tends word valu good bits size shts lent imag befo kept)) cx (k_X10_its l D h cI cJ cK cS row att fnd tape tmany sort begs tends word valu good bits size shts lent imag befo kept (3 : Int32) r4 hr4) pk_yX10_its ml_RX10_43 ⟨rfl, rfl⟩ ⟨(Nat.le_of_ble_eq_true rfl), (Nat.le_of_ble_eq_true rfl)⟩ ⟨(Nat.le_of_ble_eq_true rfl), (Nat.le_of_ble_eq_true rfl)⟩ 0 rfl rfl rfl rfl (Nat.le_of_ble_eq_true rfl) rfl dX10_freezes_18 rfl ?_
          refine sw_ldc (pc' := 23) cx ct_RX10_125 dX10_freezes_21 rfl ?_
          refine sw_imul (pc' := 24) cx dX10_freezes_23 rfl ?_
          refine sw_sipush (pc' := 27) (v := 12345) cx dX10_freezes_24 sipush_12345 rfl ?_
          refine sw_iadd (pc' := 28) cx dX10_freezes_27 rfl ?_
          refine sw_istore_n (pc' := 29) (i := 2) (lv' := [(2, .int ((r4 * (1103515245 : Int32)) + (12345 : Int32))), (0, .ref (h 0)), (1, .int x1)]) cx dX10_freezes_28 rfl (Nat.le_of_ble_eq_true rfl) rfl rfl ?_
          refine sw_aload_n (pc' := 30) (i := 0) cx dX10_freezes_29 rfl 1 rfl rfl ?_
          refine sw_get (pc' := 33) cx in_X10 0 rfl rfl 0 (Nat.le_of_ble_eq_true rfl) fl_RX10_7 rfl dX10_freezes_30 rfl ?_
          refine sw_aload_n (pc' := 34) (i := 0) cx dX10_freezes_33 rfl 1 rfl rfl ?_
          refine sw_get (pc' := 37) cx in_X10 0 rfl rfl 1 (Nat.le_of_ble_eq_true rfl) fl_RX10_39 rfl dX10_freezes_34 rfl ?_
          refine sw_iconst (pc' := 38) (v := 3) cx dX10_freezes_37 iconst_3 rfl ?_
          refine sw_iadd (pc' := 39) cx dX10_freezes_38 rfl ?_
          refine sw_iload_n (pc' := 40) (i := 2) cx dX10_freezes_39 rfl 0 rfl rfl ?_
          obtain ⟨h5, hf⟩ := gx_s hf
          refine sw_iast (pc' := 41) (ws' := (mo_W h cI cJ (upd row ((att + (3 : Int32))).toNatClampNeg ((r4 * (1103515245 : Int32)) + (12345 : Int32))) att fnd tape tmany sort begs tends word valu good bits size shts lent imag befo kept)) cx 1 0 rfl rfl h5 dX10_freezes_40 rfl rfl ?_
          refine sw_iload_n (pc' := 42) (i := 2) cx dX10_freezes_41 rfl 0 rfl rfl ?_
          refine sw_bipush (pc' := 44) (v := 8) cx dX10_freezes_42 bipush_8 rfl ?_
          refine sw_iushr (pc' := 45) cx dX10_freezes_44 rfl ?_
          refine sw_bipush (pc' := 47) (v := 10) cx dX10_freezes_45 bipush_10 rfl ?_
          refine sw_irem (pc' := 48) cx dX10_freezes_47 (by decide +kernel) rfl ?_
          refine sw_aload_n (pc' := 49) (i := 0) cx dX10_freezes_48 rfl 1 rfl rfl ?_
          refine sw_iconst (pc' := 50) (v := 1) cx dX10_freezes_49 iconst_1 rfl ?_
          obtain ⟨r6, hr6, hf⟩ := bd_s hf
          refine sw_callVw (pc' := 53) (As := [.int (1 : Int32)]) (rest := [.int ((((((r4 * (1103515245 : Int32)) + (12345 : Int32))).toUInt32 >>> (((8 : Int32)).toUInt32 &&& Int32.toUInt32 31)).toInt32) - (((((r4 * (1103515245 : Int32)) + (12345 : Int32))).toUInt32 >>> (((8 : Int32)).toUInt32 &&& Int32.toUInt32 31)).toInt32) / (10 : Int32) * (10 : Int32))]) (w' := (mo_W h cI cJ (upd row ((att + (3 : Int32))).toNatClampNeg ((r4 * (1103515245 : Int32)) + (12345 : Int32))) att fnd tape tmany sort begs tends word valu good bits size shts lent imag befo kept)) cx (k_X10_its l D h cI cJ cK cS (upd row ((att + (3 : Int32))).toNatClampNeg ((r4 * (1103515245 : Int32)) + (12345 : Int32))) att fnd tape tmany sort begs tends word valu good bits size shts lent imag befo kept (1 : Int32) r6 hr6) pk_yX10_its ml_RX10_43 ⟨rfl, rfl⟩ ⟨(Nat.le_of_ble_eq_true rfl), (Nat.le_of_ble_eq_true rfl)⟩ ⟨(Nat.le_of_ble_eq_true rfl), (Nat.le_of_ble_eq_true rfl)⟩ 0 rfl rfl rfl rfl (Nat.le_of_ble_eq_true rfl) rfl dX10_freezes_50 rfl ?_
          refine sw_icmp_ge (pc' := 56) (tgt := 61) cx dX10_freezes_53 (by decide) rfl (fun c7 => ?_) (fun c7 => ?_)
          · replace hf := it_p c7 hf
            exact sw_lv [1, 2] rfl (B61 _ ih (upd row ((att + (3 : Int32))).toNatClampNeg ((r4 * (1103515245 : Int32)) + (12345 : Int32))) x1 hf)
          · replace hf := it_n c7 hf
            refine sw_aload_n (pc' := 57) (i := 0) cx dX10_freezes_56 rfl 1 rfl rfl ?_
            refine sw_iload_n (pc' := 58) (i := 1) cx dX10_freezes_57 rfl 2 rfl rfl ?_
            obtain ⟨r8, hr8, hf⟩ := bd_s hf
            refine sw_callVw (pc' := 61) (As := [.int x1]) (rest := []) (w' := (mo_W h cI cJ r8 att fnd tape tmany sort begs tends word valu good bits size shts lent imag befo kept)) cx (k_X10_breaks l D h cI cJ cK cS (upd row ((att + (3 : Int32))).toNatClampNeg ((r4 * (1103515245 : Int32)) + (12345 : Int32))) att fnd tape tmany sort begs tends word valu good bits size shts lent imag befo kept x1 r8 hr8) pk_yX10_breaks ml_RX10_109 ⟨rfl, rfl⟩ ⟨(Nat.le_of_ble_eq_true rfl), (Nat.le_of_ble_eq_true rfl)⟩ ⟨(Nat.le_of_ble_eq_true rfl), (Nat.le_of_ble_eq_true rfl)⟩ 0 rfl rfl rfl rfl (Nat.le_of_ble_eq_true rfl) rfl dX10_freezes_58 rfl ?_
            exact sw_lv [1, 2] rfl (B61 _ ih r8 x1 hf)
  unfold f_X10_freezes at hf
  refine sw_iconst (pc' := 1) (v := 0) cx dX10_freezes_0 iconst_0 rfl ?_
  refine sw_istore_n (pc' := 2) (i := 1) (lv' := [(1, .int (0 : Int32)), (0, .ref (h 0))]) cx dX10_freezes_1 rfl (Nat.le_of_ble_eq_true rfl) rfl rfl ?_
  exact sw_lv [1, 0] rfl (B2 1000 row (0 : Int32) hf)
abbrev rm_X10_yearGoes : Room := ({ frames := 4, cells := 0, slots := 0, locals := 89 } : Room)
set_option maxRecDepth 100000 in
set_option maxHeartbeats 4000000 in
theorem k_X10_yearGoes (l : Launch) (D : sf_D) (h : Nat → Nat) (cI cJ cK cS : ClassId) (row : Nat → Int32) (att : Int32) (fnd : Nat → Int32) (tape : Nat → Int32) (tmany : Int32) (sort : Int32) (begs : Int32) (tends : Int32) (word : Int64) (valu : Int32) (good : Int32) (bits : Nat → Int32) (size : Nat → Int32) (shts : Nat → Int64) (lent : Nat → Int64) (imag : Nat → Int32) (befo : Nat → Int32) (kept : Int32)  (res : (Nat → Int32)) (hf : f_X10_yearGoes row att = some res) : sf_Ct l yX10_yearGoes cX10_yearGoes 2 none rm_X10_yearGoes D (sf_ty cI cJ cK cS) [.ref (h 0)] (mo_W h cI cJ row att fnd tape tmany sort begs tends word valu good bits size shts lent imag befo kept) none (mo_W h cI cJ res att fnd tape tmany sort begs tends word valu good bits size shts lent imag befo kept) := by
  refine sf_met (lv := [(0, .ref (h 0))]) (by decide) (Nat.le_of_ble_eq_true rfl) rfl ?_
  intro p e s m args below meth c A Q cx hr hQ
  have cx : sf_Cx p m meth c cX10_yearGoes 2 s args RX10 D (sf_ty cI cJ cK cS) A := cx
  have B34 : ∀ (row : Nat → Int32), f_X10_yearGoes_b34 att row = some res → sf_W p l e rm_X10_yearGoes s m args below meth c 0 0 Q 2 D A (mo_W h cI cJ row att fnd tape tmany sort begs tends word valu good bits size shts lent imag befo kept) [(0, .ref (h 0))] 34 [] := by
    intro row hf
    unfold f_X10_yearGoes_b34 at hf
    refine sw_aload_n (pc' := 35) (i := 0) cx dX10_yearGoes_34 rfl 0 rfl rfl ?_
    refine sw_get (pc' := 38) cx in_X10 0 rfl rfl 0 (Nat.le_of_ble_eq_true rfl) fl_RX10_7 rfl dX10_yearGoes_35 rfl ?_
    refine sw_aload_n (pc' := 39) (i := 0) cx dX10_yearGoes_38 rfl 0 rfl rfl ?_
    refine sw_get (pc' := 42) cx in_X10 0 rfl rfl 1 (Nat.le_of_ble_eq_true rfl) fl_RX10_39 rfl dX10_yearGoes_39 rfl ?_
    refine sw_iconst (pc' := 43) (v := 0) cx dX10_yearGoes_42 iconst_0 rfl ?_
    refine sw_iadd (pc' := 44) cx dX10_yearGoes_43 rfl ?_
    refine sw_dup2 (pc' := 45) cx dX10_yearGoes_44 rfl rfl rfl ?_
    obtain ⟨h7, hf⟩ := gx_s hf
    refine sw_iald (pc' := 46) cx 1 0 rfl rfl h7 dX10_yearGoes_45 rfl ?_
    refine sw_iconst (pc' := 47) (v := 1) cx dX10_yearGoes_46 iconst_1 rfl ?_
    refine sw_iadd (pc' := 48) cx dX10_yearGoes_47 rfl ?_
    obtain ⟨h8, hf⟩ := gx_s hf
    refine sw_iast (pc' := 49) (ws' := (mo_W h cI cJ (upd row ((att + (0 : Int32))).toNatClampNeg ((row ((att + (0 : Int32))).toNatClampNeg) + (1 : Int32))) att fnd tape tmany sort begs tends word valu good bits size shts lent imag befo kept)) cx 1 0 rfl rfl h8 dX10_yearGoes_48 rfl rfl ?_
    obtain rfl := Option.some.inj hf
    exact sw_vret cx hr hQ dX10_yearGoes_49
  have B2 : ∀ (n : Nat), ∀ (row : Nat → Int32) (x1 : Int32), f_X10_yearGoes_b2 att n row x1 = some res → sf_W p l e rm_X10_yearGoes s m args below meth c 0 0 Q 2 D A (mo_W h cI cJ row att fnd tape tmany sort begs tends word valu good bits size shts lent imag befo kept) [(0, .ref (h 0)), (1, .int x1)] 2 [] := by
    intro n
    induction n with
    | zero => intro row x1 hf; rw [f_X10_yearGoes_b2] at hf; cases hf
    | succ n ih =>
      intro row x1 hf
      rw [f_X10_yearGoes_b2] at hf
      refine sw_iload_n (pc' := 3) (i := 1) cx dX10_yearGoes_2 rfl 1 rfl rfl ?_
      refine sw_aload_n (pc' := 4) (i := 0) cx dX10_yearGoes_3 rfl 0 rfl rfl ?_
      refine sw_iconst (pc' := 5) (v := 4) cx dX10_yearGoes_4 iconst_4 rfl ?_
      obtain ⟨r1, hr1, hf⟩ := bd_s hf
      refine sw_callVw (pc' := 8) (As := [.int (4 : Int32)]) (rest := [.int x1]) (w' := (mo_W h cI cJ row att fnd tape tmany sort begs tends word valu good bits size shts lent imag befo kept)) cx (k_X10_its l D h cI cJ cK cS row att fnd tape tmany sort begs tends word valu good bits size shts lent imag befo kept (4 : Int32) r1 hr1) pk_yX10_its ml_RX10_43 ⟨rfl, rfl⟩ ⟨(Nat.le_of_ble_eq_true rfl), (Nat.le_of_ble_eq_true rfl)⟩ ⟨(Nat.le_of_ble_eq_true rfl), (Nat.le_of_ble_eq_true rfl)⟩ 0 rfl rfl rfl rfl (Nat.le_of_ble_eq_true rfl) rfl dX10_yearGoes_5 rfl ?_
      refine sw_icmp_ge (pc' := 11) (tgt := 22) cx dX10_yearGoes_8 (by decide) rfl (fun c2 => ?_) (fun c2 => ?_)
      · replace hf := it_p c2 hf
        refine sw_aload_n (pc' := 23) (i := 0) cx dX10_yearGoes_22 rfl 0 rfl rfl ?_
        refine sw_iconst (pc' := 24) (v := 1) cx dX10_yearGoes_23 iconst_1 rfl ?_
        obtain ⟨r3, hr3, hf⟩ := bd_s hf
        refine sw_callVw (pc' := 27) (As := [.int (1 : Int32)]) (rest := []) (w' := (mo_W h cI cJ row att fnd tape tmany sort begs tends word valu good bits size shts lent imag befo kept)) cx (k_X10_its l D h cI cJ cK cS row att fnd tape tmany sort begs tends word valu good bits size shts lent imag befo kept (1 : Int32) r3 hr3) pk_yX10_its ml_RX10_43 ⟨rfl, rfl⟩ ⟨(Nat.le_of_ble_eq_true rfl), (Nat.le_of_ble_eq_true rfl)⟩ ⟨(Nat.le_of_ble_eq_true rfl), (Nat.le_of_ble_eq_true rfl)⟩ 0 rfl rfl rfl rfl (Nat.le_of_ble_eq_true rfl) rfl dX10_yearGoes_24 rfl ?_
        refine sw_if_le (pc' := 30) (tgt := 34) cx dX10_yearGoes_27 (by decide) rfl (fun c4 => ?_) (fun c4 => ?_)
        · replace hf := it_p c4 hf
          exact sw_lv [0] rfl (B34 row hf)
        · replace hf := it_n c4 hf
          refine sw_aload_n (pc' := 31) (i := 0) cx dX10_yearGoes_30 rfl 0 rfl rfl ?_
          obtain ⟨r5, hr5, hf⟩ := bd_s hf
          refine sw_callVw (pc' := 34) (As := []) (rest := []) (w' := (mo_W h cI cJ r5 att fnd tape tmany sort begs tends word valu good bits size shts lent imag befo kept)) cx (k_X10_freezes l D h cI cJ cK cS row att fnd tape tmany sort begs tends word valu good bits size shts lent imag befo kept  r5 hr5) pk_yX10_freezes ml_RX10_129 ⟨rfl, rfl⟩ ⟨(Nat.le_of_ble_eq_true rfl), (Nat.le_of_ble_eq_true rfl)⟩ ⟨(Nat.le_of_ble_eq_true rfl), (Nat.le_of_ble_eq_true rfl)⟩ 0 rfl rfl rfl rfl (Nat.le_of_ble_eq_true rfl) rfl dX10_yearGoes_31 rfl ?_
          exact sw_lv [0] rfl (B34 r5 hf)
      · replace hf := it_n c2 hf
        refine sw_aload_n (pc' := 12) (i := 0) cx dX10_yearGoes_11 rfl 0 rfl rfl ?_
        refine sw_iload_n (pc' := 13) (i := 1) cx dX10_yearGoes_12 rfl 1 rfl rfl ?_
        obtain ⟨r6, hr6, hf⟩ := bd_s hf
        refine sw_callVw (pc' := 16) (As := [.int x1]) (rest := []) (w' := (mo_W h cI cJ r6 att fnd tape tmany sort begs tends word valu good bits size shts lent imag befo kept)) cx (k_X10_serves l D h cI cJ cK cS row att fnd tape tmany sort begs tends word valu good bits size shts lent imag befo kept x1 r6 hr6) pk_yX10_serves ml_RX10_126 ⟨rfl, rfl⟩ ⟨(Nat.le_of_ble_eq_true rfl), (Nat.le_of_ble_eq_true rfl)⟩ ⟨(Nat.le_of_ble_eq_true rfl), (Nat.le_of_ble_eq_true rfl)⟩ 0 rfl rfl rfl rfl (Nat.le_of_ble_eq_true rfl) rfl dX10_yearGoes_13 rfl ?_
        refine sw_iinc (pc' := 19) (v := (x1 + (1 : Int32))) (lv' := [(1, .int (x1 + (1 : Int32))), (0, .ref (h 0))]) cx dX10_yearGoes_16 1 rfl rfl (Nat.le_of_ble_eq_true rfl) rfl rfl ?_
        refine sw_goto (tgt := 2) cx dX10_yearGoes_19 (by decide) ?_
        exact sw_lv [1, 0] rfl (ih r6 (x1 + (1 : Int32)) hf)
  unfold f_X10_yearGoes at hf
  refine sw_iconst (pc' := 1) (v := 0) cx dX10_yearGoes_0 iconst_0 rfl ?_
  refine sw_istore_n (pc' := 2) (i := 1) (lv' := [(1, .int (0 : Int32)), (0, .ref (h 0))]) cx dX10_yearGoes_1 rfl (Nat.le_of_ble_eq_true rfl) rfl rfl ?_
  exact sw_lv [1, 0] rfl (B2 1000 row (0 : Int32) hf)
abbrev rm_X10_go : Room := ({ frames := 5, cells := 0, slots := 0, locals := 110 } : Room)
set_option maxRecDepth 100000 in
set_option maxHeartbeats 4000000 in
theorem k_X10_go (l : Launch) (D : sf_D) (h : Nat → Nat) (cI cJ cK cS : ClassId) (row : Nat → Int32) (att : Int32) (fnd : Nat → Int32) (tape : Nat → Int32) (tmany : Int32) (sort : Int32) (begs : Int32) (tends : Int32) (word : Int64) (valu : Int32) (good : Int32) (bits : Nat → Int32) (size : Nat → Int32) (shts : Nat → Int64) (lent : Nat → Int64) (imag : Nat → Int32) (befo : Nat → Int32) (kept : Int32) (a0 : Int32) (res : (Nat → Int32)) (hf : f_X10_go row att a0 = some res) : sf_Ct l yX10_go cX10_go 3 none rm_X10_go D (sf_ty cI cJ cK cS) [.ref (h 0), .int a0] (mo_W h cI cJ row att fnd tape tmany sort begs tends word valu good bits size shts lent imag befo kept) none (mo_W h cI cJ res att fnd tape tmany sort begs tends word valu good bits size shts lent imag befo kept) := by
  refine sf_met (lv := [(0, .ref (h 0)), (1, .int a0)]) (by decide) (Nat.le_of_ble_eq_true rfl) rfl ?_
  intro p e s m args below meth c A Q cx hr hQ
  have cx : sf_Cx p m meth c cX10_go 3 s args RX10 D (sf_ty cI cJ cK cS) A := cx
  have B2 : ∀ (n : Nat), ∀ (row : Nat → Int32) (x1 : Int32) (x2 : Int32), f_X10_go_b2 att n row x1 x2 = some res → sf_W p l e rm_X10_go s m args below meth c 0 0 Q 3 D A (mo_W h cI cJ row att fnd tape tmany sort begs tends word valu good bits size shts lent imag befo kept) [(0, .ref (h 0)), (1, .int x1), (2, .int x2)] 2 [] := by
    intro n
    induction n with
    | zero => intro row x1 x2 hf; rw [f_X10_go_b2] at hf; cases hf
    | succ n ih =>
      intro row x1 x2 hf
      rw [f_X10_go_b2] at hf
      refine sw_iload_n (pc' := 3) (i := 2) cx dX10_go_2 rfl 2 rfl rfl ?_
      refine sw_iload_n (pc' := 4) (i := 1) cx dX10_go_3 rfl 1 rfl rfl ?_
      refine sw_icmp_ge (pc' := 7) (tgt := 17) cx dX10_go_4 (by decide) rfl (fun c1 => ?_) (fun c1 => ?_)
      · replace hf := it_p c1 hf
        obtain rfl := Option.some.inj hf
        exact sw_vret cx hr hQ dX10_go_17
      · replace hf := it_n c1 hf
        refine sw_aload_n (pc' := 8) (i := 0) cx dX10_go_7 rfl 0 rfl rfl ?_
        obtain ⟨r2, hr2, hf⟩ := bd_s hf
        refine sw_callVw (pc' := 11) (As := []) (rest := []) (w' := (mo_W h cI cJ r2 att fnd tape tmany sort begs tends word valu good bits size shts lent imag befo kept)) cx (k_X10_yearGoes l D h cI cJ cK cS row att fnd tape tmany sort begs tends word valu good bits size shts lent imag befo kept  r2 hr2) pk_yX10_yearGoes ml_RX10_132 ⟨rfl, rfl⟩ ⟨(Nat.le_of_ble_eq_true rfl), (Nat.le_of_ble_eq_true rfl)⟩ ⟨(Nat.le_of_ble_eq_true rfl), (Nat.le_of_ble_eq_true rfl)⟩ 0 rfl rfl rfl rfl (Nat.le_of_ble_eq_true rfl) rfl dX10_go_8 rfl ?_
        refine sw_iinc (pc' := 14) (v := (x2 + (1 : Int32))) (lv' := [(2, .int (x2 + (1 : Int32))), (0, .ref (h 0)), (1, .int x1)]) cx dX10_go_11 2 rfl rfl (Nat.le_of_ble_eq_true rfl) rfl rfl ?_
        refine sw_goto (tgt := 2) cx dX10_go_14 (by decide) ?_
        exact sw_lv [1, 2, 0] rfl (ih r2 x1 (x2 + (1 : Int32)) hf)
  unfold f_X10_go at hf
  refine sw_iconst (pc' := 1) (v := 0) cx dX10_go_0 iconst_0 rfl ?_
  refine sw_istore_n (pc' := 2) (i := 2) (lv' := [(2, .int (0 : Int32)), (0, .ref (h 0)), (1, .int a0)]) cx dX10_go_1 rfl (Nat.le_of_ble_eq_true rfl) rfl rfl ?_
  exact sw_lv [1, 2, 0] rfl (B2 1000 row a0 (0 : Int32) hf)
abbrev rm_X10_isLate : Room := ({ frames := 0, cells := 0, slots := 0, locals := 0 } : Room)
set_option maxRecDepth 100000 in
set_option maxHeartbeats 4000000 in
theorem k_X10_isLate (l : Launch) (D : sf_D) (h : Nat → Nat) (cI cJ cK cS : ClassId) (row : Nat → Int32) (att : Int32) (fnd : Nat → Int32) (tape : Nat → Int32) (tmany : Int32) (sort : Int32) (begs : Int32) (tends : Int32) (word : Int64) (valu : Int32) (good : Int32) (bits : Nat → Int32) (size : Nat → Int32) (shts : Nat → Int64) (lent : Nat → Int64) (imag : Nat → Int32) (befo : Nat → Int32) (kept : Int32) (a0 : Int32) (res : Int32) (hf : f_X10_isLate row a0 = some res) : sf_Ct l yX10_isLate cX10_isLate 2 (some .boolean) rm_X10_isLate D (sf_ty cI cJ cK cS) [.ref (h 0), .int a0] (mo_W h cI cJ row att fnd tape tmany sort begs tends word valu good bits size shts lent imag befo kept) (some (.int res)) (mo_W h cI cJ row att fnd tape tmany sort begs tends word valu good bits size shts lent imag befo kept) := by
  refine sf_met (lv := [(0, .ref (h 0)), (1, .int a0)]) (by decide) (Nat.le_of_ble_eq_true rfl) rfl ?_
  intro p e s m args below meth c A Q cx hr hQ
  have cx : sf_Cx p m meth c cX10_isLate 2 s args RX10 D (sf_ty cI cJ cK cS) A := cx
  unfold f_X10_isLate at hf
  refine sw_aload_n (pc' := 1) (i := 0) cx dX10_isLate_0 rfl 0 rfl rfl ?_
  refine sw_get (pc' := 4) cx in_X10 0 rfl rfl 0 (Nat.le_of_ble_eq_true rfl) fl_RX10_7 rfl dX10_isLate_1 rfl ?_
  refine sw_iconst (pc' := 5) (v := 0) cx dX10_isLate_4 iconst_0 rfl ?_
  refine sw_iald (pc' := 6) cx 1 0 rfl rfl vi_0_510 dX10_isLate_5 rfl ?_
  refine sw_iload_n (pc' := 7) (i := 1) cx dX10_isLate_6 rfl 1 rfl rfl ?_
  refine sw_iadd (pc' := 8) cx dX10_isLate_7 rfl ?_
  refine sw_sipush (pc' := 11) (v := 9999) cx dX10_isLate_8 sipush_9999 rfl ?_
  refine sw_icmp_le (pc' := 14) (tgt := 18) cx dX10_isLate_11 (by decide) rfl (fun c1 => ?_) (fun c1 => ?_)
  · replace hf := it_p c1 hf
    refine sw_iconst (pc' := 19) (v := 0) cx dX10_isLate_18 iconst_0 rfl ?_
    obtain rfl := Option.some.inj hf
    exact sw_zret cx hr (by decide +kernel) hQ dX10_isLate_19
  · replace hf := it_n c1 hf
    refine sw_iconst (pc' := 15) (v := 1) cx dX10_isLate_14 iconst_1 rfl ?_
    refine sw_goto (tgt := 19) cx dX10_isLate_15 (by decide) ?_
    obtain rfl := Option.some.inj hf
    exact sw_zret cx hr (by decide +kernel) hQ dX10_isLate_19
abbrev rm_X10_years : Room := ({ frames := 6, cells := 0, slots := 0, locals := 132 } : Room)
set_option maxRecDepth 100000 in
set_option maxHeartbeats 4000000 in
theorem k_X10_years (l : Launch) (D : sf_D) (h : Nat → Nat) (cI cJ cK cS : ClassId) (row : Nat → Int32) (att : Int32) (fnd : Nat → Int32) (tape : Nat → Int32) (tmany : Int32) (sort : Int32) (begs : Int32) (tends : Int32) (word : Int64) (valu : Int32) (good : Int32) (bits : Nat → Int32) (size : Nat → Int32) (shts : Nat → Int64) (lent : Nat → Int64) (imag : Nat → Int32) (befo : Nat → Int32) (kept : Int32) (a0 : Int32) (res : Int32 × (Nat → Int32) × (Nat → Int32)) (hf : f_X10_years row att fnd a0 = some res) : sf_Ct l yX10_years cX10_years 2 (some .int) rm_X10_years D (sf_ty cI cJ cK cS) [.ref (h 0), .int a0] (mo_W h cI cJ row att fnd tape tmany sort begs tends word valu good bits size shts lent imag befo kept) (some (.int res.1)) (mo_W h cI cJ res.2.1 att res.2.2 tape tmany sort begs tends word valu good bits size shts lent imag befo kept) := by
  refine sf_met (lv := [(0, .ref (h 0)), (1, .int a0)]) (by decide) (Nat.le_of_ble_eq_true rfl) rfl ?_
  intro p e s m args below meth c A Q cx hr hQ
  have cx : sf_Cx p m meth c cX10_years 2 s args RX10 D (sf_ty cI cJ cK cS) A := cx
  unfold f_X10_years at hf
  refine sw_iload_n (pc' := 1) (i := 1) cx dX10_years_0 rfl 1 rfl rfl ?_
  refine sw_iconst (pc' := 2) (v := 1) cx dX10_years_1 iconst_1 rfl ?_
  refine sw_sipush (pc' := 5) (v := 200) cx dX10_years_2 sipush_200 rfl ?_
  obtain ⟨r1, hr1, hf⟩ := bd_s hf
  refine sw_callS (pc' := 8) (As := [.int a0, .int (1 : Int32), .int (200 : Int32)]) (rest := []) cx (k_X10_in l D h cI cJ cK cS a0 (1 : Int32) (200 : Int32) r1 hr1) pk_yX10_in ml_RX10_47 ⟨rfl, rfl⟩ ⟨(Nat.le_of_ble_eq_true rfl), (Nat.le_of_ble_eq_true rfl)⟩ ⟨(Nat.le_of_ble_eq_true rfl), (Nat.le_of_ble_eq_true rfl)⟩ [] rfl rfl rfl (wn := (mo_W h cI cJ row att fnd tape tmany sort begs tends word valu good bits size shts lent imag befo kept)) rfl rfl (Nat.le_of_ble_eq_true rfl) rfl dX10_years_5 rfl ?_
  refine sw_if_ne (pc' := 11) (tgt := 18) cx dX10_years_8 (by decide) rfl (fun c2 => ?_) (fun c2 => ?_)
  · replace hf := it_n c2 hf
    refine sw_aload_n (pc' := 19) (i := 0) cx dX10_years_18 rfl 0 rfl rfl ?_
    refine sw_iload_n (pc' := 20) (i := 1) cx dX10_years_19 rfl 1 rfl rfl ?_
    obtain ⟨r3, hr3, hf⟩ := bd_s hf
    refine sw_callVw (pc' := 23) (As := [.int a0]) (rest := []) (w' := (mo_W h cI cJ row att fnd tape tmany sort begs tends word valu good bits size shts lent imag befo kept)) cx (k_X10_isLate l D h cI cJ cK cS row att fnd tape tmany sort begs tends word valu good bits size shts lent imag befo kept a0 r3 hr3) pk_yX10_isLate ml_RX10_135 ⟨rfl, rfl⟩ ⟨(Nat.le_of_ble_eq_true rfl), (Nat.le_of_ble_eq_true rfl)⟩ ⟨(Nat.le_of_ble_eq_true rfl), (Nat.le_of_ble_eq_true rfl)⟩ 0 rfl rfl rfl rfl (Nat.le_of_ble_eq_true rfl) rfl dX10_years_20 rfl ?_
    refine sw_if_eq (pc' := 26) (tgt := 33) cx dX10_years_23 (by decide) rfl (fun c4 => ?_) (fun c4 => ?_)
    · replace hf := it_p c4 hf
      refine sw_aload_n (pc' := 34) (i := 0) cx dX10_years_33 rfl 0 rfl rfl ?_
      refine sw_iload_n (pc' := 35) (i := 1) cx dX10_years_34 rfl 1 rfl rfl ?_
      obtain ⟨r5, hr5, hf⟩ := bd_s hf
      refine sw_callVw (pc' := 38) (As := [.int a0]) (rest := []) (w' := (mo_W h cI cJ r5 att fnd tape tmany sort begs tends word valu good bits size shts lent imag befo kept)) cx (k_X10_go l D h cI cJ cK cS row att fnd tape tmany sort begs tends word valu good bits size shts lent imag befo kept a0 r5 hr5) pk_yX10_go ml_RX10_138 ⟨rfl, rfl⟩ ⟨(Nat.le_of_ble_eq_true rfl), (Nat.le_of_ble_eq_true rfl)⟩ ⟨(Nat.le_of_ble_eq_true rfl), (Nat.le_of_ble_eq_true rfl)⟩ 0 rfl rfl rfl rfl (Nat.le_of_ble_eq_true rfl) rfl dX10_years_35 rfl ?_
      refine sw_aload_n (pc' := 39) (i := 0) cx dX10_years_38 rfl 0 rfl rfl ?_
      obtain ⟨r6, hr6, hf⟩ := bd_s hf
      refine sw_callVw (pc' := 42) (As := []) (rest := []) (w' := (mo_W h cI cJ r5 att fnd tape tmany sort begs tends word valu good bits size shts lent imag befo kept)) cx (k_X10_wholes l D h cI cJ cK cS r5 att fnd tape tmany sort begs tends word valu good bits size shts lent imag befo kept  r6 hr6) pk_yX10_wholes ml_RX10_55 ⟨rfl, rfl⟩ ⟨(Nat.le_of_ble_eq_true rfl), (Nat.le_of_ble_eq_true rfl)⟩ ⟨(Nat.le_of_ble_eq_true rfl), (Nat.le_of_ble_eq_true rfl)⟩ 0 rfl rfl rfl rfl (Nat.le_of_ble_eq_true rfl) rfl dX10_years_39 rfl ?_
      obtain rfl := Option.some.inj hf
      exact sw_iret cx hr hQ dX10_years_42
    · replace hf := it_n c4 hf
      refine sw_aload_n (pc' := 27) (i := 0) cx dX10_years_26 rfl 0 rfl rfl ?_
      refine sw_ldc (pc' := 29) cx ct_RX10_101 dX10_years_27 rfl ?_
      obtain ⟨r7, hr7, hf⟩ := bd_s hf
      refine sw_callVw (pc' := 32) (As := [.int (-1000000005 : Int32)]) (rest := []) (w' := (mo_W h cI cJ row att r7.2 tape tmany sort begs tends word valu good bits size shts lent imag befo kept)) cx (k_X10_finds l D h cI cJ cK cS row att fnd tape tmany sort begs tends word valu good bits size shts lent imag befo kept (-1000000005 : Int32) r7 hr7) pk_yX10_finds ml_RX10_63 ⟨rfl, rfl⟩ ⟨(Nat.le_of_ble_eq_true rfl), (Nat.le_of_ble_eq_true rfl)⟩ ⟨(Nat.le_of_ble_eq_true rfl), (Nat.le_of_ble_eq_true rfl)⟩ 0 rfl rfl rfl rfl (Nat.le_of_ble_eq_true rfl) rfl dX10_years_29 rfl ?_
      obtain rfl := Option.some.inj hf
      exact sw_iret cx hr hQ dX10_years_32
  · replace hf := it_p c2 hf
    refine sw_aload_n (pc' := 12) (i := 0) cx dX10_years_11 rfl 0 rfl rfl ?_
    refine sw_ldc (pc' := 14) cx ct_RX10_38 dX10_years_12 rfl ?_
    obtain ⟨r8, hr8, hf⟩ := bd_s hf
    refine sw_callVw (pc' := 17) (As := [.int (-1000000001 : Int32)]) (rest := []) (w' := (mo_W h cI cJ row att r8.2 tape tmany sort begs tends word valu good bits size shts lent imag befo kept)) cx (k_X10_finds l D h cI cJ cK cS row att fnd tape tmany sort begs tends word valu good bits size shts lent imag befo kept (-1000000001 : Int32) r8 hr8) pk_yX10_finds ml_RX10_63 ⟨rfl, rfl⟩ ⟨(Nat.le_of_ble_eq_true rfl), (Nat.le_of_ble_eq_true rfl)⟩ ⟨(Nat.le_of_ble_eq_true rfl), (Nat.le_of_ble_eq_true rfl)⟩ 0 rfl rfl rfl rfl (Nat.le_of_ble_eq_true rfl) rfl dX10_years_14 rfl ?_
    obtain rfl := Option.some.inj hf
    exact sw_iret cx hr hQ dX10_years_17
abbrev rm_X10_seed : Room := ({ frames := 0, cells := 0, slots := 0, locals := 0 } : Room)
set_option maxRecDepth 100000 in
set_option maxHeartbeats 4000000 in
theorem k_X10_seed (l : Launch) (D : sf_D) (h : Nat → Nat) (cI cJ cK cS : ClassId) (row : Nat → Int32) (att : Int32) (fnd : Nat → Int32) (tape : Nat → Int32) (tmany : Int32) (sort : Int32) (begs : Int32) (tends : Int32) (word : Int64) (valu : Int32) (good : Int32) (bits : Nat → Int32) (size : Nat → Int32) (shts : Nat → Int64) (lent : Nat → Int64) (imag : Nat → Int32) (befo : Nat → Int32) (kept : Int32) (a0 : Int32) (res : Int32 × (Nat → Int32)) (hf : f_X10_seed row a0 = some res) : sf_Ct l yX10_seed cX10_seed 3 (some .int) rm_X10_seed D (sf_ty cI cJ cK cS) [.ref (h 0), .int a0] (mo_W h cI cJ row att fnd tape tmany sort begs tends word valu good bits size shts lent imag befo kept) (some (.int res.1)) (mo_W h cI cJ res.2 att fnd tape tmany sort begs tends word valu good bits size shts lent imag befo kept) := by
  refine sf_met (lv := [(0, .ref (h 0)), (1, .int a0)]) (by decide) (Nat.le_of_ble_eq_true rfl) rfl ?_
  intro p e s m args below meth c A Q cx hr hQ
  have cx : sf_Cx p m meth c cX10_seed 3 s args RX10 D (sf_ty cI cJ cK cS) A := cx
  unfold f_X10_seed at hf
  refine sw_aload_n (pc' := 1) (i := 0) cx dX10_seed_0 rfl 0 rfl rfl ?_
  refine sw_get (pc' := 4) cx in_X10 0 rfl rfl 0 (Nat.le_of_ble_eq_true rfl) fl_RX10_7 rfl dX10_seed_1 rfl ?_
  refine sw_iconst (pc' := 5) (v := 3) cx dX10_seed_4 iconst_3 rfl ?_
  refine sw_iald (pc' := 6) cx 1 0 rfl rfl vi_3_510 dX10_seed_5 rfl ?_
  refine sw_istore_n (pc' := 7) (i := 2) (lv' := [(2, .int (row ((3 : Int32)).toNatClampNeg)), (0, .ref (h 0)), (1, .int a0)]) cx dX10_seed_6 rfl (Nat.le_of_ble_eq_true rfl) rfl rfl ?_
  refine sw_aload_n (pc' := 8) (i := 0) cx dX10_seed_7 rfl 1 rfl rfl ?_
  refine sw_get (pc' := 11) cx in_X10 0 rfl rfl 0 (Nat.le_of_ble_eq_true rfl) fl_RX10_7 rfl dX10_seed_8 rfl ?_
  refine sw_iconst (pc' := 12) (v := 3) cx dX10_seed_11 iconst_3 rfl ?_
  refine sw_iload_n (pc' := 13) (i := 1) cx dX10_seed_12 rfl 2 rfl rfl ?_
  refine sw_iast (pc' := 14) (ws' := (mo_W h cI cJ (upd row ((3 : Int32)).toNatClampNeg a0) att fnd tape tmany sort begs tends word valu good bits size shts lent imag befo kept)) cx 1 0 rfl rfl vi_3_510 dX10_seed_13 rfl rfl ?_
  refine sw_iload_n (pc' := 15) (i := 2) cx dX10_seed_14 rfl 0 rfl rfl ?_
  obtain rfl := Option.some.inj hf
  exact sw_iret cx hr hQ dX10_seed_15
abbrev rm_X10_now : Room := ({ frames := 2, cells := 0, slots := 0, locals := 43 } : Room)
set_option maxRecDepth 100000 in
set_option maxHeartbeats 4000000 in
theorem k_X10_now (l : Launch) (D : sf_D) (h : Nat → Nat) (cI cJ cK cS : ClassId) (row : Nat → Int32) (att : Int32) (fnd : Nat → Int32) (tape : Nat → Int32) (tmany : Int32) (sort : Int32) (begs : Int32) (tends : Int32) (word : Int64) (valu : Int32) (good : Int32) (bits : Nat → Int32) (size : Nat → Int32) (shts : Nat → Int64) (lent : Nat → Int64) (imag : Nat → Int32) (befo : Nat → Int32) (kept : Int32) (a0 : Int32) (res : Int32 × (Nat → Int32)) (hf : f_X10_now row att fnd a0 = some res) : sf_Ct l yX10_now cX10_now 4 (some .int) rm_X10_now D (sf_ty cI cJ cK cS) [.ref (h 0), .int a0] (mo_W h cI cJ row att fnd tape tmany sort begs tends word valu good bits size shts lent imag befo kept) (some (.int res.1)) (mo_W h cI cJ row att res.2 tape tmany sort begs tends word valu good bits size shts lent imag befo kept) := by
  refine sf_met (lv := [(0, .ref (h 0)), (1, .int a0)]) (by decide) (Nat.le_of_ble_eq_true rfl) rfl ?_
  intro p e s m args below meth c A Q cx hr hQ
  have cx : sf_Cx p m meth c cX10_now 4 s args RX10 D (sf_ty cI cJ cK cS) A := cx
  have B36 : ∀ (fnd : Nat → Int32) (x1 : Int32), f_X10_now_b36 row att fnd x1 = some res → sf_W p l e rm_X10_now s m args below meth c 0 0 Q 4 D A (mo_W h cI cJ row att fnd tape tmany sort begs tends word valu good bits size shts lent imag befo kept) [(0, .ref (h 0)), (1, .int x1)] 36 [] := by
    intro fnd x1 hf
    unfold f_X10_now_b36 at hf
    refine sw_aload_n (pc' := 37) (i := 0) cx dX10_now_36 rfl 0 rfl rfl ?_
    refine sw_get (pc' := 40) cx in_X10 0 rfl rfl 0 (Nat.le_of_ble_eq_true rfl) fl_RX10_7 rfl dX10_now_37 rfl ?_
    refine sw_iload_n (pc' := 41) (i := 1) cx dX10_now_40 rfl 1 rfl rfl ?_
    obtain ⟨h8, hf⟩ := gx_s hf
    refine sw_iald (pc' := 42) cx 1 0 rfl rfl h8 dX10_now_41 rfl ?_
    obtain rfl := Option.some.inj hf
    exact sw_iret cx hr hQ dX10_now_42
  have B50 : ∀ (n : Nat), ∀ (fnd : Nat → Int32) (x2 : Int32) (x3 : Int32), f_X10_now_b50 row att n fnd x2 x3 = some res → sf_W p l e rm_X10_now s m args below meth c 0 0 Q 4 D A (mo_W h cI cJ row att fnd tape tmany sort begs tends word valu good bits size shts lent imag befo kept) [(0, .ref (h 0)), (2, .int x2), (3, .int x3)] 50 [] := by
    intro n
    induction n with
    | zero => intro fnd x2 x3 hf; rw [f_X10_now_b50] at hf; cases hf
    | succ n ih =>
      intro fnd x2 x3 hf
      rw [f_X10_now_b50] at hf
      refine sw_iload_n (pc' := 51) (i := 3) cx dX10_now_50 rfl 2 rfl rfl ?_
      refine sw_aload_n (pc' := 52) (i := 0) cx dX10_now_51 rfl 0 rfl rfl ?_
      refine sw_get (pc' := 55) cx in_X10 0 rfl rfl 0 (Nat.le_of_ble_eq_true rfl) fl_RX10_7 rfl dX10_now_52 rfl ?_
      refine sw_iconst (pc' := 56) (v := 4) cx dX10_now_55 iconst_4 rfl ?_
      refine sw_iald (pc' := 57) cx 1 0 rfl rfl vi_4_510 dX10_now_56 rfl ?_
      refine sw_icmp_ge (pc' := 60) (tgt := 75) cx dX10_now_57 (by decide) rfl (fun c9 => ?_) (fun c9 => ?_)
      · replace hf := it_p c9 hf
        refine sw_iload_n (pc' := 76) (i := 2) cx dX10_now_75 rfl 1 rfl rfl ?_
        obtain rfl := Option.some.inj hf
        exact sw_iret cx hr hQ dX10_now_76
      · replace hf := it_n c9 hf
        refine sw_iload_n (pc' := 61) (i := 2) cx dX10_now_60 rfl 1 rfl rfl ?_
        refine sw_aload_n (pc' := 62) (i := 0) cx dX10_now_61 rfl 0 rfl rfl ?_
        refine sw_iload_n (pc' := 63) (i := 3) cx dX10_now_62 rfl 2 rfl rfl ?_
        refine sw_iconst (pc' := 64) (v := 1) cx dX10_now_63 iconst_1 rfl ?_
        obtain ⟨r10, hr10, hf⟩ := bd_s hf
        refine sw_callVw (pc' := 67) (As := [.int x3, .int (1 : Int32)]) (rest := [.int x2]) (w' := (mo_W h cI cJ row att fnd tape tmany sort begs tends word valu good bits size shts lent imag befo kept)) cx (k_X10_fineOf l D h cI cJ cK cS row att fnd tape tmany sort begs tends word valu good bits size shts lent imag befo kept x3 (1 : Int32) r10 hr10) pk_yX10_fineOf ml_RX10_51 ⟨rfl, rfl⟩ ⟨(Nat.le_of_ble_eq_true rfl), (Nat.le_of_ble_eq_true rfl)⟩ ⟨(Nat.le_of_ble_eq_true rfl), (Nat.le_of_ble_eq_true rfl)⟩ 0 rfl rfl rfl rfl (Nat.le_of_ble_eq_true rfl) rfl dX10_now_64 rfl ?_
        refine sw_iadd (pc' := 68) cx dX10_now_67 rfl ?_
        refine sw_istore_n (pc' := 69) (i := 2) (lv' := [(2, .int (x2 + r10)), (0, .ref (h 0)), (3, .int x3)]) cx dX10_now_68 rfl (Nat.le_of_ble_eq_true rfl) rfl rfl ?_
        refine sw_iinc (pc' := 72) (v := (x3 + (1 : Int32))) (lv' := [(3, .int (x3 + (1 : Int32))), (2, .int (x2 + r10)), (0, .ref (h 0))]) cx dX10_now_69 2 rfl rfl (Nat.le_of_ble_eq_true rfl) rfl rfl ?_
        refine sw_goto (tgt := 50) cx dX10_now_72 (by decide) ?_
        exact sw_lv [2, 1, 0] rfl (ih fnd (x2 + r10) (x3 + (1 : Int32)) hf)
  unfold f_X10_now at hf
  refine sw_iconst (pc' := 1) (v := 0) cx dX10_now_0 iconst_0 rfl ?_
  refine sw_istore_n (pc' := 2) (i := 2) (lv' := [(2, .int (0 : Int32)), (0, .ref (h 0)), (1, .int a0)]) cx dX10_now_1 rfl (Nat.le_of_ble_eq_true rfl) rfl rfl ?_
  refine sw_iload_n (pc' := 3) (i := 1) cx dX10_now_2 rfl 2 rfl rfl ?_
  by_cases c1 : a0 = (0 : Int32)
  · replace hf := it_p c1 hf
    refine sw_tableEq (tgt := 36) cx c1 dX10_now_3 (by decide +kernel) (by decide +kernel) rfl (by decide) ?_
    exact sw_lv [1, 2] rfl (B36 fnd a0 hf)
  replace hf := it_n c1 hf
  by_cases c2 : a0 = (1 : Int32)
  · replace hf := it_p c2 hf
    refine sw_tableEq (tgt := 36) cx c2 dX10_now_3 (by decide +kernel) (by decide +kernel) rfl (by decide) ?_
    exact sw_lv [1, 2] rfl (B36 fnd a0 hf)
  replace hf := it_n c2 hf
  by_cases c3 : a0 = (2 : Int32)
  · replace hf := it_p c3 hf
    refine sw_tableEq (tgt := 36) cx c3 dX10_now_3 (by decide +kernel) (by decide +kernel) rfl (by decide) ?_
    exact sw_lv [1, 2] rfl (B36 fnd a0 hf)
  replace hf := it_n c3 hf
  by_cases c4 : a0 = (3 : Int32)
  · replace hf := it_p c4 hf
    refine sw_tableEq (tgt := 43) cx c4 dX10_now_3 (by decide +kernel) (by decide +kernel) rfl (by decide) ?_
    refine sw_aload_n (pc' := 44) (i := 0) cx dX10_now_43 rfl 1 rfl rfl ?_
    obtain ⟨r5, hr5, hf⟩ := bd_s hf
    refine sw_callVw (pc' := 47) (As := []) (rest := []) (w' := (mo_W h cI cJ row att fnd tape tmany sort begs tends word valu good bits size shts lent imag befo kept)) cx (k_X10_wholes l D h cI cJ cK cS row att fnd tape tmany sort begs tends word valu good bits size shts lent imag befo kept  r5 hr5) pk_yX10_wholes ml_RX10_55 ⟨rfl, rfl⟩ ⟨(Nat.le_of_ble_eq_true rfl), (Nat.le_of_ble_eq_true rfl)⟩ ⟨(Nat.le_of_ble_eq_true rfl), (Nat.le_of_ble_eq_true rfl)⟩ 0 rfl rfl rfl rfl (Nat.le_of_ble_eq_true rfl) rfl dX10_now_44 rfl ?_
    obtain rfl := Option.some.inj hf
    exact sw_iret cx hr hQ dX10_now_47
  replace hf := it_n c4 hf
  by_cases c6 : a0 = (4 : Int32)
  · replace hf := it_p c6 hf
    refine sw_tableEq (tgt := 48) cx c6 dX10_now_3 (by decide +kernel) (by decide +kernel) rfl (by decide) ?_
    refine sw_iconst (pc' := 49) (v := 0) cx dX10_now_48 iconst_0 rfl ?_
    refine sw_istore_n (pc' := 50) (i := 3) (lv' := [(3, .int (0 : Int32)), (2, .int (0 : Int32)), (0, .ref (h 0)), (1, .int a0)]) cx dX10_now_49 rfl (Nat.le_of_ble_eq_true rfl) rfl rfl ?_
    exact sw_lv [2, 1, 0] rfl (B50 1000 fnd (0 : Int32) (0 : Int32) hf)
  replace hf := it_n c6 hf
  refine sw_tableOut (tgt := 77) cx dX10_now_3 (by have := sf_ne (k := 0) c1 (by decide +kernel); have := sf_ne (k := 1) c2 (by decide +kernel); have := sf_ne (k := 2) c3 (by decide +kernel); have := sf_ne (k := 3) c4 (by decide +kernel); have := sf_ne (k := 4) c6 (by decide +kernel); omega) (by decide) ?_
  refine sw_aload_n (pc' := 78) (i := 0) cx dX10_now_77 rfl 1 rfl rfl ?_
  refine sw_ldc (pc' := 80) cx ct_RX10_38 dX10_now_78 rfl ?_
  obtain ⟨r7, hr7, hf⟩ := bd_s hf
  refine sw_callVw (pc' := 83) (As := [.int (-1000000001 : Int32)]) (rest := []) (w' := (mo_W h cI cJ row att r7.2 tape tmany sort begs tends word valu good bits size shts lent imag befo kept)) cx (k_X10_finds l D h cI cJ cK cS row att fnd tape tmany sort begs tends word valu good bits size shts lent imag befo kept (-1000000001 : Int32) r7 hr7) pk_yX10_finds ml_RX10_63 ⟨rfl, rfl⟩ ⟨(Nat.le_of_ble_eq_true rfl), (Nat.le_of_ble_eq_true rfl)⟩ ⟨(Nat.le_of_ble_eq_true rfl), (Nat.le_of_ble_eq_true rfl)⟩ 0 rfl rfl rfl rfl (Nat.le_of_ble_eq_true rfl) rfl dX10_now_80 rfl ?_
  obtain rfl := Option.some.inj hf
  exact sw_iret cx hr hQ dX10_now_83
abbrev rm_X10_lends : Room := ({ frames := 0, cells := 0, slots := 0, locals := 0 } : Room)
set_option maxRecDepth 100000 in
set_option maxHeartbeats 4000000 in
theorem k_X10_lends (l : Launch) (D : sf_D) (h : Nat → Nat) (cI cJ cK cS : ClassId) (row : Nat → Int32) (att : Int32) (fnd : Nat → Int32) (tape : Nat → Int32) (tmany : Int32) (sort : Int32) (begs : Int32) (tends : Int32) (word : Int64) (valu : Int32) (good : Int32) (bits : Nat → Int32) (size : Nat → Int32) (shts : Nat → Int64) (lent : Nat → Int64) (imag : Nat → Int32) (befo : Nat → Int32) (kept : Int32)  (res : (Nat → Int32) × Int32) (hf : f_X10_lends row att = some res) : sf_Ct l yX10_lends cX10_lends 2 none rm_X10_lends D (sf_ty cI cJ cK cS) [.ref (h 0)] (mo_W h cI cJ row att fnd tape tmany sort begs tends word valu good bits size shts lent imag befo kept) none (mo_W h cI cJ res.1 res.2 fnd tape tmany sort begs tends word valu good bits size shts lent imag befo kept) := by
  refine sf_met (lv := [(0, .ref (h 0))]) (by decide) (Nat.le_of_ble_eq_true rfl) rfl ?_
  intro p e s m args below meth c A Q cx hr hQ
  have cx : sf_Cx p m meth c cX10_lends 2 s args RX10 D (sf_ty cI cJ cK cS) A := cx
  have B7 : ∀ (n : Nat), ∀ (row : Nat → Int32) (att : Int32) (x1 : Int32), f_X10_lends_b7 n row att x1 = some res → sf_W p l e rm_X10_lends s m args below meth c 0 0 Q 2 D A (mo_W h cI cJ row att fnd tape tmany sort begs tends word valu good bits size shts lent imag befo kept) [(0, .ref (h 0)), (1, .int x1)] 7 [] := by
    intro n
    induction n with
    | zero => intro row att x1 hf; rw [f_X10_lends_b7] at hf; cases hf
    | succ n ih =>
      intro row att x1 hf
      rw [f_X10_lends_b7] at hf
      refine sw_iload_n (pc' := 8) (i := 1) cx dX10_lends_7 rfl 1 rfl rfl ?_
      refine sw_sipush (pc' := 11) (v := 255) cx dX10_lends_8 sipush_255 rfl ?_
      refine sw_icmp_ge (pc' := 14) (tgt := 36) cx dX10_lends_11 (by decide) rfl (fun c1 => ?_) (fun c1 => ?_)
      · replace hf := it_p c1 hf
        refine sw_aload_n (pc' := 37) (i := 0) cx dX10_lends_36 rfl 0 rfl rfl ?_
        refine sw_sipush (pc' := 40) (v := 255) cx dX10_lends_37 sipush_255 rfl ?_
        refine sw_put (pc' := 43) (ws' := (mo_W h cI cJ row (255 : Int32) fnd tape tmany sort begs tends word valu good bits size shts lent imag befo kept)) cx in_X10 tyX10 tyX10_ok nmX10 0 rfl rfl 1 (Nat.le_of_ble_eq_true rfl) fl_RX10_39 rfl rfl rfl (Nat.le_of_ble_eq_true rfl) dX10_lends_40 rfl rfl ?_
        obtain rfl := Option.some.inj hf
        exact sw_vret cx hr hQ dX10_lends_43
      · replace hf := it_n c1 hf
        refine sw_aload_n (pc' := 15) (i := 0) cx dX10_lends_14 rfl 0 rfl rfl ?_
        refine sw_get (pc' := 18) cx in_X10 0 rfl rfl 0 (Nat.le_of_ble_eq_true rfl) fl_RX10_7 rfl dX10_lends_15 rfl ?_
        refine sw_sipush (pc' := 21) (v := 255) cx dX10_lends_18 sipush_255 rfl ?_
        refine sw_iload_n (pc' := 22) (i := 1) cx dX10_lends_21 rfl 1 rfl rfl ?_
        refine sw_iadd (pc' := 23) cx dX10_lends_22 rfl ?_
        refine sw_aload_n (pc' := 24) (i := 0) cx dX10_lends_23 rfl 0 rfl rfl ?_
        refine sw_get (pc' := 27) cx in_X10 0 rfl rfl 0 (Nat.le_of_ble_eq_true rfl) fl_RX10_7 rfl dX10_lends_24 rfl ?_
        refine sw_iload_n (pc' := 28) (i := 1) cx dX10_lends_27 rfl 1 rfl rfl ?_
        obtain ⟨h2, hf⟩ := gx_s hf
        refine sw_iald (pc' := 29) cx 1 0 rfl rfl h2 dX10_lends_28 rfl ?_
        obtain ⟨h3, hf⟩ := gx_s hf
        refine sw_iast (pc' := 30) (ws' := (mo_W h cI cJ (upd row (((255 : Int32) + x1)).toNatClampNeg (row (x1).toNatClampNeg)) att fnd tape tmany sort begs tends word valu good bits size shts lent imag befo kept)) cx 1 0 rfl rfl h3 dX10_lends_29 rfl rfl ?_
        refine sw_iinc (pc' := 33) (v := (x1 + (1 : Int32))) (lv' := [(1, .int (x1 + (1 : Int32))), (0, .ref (h 0))]) cx dX10_lends_30 1 rfl rfl (Nat.le_of_ble_eq_true rfl) rfl rfl ?_
        refine sw_goto (tgt := 7) cx dX10_lends_33 (by decide) ?_
        exact sw_lv [1, 0] rfl (ih (upd row (((255 : Int32) + x1)).toNatClampNeg (row (x1).toNatClampNeg)) att (x1 + (1 : Int32)) hf)
  unfold f_X10_lends at hf
  refine sw_aload_n (pc' := 1) (i := 0) cx dX10_lends_0 rfl 0 rfl rfl ?_
  refine sw_iconst (pc' := 2) (v := 0) cx dX10_lends_1 iconst_0 rfl ?_
  refine sw_put (pc' := 5) (ws' := (mo_W h cI cJ row (0 : Int32) fnd tape tmany sort begs tends word valu good bits size shts lent imag befo kept)) cx in_X10 tyX10 tyX10_ok nmX10 0 rfl rfl 1 (Nat.le_of_ble_eq_true rfl) fl_RX10_39 rfl rfl rfl (Nat.le_of_ble_eq_true rfl) dX10_lends_2 rfl rfl ?_
  refine sw_iconst (pc' := 6) (v := 0) cx dX10_lends_5 iconst_0 rfl ?_
  refine sw_istore_n (pc' := 7) (i := 1) (lv' := [(1, .int (0 : Int32)), (0, .ref (h 0))]) cx dX10_lends_6 rfl (Nat.le_of_ble_eq_true rfl) rfl rfl ?_
  exact sw_lv [1, 0] rfl (B7 1000 row (0 : Int32) (0 : Int32) hf)
abbrev rm_X10_isLong : Room := ({ frames := 1, cells := 0, slots := 0, locals := 22 } : Room)
set_option maxRecDepth 100000 in
set_option maxHeartbeats 4000000 in
theorem k_X10_isLong (l : Launch) (D : sf_D) (h : Nat → Nat) (cI cJ cK cS : ClassId)  (a0 : Int32) (res : Int32) (hf : f_X10_isLong a0 = some res) : sf_Ct l yX10_isLong cX10_isLong 1 (some .boolean) rm_X10_isLong D (sf_ty cI cJ cK cS) [.int a0] [] (some (.int res)) [] := by
  refine sf_met (lv := [(0, .int a0)]) (by decide) (Nat.le_of_ble_eq_true rfl) rfl ?_
  intro p e s m args below meth c A Q cx hr hQ
  have cx : sf_Cx p m meth c cX10_isLong 1 s args RX10 D (sf_ty cI cJ cK cS) A := cx
  unfold f_X10_isLong at hf
  refine sw_iload_n (pc' := 1) (i := 0) cx dX10_isLong_0 rfl 0 rfl rfl ?_
  refine sw_iconst (pc' := 2) (v := 0) cx dX10_isLong_1 iconst_0 rfl ?_
  refine sw_sipush (pc' := 5) (v := 200) cx dX10_isLong_2 sipush_200 rfl ?_
  obtain ⟨r1, hr1, hf⟩ := bd_s hf
  refine sw_callS (pc' := 8) (As := [.int a0, .int (0 : Int32), .int (200 : Int32)]) (rest := []) cx (k_X10_in l D h cI cJ cK cS a0 (0 : Int32) (200 : Int32) r1 hr1) pk_yX10_in ml_RX10_47 ⟨rfl, rfl⟩ ⟨(Nat.le_of_ble_eq_true rfl), (Nat.le_of_ble_eq_true rfl)⟩ ⟨(Nat.le_of_ble_eq_true rfl), (Nat.le_of_ble_eq_true rfl)⟩ [] rfl rfl rfl (wn := []) rfl rfl (Nat.le_of_ble_eq_true rfl) rfl dX10_isLong_5 rfl ?_
  obtain ⟨h2, hf⟩ := gb_s hf
  obtain rfl := Option.some.inj hf
  exact sw_zret cx hr h2.1 hQ dX10_isLong_8
abbrev rm_X10_on : Room := ({ frames := 6, cells := 0, slots := 0, locals := 132 } : Room)
set_option maxRecDepth 100000 in
set_option maxHeartbeats 4000000 in
theorem k_X10_on (l : Launch) (D : sf_D) (h : Nat → Nat) (cI cJ cK cS : ClassId) (row : Nat → Int32) (att : Int32) (fnd : Nat → Int32) (tape : Nat → Int32) (tmany : Int32) (sort : Int32) (begs : Int32) (tends : Int32) (word : Int64) (valu : Int32) (good : Int32) (bits : Nat → Int32) (size : Nat → Int32) (shts : Nat → Int64) (lent : Nat → Int64) (imag : Nat → Int32) (befo : Nat → Int32) (kept : Int32) (a0 : Int32) (res : Int64 × (Nat → Int32) × Int32 × (Nat → Int32)) (hf : f_X10_on row att fnd a0 = some res) : sf_Ct l yX10_on cX10_on 4 (some .long) rm_X10_on D (sf_ty cI cJ cK cS) [.ref (h 0), .int a0] (mo_W h cI cJ row att fnd tape tmany sort begs tends word valu good bits size shts lent imag befo kept) (some (.long res.1)) (mo_W h cI cJ res.2.1 res.2.2.1 res.2.2.2 tape tmany sort begs tends word valu good bits size shts lent imag befo kept) := by
  refine sf_met (lv := [(0, .ref (h 0)), (1, .int a0)]) (by decide) (Nat.le_of_ble_eq_true rfl) rfl ?_
  intro p e s m args below meth c A Q cx hr hQ
  have cx : sf_Cx p m meth c cX10_on 4 s args RX10 D (sf_ty cI cJ cK cS) A := cx
  unfold f_X10_on at hf
  refine sw_iload_n (pc' := 1) (i := 1) cx dX10_on_0 rfl 1 rfl rfl ?_
  obtain ⟨r1, hr1, hf⟩ := bd_s hf
  refine sw_callS (pc' := 4) (As := [.int a0]) (rest := []) cx (k_X10_isLong l D h cI cJ cK cS a0 r1 hr1) pk_yX10_isLong ml_RX10_141 ⟨rfl, rfl⟩ ⟨(Nat.le_of_ble_eq_true rfl), (Nat.le_of_ble_eq_true rfl)⟩ ⟨(Nat.le_of_ble_eq_true rfl), (Nat.le_of_ble_eq_true rfl)⟩ [] rfl rfl rfl (wn := (mo_W h cI cJ row att fnd tape tmany sort begs tends word valu good bits size shts lent imag befo kept)) rfl rfl (Nat.le_of_ble_eq_true rfl) rfl dX10_on_1 rfl ?_
  refine sw_if_ne (pc' := 7) (tgt := 15) cx dX10_on_4 (by decide) rfl (fun c2 => ?_) (fun c2 => ?_)
  · replace hf := it_n c2 hf
    refine sw_aload_n (pc' := 16) (i := 0) cx dX10_on_15 rfl 0 rfl rfl ?_
    refine sw_iload_n (pc' := 17) (i := 1) cx dX10_on_16 rfl 1 rfl rfl ?_
    obtain ⟨r3, hr3, hf⟩ := bd_s hf
    refine sw_callVw (pc' := 20) (As := [.int a0]) (rest := []) (w' := (mo_W h cI cJ row att fnd tape tmany sort begs tends word valu good bits size shts lent imag befo kept)) cx (k_X10_isLate l D h cI cJ cK cS row att fnd tape tmany sort begs tends word valu good bits size shts lent imag befo kept a0 r3 hr3) pk_yX10_isLate ml_RX10_135 ⟨rfl, rfl⟩ ⟨(Nat.le_of_ble_eq_true rfl), (Nat.le_of_ble_eq_true rfl)⟩ ⟨(Nat.le_of_ble_eq_true rfl), (Nat.le_of_ble_eq_true rfl)⟩ 0 rfl rfl rfl rfl (Nat.le_of_ble_eq_true rfl) rfl dX10_on_17 rfl ?_
    refine sw_if_eq (pc' := 23) (tgt := 31) cx dX10_on_20 (by decide) rfl (fun c4 => ?_) (fun c4 => ?_)
    · replace hf := it_p c4 hf
      refine sw_aload_n (pc' := 32) (i := 0) cx dX10_on_31 rfl 0 rfl rfl ?_
      obtain ⟨r5, hr5, hf⟩ := bd_s hf
      refine sw_callVw (pc' := 35) (As := []) (rest := []) (w' := (mo_W h cI cJ r5.1 r5.2 fnd tape tmany sort begs tends word valu good bits size shts lent imag befo kept)) cx (k_X10_lends l D h cI cJ cK cS row att fnd tape tmany sort begs tends word valu good bits size shts lent imag befo kept  r5 hr5) pk_yX10_lends ml_RX10_144 ⟨rfl, rfl⟩ ⟨(Nat.le_of_ble_eq_true rfl), (Nat.le_of_ble_eq_true rfl)⟩ ⟨(Nat.le_of_ble_eq_true rfl), (Nat.le_of_ble_eq_true rfl)⟩ 0 rfl rfl rfl rfl (Nat.le_of_ble_eq_true rfl) rfl dX10_on_32 rfl ?_
      refine sw_aload_n (pc' := 36) (i := 0) cx dX10_on_35 rfl 0 rfl rfl ?_
      refine sw_iload_n (pc' := 37) (i := 1) cx dX10_on_36 rfl 1 rfl rfl ?_
      obtain ⟨r6, hr6, hf⟩ := bd_s hf
      refine sw_callVw (pc' := 40) (As := [.int a0]) (rest := []) (w' := (mo_W h cI cJ r6 r5.2 fnd tape tmany sort begs tends word valu good bits size shts lent imag befo kept)) cx (k_X10_go l D h cI cJ cK cS r5.1 r5.2 fnd tape tmany sort begs tends word valu good bits size shts lent imag befo kept a0 r6 hr6) pk_yX10_go ml_RX10_138 ⟨rfl, rfl⟩ ⟨(Nat.le_of_ble_eq_true rfl), (Nat.le_of_ble_eq_true rfl)⟩ ⟨(Nat.le_of_ble_eq_true rfl), (Nat.le_of_ble_eq_true rfl)⟩ 0 rfl rfl rfl rfl (Nat.le_of_ble_eq_true rfl) rfl dX10_on_37 rfl ?_
      refine sw_aload_n (pc' := 41) (i := 0) cx dX10_on_40 rfl 0 rfl rfl ?_
      obtain ⟨r7, hr7, hf⟩ := bd_s hf
      refine sw_callVw (pc' := 44) (As := []) (rest := []) (w' := (mo_W h cI cJ r6 r5.2 fnd tape tmany sort begs tends word valu good bits size shts lent imag befo kept)) cx (k_X10_wholeSet l D h cI cJ cK cS r6 r5.2 fnd tape tmany sort begs tends word valu good bits size shts lent imag befo kept  r7 hr7) pk_yX10_wholeSet ml_RX10_102 ⟨rfl, rfl⟩ ⟨(Nat.le_of_ble_eq_true rfl), (Nat.le_of_ble_eq_true rfl)⟩ ⟨(Nat.le_of_ble_eq_true rfl), (Nat.le_of_ble_eq_true rfl)⟩ 0 rfl rfl rfl rfl (Nat.le_of_ble_eq_true rfl) rfl dX10_on_41 rfl ?_
      refine sw_lstore_n (pc' := 45) (i := 2) (lv' := [(2, .long r7), (0, .ref (h 0)), (1, .int a0)]) cx dX10_on_44 rfl (Nat.le_of_ble_eq_true rfl) rfl rfl ?_
      refine sw_aload_n (pc' := 46) (i := 0) cx dX10_on_45 rfl 1 rfl rfl ?_
      refine sw_iconst (pc' := 47) (v := 0) cx dX10_on_46 iconst_0 rfl ?_
      refine sw_put (pc' := 50) (ws' := (mo_W h cI cJ r6 (0 : Int32) fnd tape tmany sort begs tends word valu good bits size shts lent imag befo kept)) cx in_X10 tyX10 tyX10_ok nmX10 0 rfl rfl 1 (Nat.le_of_ble_eq_true rfl) fl_RX10_39 rfl rfl rfl (Nat.le_of_ble_eq_true rfl) dX10_on_47 rfl rfl ?_
      refine sw_lload_n (pc' := 51) (i := 2) cx dX10_on_50 rfl 0 rfl rfl ?_
      obtain rfl := Option.some.inj hf
      exact sw_lret cx hr hQ dX10_on_51
    · replace hf := it_n c4 hf
      refine sw_aload_n (pc' := 24) (i := 0) cx dX10_on_23 rfl 0 rfl rfl ?_
      refine sw_ldc (pc' := 26) cx ct_RX10_101 dX10_on_24 rfl ?_
      obtain ⟨r8, hr8, hf⟩ := bd_s hf
      refine sw_callVw (pc' := 29) (As := [.int (-1000000005 : Int32)]) (rest := []) (w' := (mo_W h cI cJ row att r8.2 tape tmany sort begs tends word valu good bits size shts lent imag befo kept)) cx (k_X10_finds l D h cI cJ cK cS row att fnd tape tmany sort begs tends word valu good bits size shts lent imag befo kept (-1000000005 : Int32) r8 hr8) pk_yX10_finds ml_RX10_63 ⟨rfl, rfl⟩ ⟨(Nat.le_of_ble_eq_true rfl), (Nat.le_of_ble_eq_true rfl)⟩ ⟨(Nat.le_of_ble_eq_true rfl), (Nat.le_of_ble_eq_true rfl)⟩ 0 rfl rfl rfl rfl (Nat.le_of_ble_eq_true rfl) rfl dX10_on_26 rfl ?_
      refine sw_i2l (pc' := 30) cx dX10_on_29 rfl ?_
      obtain rfl := Option.some.inj hf
      exact sw_lret cx hr hQ dX10_on_30
  · replace hf := it_p c2 hf
    refine sw_aload_n (pc' := 8) (i := 0) cx dX10_on_7 rfl 0 rfl rfl ?_
    refine sw_ldc (pc' := 10) cx ct_RX10_38 dX10_on_8 rfl ?_
    obtain ⟨r9, hr9, hf⟩ := bd_s hf
    refine sw_callVw (pc' := 13) (As := [.int (-1000000001 : Int32)]) (rest := []) (w' := (mo_W h cI cJ row att r9.2 tape tmany sort begs tends word valu good bits size shts lent imag befo kept)) cx (k_X10_finds l D h cI cJ cK cS row att fnd tape tmany sort begs tends word valu good bits size shts lent imag befo kept (-1000000001 : Int32) r9 hr9) pk_yX10_finds ml_RX10_63 ⟨rfl, rfl⟩ ⟨(Nat.le_of_ble_eq_true rfl), (Nat.le_of_ble_eq_true rfl)⟩ ⟨(Nat.le_of_ble_eq_true rfl), (Nat.le_of_ble_eq_true rfl)⟩ 0 rfl rfl rfl rfl (Nat.le_of_ble_eq_true rfl) rfl dX10_on_10 rfl ?_
    refine sw_i2l (pc' := 14) cx dX10_on_13 rfl ?_
    obtain rfl := Option.some.inj hf
    exact sw_lret cx hr hQ dX10_on_14
abbrev rm_X10_reachOn : Room := ({ frames := 6, cells := 0, slots := 0, locals := 132 } : Room)
set_option maxRecDepth 100000 in
set_option maxHeartbeats 4000000 in
theorem k_X10_reachOn (l : Launch) (D : sf_D) (h : Nat → Nat) (cI cJ cK cS : ClassId) (row : Nat → Int32) (att : Int32) (fnd : Nat → Int32) (tape : Nat → Int32) (tmany : Int32) (sort : Int32) (begs : Int32) (tends : Int32) (word : Int64) (valu : Int32) (good : Int32) (bits : Nat → Int32) (size : Nat → Int32) (shts : Nat → Int64) (lent : Nat → Int64) (imag : Nat → Int32) (befo : Nat → Int32) (kept : Int32) (a0 : Int32) (res : Int32 × (Nat → Int32) × Int32 × (Nat → Int32)) (hf : f_X10_reachOn row att fnd a0 = some res) : sf_Ct l yX10_reachOn cX10_reachOn 3 (some .int) rm_X10_reachOn D (sf_ty cI cJ cK cS) [.ref (h 0), .int a0] (mo_W h cI cJ row att fnd tape tmany sort begs tends word valu good bits size shts lent imag befo kept) (some (.int res.1)) (mo_W h cI cJ res.2.1 res.2.2.1 res.2.2.2 tape tmany sort begs tends word valu good bits size shts lent imag befo kept) := by
  refine sf_met (lv := [(0, .ref (h 0)), (1, .int a0)]) (by decide) (Nat.le_of_ble_eq_true rfl) rfl ?_
  intro p e s m args below meth c A Q cx hr hQ
  have cx : sf_Cx p m meth c cX10_reachOn 3 s args RX10 D (sf_ty cI cJ cK cS) A := cx
  unfold f_X10_reachOn at hf
  refine sw_iload_n (pc' := 1) (i := 1) cx dX10_reachOn_0 rfl 1 rfl rfl ?_
  obtain ⟨r1, hr1, hf⟩ := bd_s hf
  refine sw_callS (pc' := 4) (As := [.int a0]) (rest := []) cx (k_X10_isLong l D h cI cJ cK cS a0 r1 hr1) pk_yX10_isLong ml_RX10_141 ⟨rfl, rfl⟩ ⟨(Nat.le_of_ble_eq_true rfl), (Nat.le_of_ble_eq_true rfl)⟩ ⟨(Nat.le_of_ble_eq_true rfl), (Nat.le_of_ble_eq_true rfl)⟩ [] rfl rfl rfl (wn := (mo_W h cI cJ row att fnd tape tmany sort begs tends word valu good bits size shts lent imag befo kept)) rfl rfl (Nat.le_of_ble_eq_true rfl) rfl dX10_reachOn_1 rfl ?_
  refine sw_if_ne (pc' := 7) (tgt := 14) cx dX10_reachOn_4 (by decide) rfl (fun c2 => ?_) (fun c2 => ?_)
  · replace hf := it_n c2 hf
    refine sw_aload_n (pc' := 15) (i := 0) cx dX10_reachOn_14 rfl 0 rfl rfl ?_
    refine sw_iload_n (pc' := 16) (i := 1) cx dX10_reachOn_15 rfl 1 rfl rfl ?_
    obtain ⟨r3, hr3, hf⟩ := bd_s hf
    refine sw_callVw (pc' := 19) (As := [.int a0]) (rest := []) (w' := (mo_W h cI cJ row att fnd tape tmany sort begs tends word valu good bits size shts lent imag befo kept)) cx (k_X10_isLate l D h cI cJ cK cS row att fnd tape tmany sort begs tends word valu good bits size shts lent imag befo kept a0 r3 hr3) pk_yX10_isLate ml_RX10_135 ⟨rfl, rfl⟩ ⟨(Nat.le_of_ble_eq_true rfl), (Nat.le_of_ble_eq_true rfl)⟩ ⟨(Nat.le_of_ble_eq_true rfl), (Nat.le_of_ble_eq_true rfl)⟩ 0 rfl rfl rfl rfl (Nat.le_of_ble_eq_true rfl) rfl dX10_reachOn_16 rfl ?_
    refine sw_if_eq (pc' := 22) (tgt := 29) cx dX10_reachOn_19 (by decide) rfl (fun c4 => ?_) (fun c4 => ?_)
    · replace hf := it_p c4 hf
      refine sw_aload_n (pc' := 30) (i := 0) cx dX10_reachOn_29 rfl 0 rfl rfl ?_
      obtain ⟨r5, hr5, hf⟩ := bd_s hf
      refine sw_callVw (pc' := 33) (As := []) (rest := []) (w' := (mo_W h cI cJ r5.1 r5.2 fnd tape tmany sort begs tends word valu good bits size shts lent imag befo kept)) cx (k_X10_lends l D h cI cJ cK cS row att fnd tape tmany sort begs tends word valu good bits size shts lent imag befo kept  r5 hr5) pk_yX10_lends ml_RX10_144 ⟨rfl, rfl⟩ ⟨(Nat.le_of_ble_eq_true rfl), (Nat.le_of_ble_eq_true rfl)⟩ ⟨(Nat.le_of_ble_eq_true rfl), (Nat.le_of_ble_eq_true rfl)⟩ 0 rfl rfl rfl rfl (Nat.le_of_ble_eq_true rfl) rfl dX10_reachOn_30 rfl ?_
      refine sw_aload_n (pc' := 34) (i := 0) cx dX10_reachOn_33 rfl 0 rfl rfl ?_
      refine sw_iload_n (pc' := 35) (i := 1) cx dX10_reachOn_34 rfl 1 rfl rfl ?_
      obtain ⟨r6, hr6, hf⟩ := bd_s hf
      refine sw_callVw (pc' := 38) (As := [.int a0]) (rest := []) (w' := (mo_W h cI cJ r6 r5.2 fnd tape tmany sort begs tends word valu good bits size shts lent imag befo kept)) cx (k_X10_go l D h cI cJ cK cS r5.1 r5.2 fnd tape tmany sort begs tends word valu good bits size shts lent imag befo kept a0 r6 hr6) pk_yX10_go ml_RX10_138 ⟨rfl, rfl⟩ ⟨(Nat.le_of_ble_eq_true rfl), (Nat.le_of_ble_eq_true rfl)⟩ ⟨(Nat.le_of_ble_eq_true rfl), (Nat.le_of_ble_eq_true rfl)⟩ 0 rfl rfl rfl rfl (Nat.le_of_ble_eq_true rfl) rfl dX10_reachOn_35 rfl ?_
      refine sw_aload_n (pc' := 39) (i := 0) cx dX10_reachOn_38 rfl 0 rfl rfl ?_
      obtain ⟨r7, hr7, hf⟩ := bd_s hf
      refine sw_callVw (pc' := 42) (As := []) (rest := []) (w' := (mo_W h cI cJ r6 r5.2 fnd tape tmany sort begs tends word valu good bits size shts lent imag befo kept)) cx (k_X10_reachNow l D h cI cJ cK cS r6 r5.2 fnd tape tmany sort begs tends word valu good bits size shts lent imag befo kept  r7 hr7) pk_yX10_reachNow ml_RX10_119 ⟨rfl, rfl⟩ ⟨(Nat.le_of_ble_eq_true rfl), (Nat.le_of_ble_eq_true rfl)⟩ ⟨(Nat.le_of_ble_eq_true rfl), (Nat.le_of_ble_eq_true rfl)⟩ 0 rfl rfl rfl rfl (Nat.le_of_ble_eq_true rfl) rfl dX10_reachOn_39 rfl ?_
      refine sw_istore_n (pc' := 43) (i := 2) (lv' := [(2, .int r7), (0, .ref (h 0)), (1, .int a0)]) cx dX10_reachOn_42 rfl (Nat.le_of_ble_eq_true rfl) rfl rfl ?_
      refine sw_aload_n (pc' := 44) (i := 0) cx dX10_reachOn_43 rfl 1 rfl rfl ?_
      refine sw_iconst (pc' := 45) (v := 0) cx dX10_reachOn_44 iconst_0 rfl ?_
      refine sw_put (pc' := 48) (ws' := (mo_W h cI cJ r6 (0 : Int32) fnd tape tmany sort begs tends word valu good bits size shts lent imag befo kept)) cx in_X10 tyX10 tyX10_ok nmX10 0 rfl rfl 1 (Nat.le_of_ble_eq_true rfl) fl_RX10_39 rfl rfl rfl (Nat.le_of_ble_eq_true rfl) dX10_reachOn_45 rfl rfl ?_
      refine sw_iload_n (pc' := 49) (i := 2) cx dX10_reachOn_48 rfl 0 rfl rfl ?_
      obtain rfl := Option.some.inj hf
      exact sw_iret cx hr hQ dX10_reachOn_49
    · replace hf := it_n c4 hf
      refine sw_aload_n (pc' := 23) (i := 0) cx dX10_reachOn_22 rfl 0 rfl rfl ?_
      refine sw_ldc (pc' := 25) cx ct_RX10_101 dX10_reachOn_23 rfl ?_
      obtain ⟨r8, hr8, hf⟩ := bd_s hf
      refine sw_callVw (pc' := 28) (As := [.int (-1000000005 : Int32)]) (rest := []) (w' := (mo_W h cI cJ row att r8.2 tape tmany sort begs tends word valu good bits size shts lent imag befo kept)) cx (k_X10_finds l D h cI cJ cK cS row att fnd tape tmany sort begs tends word valu good bits size shts lent imag befo kept (-1000000005 : Int32) r8 hr8) pk_yX10_finds ml_RX10_63 ⟨rfl, rfl⟩ ⟨(Nat.le_of_ble_eq_true rfl), (Nat.le_of_ble_eq_true rfl)⟩ ⟨(Nat.le_of_ble_eq_true rfl), (Nat.le_of_ble_eq_true rfl)⟩ 0 rfl rfl rfl rfl (Nat.le_of_ble_eq_true rfl) rfl dX10_reachOn_25 rfl ?_
      obtain rfl := Option.some.inj hf
      exact sw_iret cx hr hQ dX10_reachOn_28
  · replace hf := it_p c2 hf
    refine sw_aload_n (pc' := 8) (i := 0) cx dX10_reachOn_7 rfl 0 rfl rfl ?_
    refine sw_ldc (pc' := 10) cx ct_RX10_38 dX10_reachOn_8 rfl ?_
    obtain ⟨r9, hr9, hf⟩ := bd_s hf
    refine sw_callVw (pc' := 13) (As := [.int (-1000000001 : Int32)]) (rest := []) (w' := (mo_W h cI cJ row att r9.2 tape tmany sort begs tends word valu good bits size shts lent imag befo kept)) cx (k_X10_finds l D h cI cJ cK cS row att fnd tape tmany sort begs tends word valu good bits size shts lent imag befo kept (-1000000001 : Int32) r9 hr9) pk_yX10_finds ml_RX10_63 ⟨rfl, rfl⟩ ⟨(Nat.le_of_ble_eq_true rfl), (Nat.le_of_ble_eq_true rfl)⟩ ⟨(Nat.le_of_ble_eq_true rfl), (Nat.le_of_ble_eq_true rfl)⟩ 0 rfl rfl rfl rfl (Nat.le_of_ble_eq_true rfl) rfl dX10_reachOn_10 rfl ?_
    obtain rfl := Option.some.inj hf
    exact sw_iret cx hr hQ dX10_reachOn_13
abbrev rm_X10_pass : Room := ({ frames := 5, cells := 0, slots := 0, locals := 110 } : Room)
set_option maxRecDepth 100000 in
set_option maxHeartbeats 4000000 in
theorem k_X10_pass (l : Launch) (D : sf_D) (h : Nat → Nat) (cI cJ cK cS : ClassId) (row : Nat → Int32) (att : Int32) (fnd : Nat → Int32) (tape : Nat → Int32) (tmany : Int32) (sort : Int32) (begs : Int32) (tends : Int32) (word : Int64) (valu : Int32) (good : Int32) (bits : Nat → Int32) (size : Nat → Int32) (shts : Nat → Int64) (lent : Nat → Int64) (imag : Nat → Int32) (befo : Nat → Int32) (kept : Int32)  (res : Int32 × (Nat → Int32) × Int32 × (Nat → Int32)) (hf : f_X10_pass row att fnd = some res) : sf_Ct l yX10_pass cX10_pass 2 (some .int) rm_X10_pass D (sf_ty cI cJ cK cS) [.ref (h 0)] (mo_W h cI cJ row att fnd tape tmany sort begs tends word valu good bits size shts lent imag befo kept) (some (.int res.1)) (mo_W h cI cJ res.2.1 res.2.2.1 res.2.2.2 tape tmany sort begs tends word valu good bits size shts lent imag befo kept) := by
  refine sf_met (lv := [(0, .ref (h 0))]) (by decide) (Nat.le_of_ble_eq_true rfl) rfl ?_
  intro p e s m args below meth c A Q cx hr hQ
  have cx : sf_Cx p m meth c cX10_pass 2 s args RX10 D (sf_ty cI cJ cK cS) A := cx
  have B49 : ∀ (row : Nat → Int32) (att : Int32) (fnd : Nat → Int32) (x1 : Int32), f_X10_pass_b49 row att fnd x1 = some res → sf_W p l e rm_X10_pass s m args below meth c 0 0 Q 2 D A (mo_W h cI cJ row att fnd tape tmany sort begs tends word valu good bits size shts lent imag befo kept) [(0, .ref (h 0)), (1, .int x1)] 49 [] := by
    intro row att fnd x1 hf
    unfold f_X10_pass_b49 at hf
    refine sw_aload_n (pc' := 50) (i := 0) cx dX10_pass_49 rfl 0 rfl rfl ?_
    refine sw_iconst (pc' := 51) (v := 0) cx dX10_pass_50 iconst_0 rfl ?_
    refine sw_put (pc' := 54) (ws' := (mo_W h cI cJ row (0 : Int32) fnd tape tmany sort begs tends word valu good bits size shts lent imag befo kept)) cx in_X10 tyX10 tyX10_ok nmX10 0 rfl rfl 1 (Nat.le_of_ble_eq_true rfl) fl_RX10_39 rfl rfl rfl (Nat.le_of_ble_eq_true rfl) dX10_pass_51 rfl rfl ?_
    refine sw_iload_n (pc' := 55) (i := 1) cx dX10_pass_54 rfl 1 rfl rfl ?_
    refine sw_sipush (pc' := 58) (v := 200) cx dX10_pass_55 sipush_200 rfl ?_
    refine sw_icmp_le (pc' := 61) (tgt := 70) cx dX10_pass_58 (by decide) rfl (fun c9 => ?_) (fun c9 => ?_)
    · replace hf := it_p c9 hf
      refine sw_iload_n (pc' := 71) (i := 1) cx dX10_pass_70 rfl 1 rfl rfl ?_
      obtain rfl := Option.some.inj hf
      exact sw_iret cx hr hQ dX10_pass_71
    · replace hf := it_n c9 hf
      refine sw_aload_n (pc' := 62) (i := 0) cx dX10_pass_61 rfl 0 rfl rfl ?_
      refine sw_ldc (pc' := 64) cx ct_RX10_147 dX10_pass_62 rfl ?_
      obtain ⟨r10, hr10, hf⟩ := bd_s hf
      refine sw_callVw (pc' := 67) (As := [.int (-1000000004 : Int32)]) (rest := []) (w' := (mo_W h cI cJ row (0 : Int32) r10.2 tape tmany sort begs tends word valu good bits size shts lent imag befo kept)) cx (k_X10_finds l D h cI cJ cK cS row (0 : Int32) fnd tape tmany sort begs tends word valu good bits size shts lent imag befo kept (-1000000004 : Int32) r10 hr10) pk_yX10_finds ml_RX10_63 ⟨rfl, rfl⟩ ⟨(Nat.le_of_ble_eq_true rfl), (Nat.le_of_ble_eq_true rfl)⟩ ⟨(Nat.le_of_ble_eq_true rfl), (Nat.le_of_ble_eq_true rfl)⟩ 0 rfl rfl rfl rfl (Nat.le_of_ble_eq_true rfl) rfl dX10_pass_64 rfl ?_
      refine sw_goto (tgt := 71) cx dX10_pass_67 (by decide) ?_
      obtain rfl := Option.some.inj hf
      exact sw_iret cx hr hQ dX10_pass_71
  have B23 : ∀ (n : Nat), ∀ (row : Nat → Int32) (att : Int32) (fnd : Nat → Int32) (x1 : Int32), f_X10_pass_b23 n row att fnd x1 = some res → sf_W p l e rm_X10_pass s m args below meth c 0 0 Q 2 D A (mo_W h cI cJ row att fnd tape tmany sort begs tends word valu good bits size shts lent imag befo kept) [(0, .ref (h 0)), (1, .int x1)] 23 [] := by
    intro n
    induction n with
    | zero => intro row att fnd x1 hf; rw [f_X10_pass_b23] at hf; cases hf
    | succ n ih =>
      intro row att fnd x1 hf
      rw [f_X10_pass_b23] at hf
      refine sw_iload_n (pc' := 24) (i := 1) cx dX10_pass_23 rfl 1 rfl rfl ?_
      refine sw_sipush (pc' := 27) (v := 200) cx dX10_pass_24 sipush_200 rfl ?_
      refine sw_icmp_gt (pc' := 30) (tgt := 49) cx dX10_pass_27 (by decide) rfl (fun c5 => ?_) (fun c5 => ?_)
      · replace hf := it_p c5 hf
        exact sw_lv [0, 1] rfl (B49 row att fnd x1 hf)
      · replace hf := it_n c5 hf
        refine sw_aload_n (pc' := 31) (i := 0) cx dX10_pass_30 rfl 0 rfl rfl ?_
        obtain ⟨r6, hr6, hf⟩ := bd_s hf
        refine sw_callVw (pc' := 34) (As := []) (rest := []) (w' := (mo_W h cI cJ row att fnd tape tmany sort begs tends word valu good bits size shts lent imag befo kept)) cx (k_X10_reachNow l D h cI cJ cK cS row att fnd tape tmany sort begs tends word valu good bits size shts lent imag befo kept  r6 hr6) pk_yX10_reachNow ml_RX10_119 ⟨rfl, rfl⟩ ⟨(Nat.le_of_ble_eq_true rfl), (Nat.le_of_ble_eq_true rfl)⟩ ⟨(Nat.le_of_ble_eq_true rfl), (Nat.le_of_ble_eq_true rfl)⟩ 0 rfl rfl rfl rfl (Nat.le_of_ble_eq_true rfl) rfl dX10_pass_31 rfl ?_
        refine sw_bipush (pc' := 36) (v := 40) cx dX10_pass_34 bipush_40 rfl ?_
        refine sw_icmp_ge (pc' := 39) (tgt := 49) cx dX10_pass_36 (by decide) rfl (fun c7 => ?_) (fun c7 => ?_)
        · replace hf := it_p c7 hf
          exact sw_lv [0, 1] rfl (B49 row att fnd x1 hf)
        · replace hf := it_n c7 hf
          refine sw_aload_n (pc' := 40) (i := 0) cx dX10_pass_39 rfl 0 rfl rfl ?_
          obtain ⟨r8, hr8, hf⟩ := bd_s hf
          refine sw_callVw (pc' := 43) (As := []) (rest := []) (w' := (mo_W h cI cJ r8 att fnd tape tmany sort begs tends word valu good bits size shts lent imag befo kept)) cx (k_X10_yearGoes l D h cI cJ cK cS row att fnd tape tmany sort begs tends word valu good bits size shts lent imag befo kept  r8 hr8) pk_yX10_yearGoes ml_RX10_132 ⟨rfl, rfl⟩ ⟨(Nat.le_of_ble_eq_true rfl), (Nat.le_of_ble_eq_true rfl)⟩ ⟨(Nat.le_of_ble_eq_true rfl), (Nat.le_of_ble_eq_true rfl)⟩ 0 rfl rfl rfl rfl (Nat.le_of_ble_eq_true rfl) rfl dX10_pass_40 rfl ?_
          refine sw_iinc (pc' := 46) (v := (x1 + (1 : Int32))) (lv' := [(1, .int (x1 + (1 : Int32))), (0, .ref (h 0))]) cx dX10_pass_43 1 rfl rfl (Nat.le_of_ble_eq_true rfl) rfl rfl ?_
          refine sw_goto (tgt := 23) cx dX10_pass_46 (by decide) ?_
          exact sw_lv [1, 0] rfl (ih r8 att fnd (x1 + (1 : Int32)) hf)
  unfold f_X10_pass at hf
  refine sw_aload_n (pc' := 1) (i := 0) cx dX10_pass_0 rfl 0 rfl rfl ?_
  refine sw_sipush (pc' := 4) (v := 200) cx dX10_pass_1 sipush_200 rfl ?_
  obtain ⟨r1, hr1, hf⟩ := bd_s hf
  refine sw_callVw (pc' := 7) (As := [.int (200 : Int32)]) (rest := []) (w' := (mo_W h cI cJ row att fnd tape tmany sort begs tends word valu good bits size shts lent imag befo kept)) cx (k_X10_isLate l D h cI cJ cK cS row att fnd tape tmany sort begs tends word valu good bits size shts lent imag befo kept (200 : Int32) r1 hr1) pk_yX10_isLate ml_RX10_135 ⟨rfl, rfl⟩ ⟨(Nat.le_of_ble_eq_true rfl), (Nat.le_of_ble_eq_true rfl)⟩ ⟨(Nat.le_of_ble_eq_true rfl), (Nat.le_of_ble_eq_true rfl)⟩ 0 rfl rfl rfl rfl (Nat.le_of_ble_eq_true rfl) rfl dX10_pass_4 rfl ?_
  refine sw_if_eq (pc' := 10) (tgt := 17) cx dX10_pass_7 (by decide) rfl (fun c2 => ?_) (fun c2 => ?_)
  · replace hf := it_p c2 hf
    refine sw_aload_n (pc' := 18) (i := 0) cx dX10_pass_17 rfl 0 rfl rfl ?_
    obtain ⟨r3, hr3, hf⟩ := bd_s hf
    refine sw_callVw (pc' := 21) (As := []) (rest := []) (w' := (mo_W h cI cJ r3.1 r3.2 fnd tape tmany sort begs tends word valu good bits size shts lent imag befo kept)) cx (k_X10_lends l D h cI cJ cK cS row att fnd tape tmany sort begs tends word valu good bits size shts lent imag befo kept  r3 hr3) pk_yX10_lends ml_RX10_144 ⟨rfl, rfl⟩ ⟨(Nat.le_of_ble_eq_true rfl), (Nat.le_of_ble_eq_true rfl)⟩ ⟨(Nat.le_of_ble_eq_true rfl), (Nat.le_of_ble_eq_true rfl)⟩ 0 rfl rfl rfl rfl (Nat.le_of_ble_eq_true rfl) rfl dX10_pass_18 rfl ?_
    refine sw_iconst (pc' := 22) (v := 0) cx dX10_pass_21 iconst_0 rfl ?_
    refine sw_istore_n (pc' := 23) (i := 1) (lv' := [(1, .int (0 : Int32)), (0, .ref (h 0))]) cx dX10_pass_22 rfl (Nat.le_of_ble_eq_true rfl) rfl rfl ?_
    exact sw_lv [1, 0] rfl (B23 1000 r3.1 r3.2 fnd (0 : Int32) hf)
  · replace hf := it_n c2 hf
    refine sw_aload_n (pc' := 11) (i := 0) cx dX10_pass_10 rfl 0 rfl rfl ?_
    refine sw_ldc (pc' := 13) cx ct_RX10_101 dX10_pass_11 rfl ?_
    obtain ⟨r4, hr4, hf⟩ := bd_s hf
    refine sw_callVw (pc' := 16) (As := [.int (-1000000005 : Int32)]) (rest := []) (w' := (mo_W h cI cJ row att r4.2 tape tmany sort begs tends word valu good bits size shts lent imag befo kept)) cx (k_X10_finds l D h cI cJ cK cS row att fnd tape tmany sort begs tends word valu good bits size shts lent imag befo kept (-1000000005 : Int32) r4 hr4) pk_yX10_finds ml_RX10_63 ⟨rfl, rfl⟩ ⟨(Nat.le_of_ble_eq_true rfl), (Nat.le_of_ble_eq_true rfl)⟩ ⟨(Nat.le_of_ble_eq_true rfl), (Nat.le_of_ble_eq_true rfl)⟩ 0 rfl rfl rfl rfl (Nat.le_of_ble_eq_true rfl) rfl dX10_pass_13 rfl ?_
    obtain rfl := Option.some.inj hf
    exact sw_iret cx hr hQ dX10_pass_16
abbrev rm_X10_paid : Room := ({ frames := 5, cells := 0, slots := 0, locals := 110 } : Room)
set_option maxRecDepth 100000 in
set_option maxHeartbeats 4000000 in
theorem k_X10_paid (l : Launch) (D : sf_D) (h : Nat → Nat) (cI cJ cK cS : ClassId) (row : Nat → Int32) (att : Int32) (fnd : Nat → Int32) (tape : Nat → Int32) (tmany : Int32) (sort : Int32) (begs : Int32) (tends : Int32) (word : Int64) (valu : Int32) (good : Int32) (bits : Nat → Int32) (size : Nat → Int32) (shts : Nat → Int64) (lent : Nat → Int64) (imag : Nat → Int32) (befo : Nat → Int32) (kept : Int32) (a0 : Int32) (res : Int32 × (Nat → Int32) × Int32 × (Nat → Int32)) (hf : f_X10_paid row att fnd a0 = some res) : sf_Ct l yX10_paid cX10_paid 3 (some .int) rm_X10_paid D (sf_ty cI cJ cK cS) [.ref (h 0), .int a0] (mo_W h cI cJ row att fnd tape tmany sort begs tends word valu good bits size shts lent imag befo kept) (some (.int res.1)) (mo_W h cI cJ res.2.1 res.2.2.1 res.2.2.2 tape tmany sort begs tends word valu good bits size shts lent imag befo kept) := by
  refine sf_met (lv := [(0, .ref (h 0)), (1, .int a0)]) (by decide) (Nat.le_of_ble_eq_true rfl) rfl ?_
  intro p e s m args below meth c A Q cx hr hQ
  have cx : sf_Cx p m meth c cX10_paid 3 s args RX10 D (sf_ty cI cJ cK cS) A := cx
  have B64 : ∀ (row : Nat → Int32) (att : Int32) (fnd : Nat → Int32) (x2 : Int32), f_X10_paid_b64 row att fnd x2 = some res → sf_W p l e rm_X10_paid s m args below meth c 0 0 Q 3 D A (mo_W h cI cJ row att fnd tape tmany sort begs tends word valu good bits size shts lent imag befo kept) [(0, .ref (h 0)), (2, .int x2)] 64 [] := by
    intro row att fnd x2 hf
    unfold f_X10_paid_b64 at hf
    refine sw_aload_n (pc' := 65) (i := 0) cx dX10_paid_64 rfl 0 rfl rfl ?_
    refine sw_iconst (pc' := 66) (v := 0) cx dX10_paid_65 iconst_0 rfl ?_
    refine sw_put (pc' := 69) (ws' := (mo_W h cI cJ row (0 : Int32) fnd tape tmany sort begs tends word valu good bits size shts lent imag befo kept)) cx in_X10 tyX10 tyX10_ok nmX10 0 rfl rfl 1 (Nat.le_of_ble_eq_true rfl) fl_RX10_39 rfl rfl rfl (Nat.le_of_ble_eq_true rfl) dX10_paid_66 rfl rfl ?_
    refine sw_iload_n (pc' := 70) (i := 2) cx dX10_paid_69 rfl 1 rfl rfl ?_
    refine sw_sipush (pc' := 73) (v := 200) cx dX10_paid_70 sipush_200 rfl ?_
    refine sw_icmp_le (pc' := 76) (tgt := 85) cx dX10_paid_73 (by decide) rfl (fun c12 => ?_) (fun c12 => ?_)
    · replace hf := it_p c12 hf
      refine sw_iload_n (pc' := 86) (i := 2) cx dX10_paid_85 rfl 1 rfl rfl ?_
      obtain rfl := Option.some.inj hf
      exact sw_iret cx hr hQ dX10_paid_86
    · replace hf := it_n c12 hf
      refine sw_aload_n (pc' := 77) (i := 0) cx dX10_paid_76 rfl 0 rfl rfl ?_
      refine sw_ldc (pc' := 79) cx ct_RX10_147 dX10_paid_77 rfl ?_
      obtain ⟨r13, hr13, hf⟩ := bd_s hf
      refine sw_callVw (pc' := 82) (As := [.int (-1000000004 : Int32)]) (rest := []) (w' := (mo_W h cI cJ row (0 : Int32) r13.2 tape tmany sort begs tends word valu good bits size shts lent imag befo kept)) cx (k_X10_finds l D h cI cJ cK cS row (0 : Int32) fnd tape tmany sort begs tends word valu good bits size shts lent imag befo kept (-1000000004 : Int32) r13 hr13) pk_yX10_finds ml_RX10_63 ⟨rfl, rfl⟩ ⟨(Nat.le_of_ble_eq_true rfl), (Nat.le_of_ble_eq_true rfl)⟩ ⟨(Nat.le_of_ble_eq_true rfl), (Nat.le_of_ble_eq_true rfl)⟩ 0 rfl rfl rfl rfl (Nat.le_of_ble_eq_true rfl) rfl dX10_paid_79 rfl ?_
      refine sw_goto (tgt := 86) cx dX10_paid_82 (by decide) ?_
      obtain rfl := Option.some.inj hf
      exact sw_iret cx hr hQ dX10_paid_86
  have B38 : ∀ (n : Nat), ∀ (row : Nat → Int32) (att : Int32) (fnd : Nat → Int32) (x1 : Int32) (x2 : Int32), f_X10_paid_b38 n row att fnd x1 x2 = some res → sf_W p l e rm_X10_paid s m args below meth c 0 0 Q 3 D A (mo_W h cI cJ row att fnd tape tmany sort begs tends word valu good bits size shts lent imag befo kept) [(0, .ref (h 0)), (1, .int x1), (2, .int x2)] 38 [] := by
    intro n
    induction n with
    | zero => intro row att fnd x1 x2 hf; rw [f_X10_paid_b38] at hf; cases hf
    | succ n ih =>
      intro row att fnd x1 x2 hf
      rw [f_X10_paid_b38] at hf
      refine sw_iload_n (pc' := 39) (i := 2) cx dX10_paid_38 rfl 2 rfl rfl ?_
      refine sw_sipush (pc' := 42) (v := 200) cx dX10_paid_39 sipush_200 rfl ?_
      refine sw_icmp_gt (pc' := 45) (tgt := 64) cx dX10_paid_42 (by decide) rfl (fun c8 => ?_) (fun c8 => ?_)
      · replace hf := it_p c8 hf
        exact sw_lv [0, 2] rfl (B64 row att fnd x2 hf)
      · replace hf := it_n c8 hf
        refine sw_aload_n (pc' := 46) (i := 0) cx dX10_paid_45 rfl 0 rfl rfl ?_
        refine sw_iload_n (pc' := 47) (i := 1) cx dX10_paid_46 rfl 1 rfl rfl ?_
        refine sw_iconst (pc' := 48) (v := 1) cx dX10_paid_47 iconst_1 rfl ?_
        obtain ⟨r9, hr9, hf⟩ := bd_s hf
        refine sw_callVw (pc' := 51) (As := [.int x1, .int (1 : Int32)]) (rest := []) (w' := (mo_W h cI cJ row att fnd tape tmany sort begs tends word valu good bits size shts lent imag befo kept)) cx (k_X10_fineOf l D h cI cJ cK cS row att fnd tape tmany sort begs tends word valu good bits size shts lent imag befo kept x1 (1 : Int32) r9 hr9) pk_yX10_fineOf ml_RX10_51 ⟨rfl, rfl⟩ ⟨(Nat.le_of_ble_eq_true rfl), (Nat.le_of_ble_eq_true rfl)⟩ ⟨(Nat.le_of_ble_eq_true rfl), (Nat.le_of_ble_eq_true rfl)⟩ 0 rfl rfl rfl rfl (Nat.le_of_ble_eq_true rfl) rfl dX10_paid_48 rfl ?_
        refine sw_if_le (pc' := 54) (tgt := 64) cx dX10_paid_51 (by decide) rfl (fun c10 => ?_) (fun c10 => ?_)
        · replace hf := it_p c10 hf
          exact sw_lv [0, 2] rfl (B64 row att fnd x2 hf)
        · replace hf := it_n c10 hf
          refine sw_aload_n (pc' := 55) (i := 0) cx dX10_paid_54 rfl 0 rfl rfl ?_
          obtain ⟨r11, hr11, hf⟩ := bd_s hf
          refine sw_callVw (pc' := 58) (As := []) (rest := []) (w' := (mo_W h cI cJ r11 att fnd tape tmany sort begs tends word valu good bits size shts lent imag befo kept)) cx (k_X10_yearGoes l D h cI cJ cK cS row att fnd tape tmany sort begs tends word valu good bits size shts lent imag befo kept  r11 hr11) pk_yX10_yearGoes ml_RX10_132 ⟨rfl, rfl⟩ ⟨(Nat.le_of_ble_eq_true rfl), (Nat.le_of_ble_eq_true rfl)⟩ ⟨(Nat.le_of_ble_eq_true rfl), (Nat.le_of_ble_eq_true rfl)⟩ 0 rfl rfl rfl rfl (Nat.le_of_ble_eq_true rfl) rfl dX10_paid_55 rfl ?_
          refine sw_iinc (pc' := 61) (v := (x2 + (1 : Int32))) (lv' := [(2, .int (x2 + (1 : Int32))), (0, .ref (h 0)), (1, .int x1)]) cx dX10_paid_58 2 rfl rfl (Nat.le_of_ble_eq_true rfl) rfl rfl ?_
          refine sw_goto (tgt := 38) cx dX10_paid_61 (by decide) ?_
          exact sw_lv [1, 2, 0] rfl (ih r11 att fnd x1 (x2 + (1 : Int32)) hf)
  unfold f_X10_paid at hf
  refine sw_aload_n (pc' := 1) (i := 0) cx dX10_paid_0 rfl 0 rfl rfl ?_
  refine sw_iload_n (pc' := 2) (i := 1) cx dX10_paid_1 rfl 1 rfl rfl ?_
  obtain ⟨r1, hr1, hf⟩ := bd_s hf
  refine sw_callVw (pc' := 5) (As := [.int a0]) (rest := []) (w' := (mo_W h cI cJ row att fnd tape tmany sort begs tends word valu good bits size shts lent imag befo kept)) cx (k_X10_isFine l D h cI cJ cK cS row att fnd tape tmany sort begs tends word valu good bits size shts lent imag befo kept a0 r1 hr1) pk_yX10_isFine ml_RX10_81 ⟨rfl, rfl⟩ ⟨(Nat.le_of_ble_eq_true rfl), (Nat.le_of_ble_eq_true rfl)⟩ ⟨(Nat.le_of_ble_eq_true rfl), (Nat.le_of_ble_eq_true rfl)⟩ 0 rfl rfl rfl rfl (Nat.le_of_ble_eq_true rfl) rfl dX10_paid_2 rfl ?_
  refine sw_if_ne (pc' := 8) (tgt := 15) cx dX10_paid_5 (by decide) rfl (fun c2 => ?_) (fun c2 => ?_)
  · replace hf := it_n c2 hf
    refine sw_aload_n (pc' := 16) (i := 0) cx dX10_paid_15 rfl 0 rfl rfl ?_
    refine sw_sipush (pc' := 19) (v := 200) cx dX10_paid_16 sipush_200 rfl ?_
    obtain ⟨r3, hr3, hf⟩ := bd_s hf
    refine sw_callVw (pc' := 22) (As := [.int (200 : Int32)]) (rest := []) (w' := (mo_W h cI cJ row att fnd tape tmany sort begs tends word valu good bits size shts lent imag befo kept)) cx (k_X10_isLate l D h cI cJ cK cS row att fnd tape tmany sort begs tends word valu good bits size shts lent imag befo kept (200 : Int32) r3 hr3) pk_yX10_isLate ml_RX10_135 ⟨rfl, rfl⟩ ⟨(Nat.le_of_ble_eq_true rfl), (Nat.le_of_ble_eq_true rfl)⟩ ⟨(Nat.le_of_ble_eq_true rfl), (Nat.le_of_ble_eq_true rfl)⟩ 0 rfl rfl rfl rfl (Nat.le_of_ble_eq_true rfl) rfl dX10_paid_19 rfl ?_
    refine sw_if_eq (pc' := 25) (tgt := 32) cx dX10_paid_22 (by decide) rfl (fun c4 => ?_) (fun c4 => ?_)
    · replace hf := it_p c4 hf
      refine sw_aload_n (pc' := 33) (i := 0) cx dX10_paid_32 rfl 0 rfl rfl ?_
      obtain ⟨r5, hr5, hf⟩ := bd_s hf
      refine sw_callVw (pc' := 36) (As := []) (rest := []) (w' := (mo_W h cI cJ r5.1 r5.2 fnd tape tmany sort begs tends word valu good bits size shts lent imag befo kept)) cx (k_X10_lends l D h cI cJ cK cS row att fnd tape tmany sort begs tends word valu good bits size shts lent imag befo kept  r5 hr5) pk_yX10_lends ml_RX10_144 ⟨rfl, rfl⟩ ⟨(Nat.le_of_ble_eq_true rfl), (Nat.le_of_ble_eq_true rfl)⟩ ⟨(Nat.le_of_ble_eq_true rfl), (Nat.le_of_ble_eq_true rfl)⟩ 0 rfl rfl rfl rfl (Nat.le_of_ble_eq_true rfl) rfl dX10_paid_33 rfl ?_
      refine sw_iconst (pc' := 37) (v := 0) cx dX10_paid_36 iconst_0 rfl ?_
      refine sw_istore_n (pc' := 38) (i := 2) (lv' := [(2, .int (0 : Int32)), (0, .ref (h 0)), (1, .int a0)]) cx dX10_paid_37 rfl (Nat.le_of_ble_eq_true rfl) rfl rfl ?_
      exact sw_lv [1, 2, 0] rfl (B38 1000 r5.1 r5.2 fnd a0 (0 : Int32) hf)
    · replace hf := it_n c4 hf
      refine sw_aload_n (pc' := 26) (i := 0) cx dX10_paid_25 rfl 0 rfl rfl ?_
      refine sw_ldc (pc' := 28) cx ct_RX10_101 dX10_paid_26 rfl ?_
      obtain ⟨r6, hr6, hf⟩ := bd_s hf
      refine sw_callVw (pc' := 31) (As := [.int (-1000000005 : Int32)]) (rest := []) (w' := (mo_W h cI cJ row att r6.2 tape tmany sort begs tends word valu good bits size shts lent imag befo kept)) cx (k_X10_finds l D h cI cJ cK cS row att fnd tape tmany sort begs tends word valu good bits size shts lent imag befo kept (-1000000005 : Int32) r6 hr6) pk_yX10_finds ml_RX10_63 ⟨rfl, rfl⟩ ⟨(Nat.le_of_ble_eq_true rfl), (Nat.le_of_ble_eq_true rfl)⟩ ⟨(Nat.le_of_ble_eq_true rfl), (Nat.le_of_ble_eq_true rfl)⟩ 0 rfl rfl rfl rfl (Nat.le_of_ble_eq_true rfl) rfl dX10_paid_28 rfl ?_
      obtain rfl := Option.some.inj hf
      exact sw_iret cx hr hQ dX10_paid_31
  · replace hf := it_p c2 hf
    refine sw_aload_n (pc' := 9) (i := 0) cx dX10_paid_8 rfl 0 rfl rfl ?_
    refine sw_ldc (pc' := 11) cx ct_RX10_38 dX10_paid_9 rfl ?_
    obtain ⟨r7, hr7, hf⟩ := bd_s hf
    refine sw_callVw (pc' := 14) (As := [.int (-1000000001 : Int32)]) (rest := []) (w' := (mo_W h cI cJ row att r7.2 tape tmany sort begs tends word valu good bits size shts lent imag befo kept)) cx (k_X10_finds l D h cI cJ cK cS row att fnd tape tmany sort begs tends word valu good bits size shts lent imag befo kept (-1000000001 : Int32) r7 hr7) pk_yX10_finds ml_RX10_63 ⟨rfl, rfl⟩ ⟨(Nat.le_of_ble_eq_true rfl), (Nat.le_of_ble_eq_true rfl)⟩ ⟨(Nat.le_of_ble_eq_true rfl), (Nat.le_of_ble_eq_true rfl)⟩ 0 rfl rfl rfl rfl (Nat.le_of_ble_eq_true rfl) rfl dX10_paid_11 rfl ?_
    obtain rfl := Option.some.inj hf
    exact sw_iret cx hr hQ dX10_paid_14
abbrev rm_X10_farthest : Room := ({ frames := 5, cells := 0, slots := 0, locals := 110 } : Room)
set_option maxRecDepth 100000 in
set_option maxHeartbeats 4000000 in
theorem k_X10_farthest (l : Launch) (D : sf_D) (h : Nat → Nat) (cI cJ cK cS : ClassId) (row : Nat → Int32) (att : Int32) (fnd : Nat → Int32) (tape : Nat → Int32) (tmany : Int32) (sort : Int32) (begs : Int32) (tends : Int32) (word : Int64) (valu : Int32) (good : Int32) (bits : Nat → Int32) (size : Nat → Int32) (shts : Nat → Int64) (lent : Nat → Int64) (imag : Nat → Int32) (befo : Nat → Int32) (kept : Int32) (a0 : Int32) (res : Int32 × (Nat → Int32) × Int32 × (Nat → Int32)) (hf : f_X10_farthest row att fnd a0 = some res) : sf_Ct l yX10_farthest cX10_farthest 5 (some .int) rm_X10_farthest D (sf_ty cI cJ cK cS) [.ref (h 0), .int a0] (mo_W h cI cJ row att fnd tape tmany sort begs tends word valu good bits size shts lent imag befo kept) (some (.int res.1)) (mo_W h cI cJ res.2.1 res.2.2.1 res.2.2.2 tape tmany sort begs tends word valu good bits size shts lent imag befo kept) := by
  refine sf_met (lv := [(0, .ref (h 0)), (1, .int a0)]) (by decide) (Nat.le_of_ble_eq_true rfl) rfl ?_
  intro p e s m args below meth c A Q cx hr hQ
  have cx : sf_Cx p m meth c cX10_farthest 5 s args RX10 D (sf_ty cI cJ cK cS) A := cx
  have B67 : ∀ (kk : (Nat → Int32) → Int32 → (Nat → Int32) → Int32 → Int32 → Int32 → Option (Int32 × (Nat → Int32) × Int32 × (Nat → Int32))), (∀ (row : Nat → Int32) (att : Int32) (fnd : Nat → Int32) (x1 : Int32) (x2 : Int32) (x3 : Int32), kk row att fnd x1 x2 x3 = some res → sf_W p l e rm_X10_farthest s m args below meth c 0 0 Q 5 D A (mo_W h cI cJ row att fnd tape tmany sort begs tends word valu good bits size shts lent imag befo kept) [(0, .ref (h 0)), (1, .int x1), (2, .int x2), (3, .int x3)] 40 []) → ∀ (row : Nat → Int32) (att : Int32) (fnd : Nat → Int32) (x1 : Int32) (x3 : Int32) (s0 : Int32), f_X10_farthest_b67 kk row att fnd x1 x3 s0 = some res → sf_W p l e rm_X10_farthest s m args below meth c 0 0 Q 5 D A (mo_W h cI cJ row att fnd tape tmany sort begs tends word valu good bits size shts lent imag befo kept) [(0, .ref (h 0)), (1, .int x1), (3, .int x3)] 67 [.int s0] := by
    intro kk hkk row att fnd x1 x3 s0 hf
    unfold f_X10_farthest_b67 at hf
    refine sw_istore_n (pc' := 68) (i := 2) (lv' := [(2, .int s0), (0, .ref (h 0)), (1, .int x1), (3, .int x3)]) cx dX10_farthest_67 rfl (Nat.le_of_ble_eq_true rfl) rfl rfl ?_
    refine sw_iinc (pc' := 71) (v := (x3 + (1 : Int32))) (lv' := [(3, .int (x3 + (1 : Int32))), (2, .int s0), (0, .ref (h 0)), (1, .int x1)]) cx dX10_farthest_68 3 rfl rfl (Nat.le_of_ble_eq_true rfl) rfl rfl ?_
    refine sw_goto (tgt := 40) cx dX10_farthest_71 (by decide) ?_
    exact sw_lv [2, 3, 1, 0] rfl (hkk row att fnd x1 s0 (x3 + (1 : Int32)) hf)
  have B40 : ∀ (n : Nat), ∀ (row : Nat → Int32) (att : Int32) (fnd : Nat → Int32) (x1 : Int32) (x2 : Int32) (x3 : Int32), f_X10_farthest_b40 n row att fnd x1 x2 x3 = some res → sf_W p l e rm_X10_farthest s m args below meth c 0 0 Q 5 D A (mo_W h cI cJ row att fnd tape tmany sort begs tends word valu good bits size shts lent imag befo kept) [(0, .ref (h 0)), (1, .int x1), (2, .int x2), (3, .int x3)] 40 [] := by
    intro n
    induction n with
    | zero => intro row att fnd x1 x2 x3 hf; rw [f_X10_farthest_b40] at hf; cases hf
    | succ n ih =>
      intro row att fnd x1 x2 x3 hf
      rw [f_X10_farthest_b40] at hf
      refine sw_iload_n (pc' := 41) (i := 3) cx dX10_farthest_40 rfl 3 rfl rfl ?_
      refine sw_iload_n (pc' := 42) (i := 1) cx dX10_farthest_41 rfl 1 rfl rfl ?_
      refine sw_icmp_ge (pc' := 45) (tgt := 74) cx dX10_farthest_42 (by decide) rfl (fun c9 => ?_) (fun c9 => ?_)
      · replace hf := it_p c9 hf
        refine sw_aload_n (pc' := 75) (i := 0) cx dX10_farthest_74 rfl 0 rfl rfl ?_
        refine sw_iconst (pc' := 76) (v := 0) cx dX10_farthest_75 iconst_0 rfl ?_
        refine sw_put (pc' := 79) (ws' := (mo_W h cI cJ row (0 : Int32) fnd tape tmany sort begs tends word valu good bits size shts lent imag befo kept)) cx in_X10 tyX10 tyX10_ok nmX10 0 rfl rfl 1 (Nat.le_of_ble_eq_true rfl) fl_RX10_39 rfl rfl rfl (Nat.le_of_ble_eq_true rfl) dX10_farthest_76 rfl rfl ?_
        refine sw_iload_n (pc' := 80) (i := 2) cx dX10_farthest_79 rfl 2 rfl rfl ?_
        obtain rfl := Option.some.inj hf
        exact sw_iret cx hr hQ dX10_farthest_80
      · replace hf := it_n c9 hf
        refine sw_aload_n (pc' := 46) (i := 0) cx dX10_farthest_45 rfl 0 rfl rfl ?_
        obtain ⟨r10, hr10, hf⟩ := bd_s hf
        refine sw_callVw (pc' := 49) (As := []) (rest := []) (w' := (mo_W h cI cJ r10 att fnd tape tmany sort begs tends word valu good bits size shts lent imag befo kept)) cx (k_X10_yearGoes l D h cI cJ cK cS row att fnd tape tmany sort begs tends word valu good bits size shts lent imag befo kept  r10 hr10) pk_yX10_yearGoes ml_RX10_132 ⟨rfl, rfl⟩ ⟨(Nat.le_of_ble_eq_true rfl), (Nat.le_of_ble_eq_true rfl)⟩ ⟨(Nat.le_of_ble_eq_true rfl), (Nat.le_of_ble_eq_true rfl)⟩ 0 rfl rfl rfl rfl (Nat.le_of_ble_eq_true rfl) rfl dX10_farthest_46 rfl ?_
        refine sw_aload_n (pc' := 50) (i := 0) cx dX10_farthest_49 rfl 0 rfl rfl ?_
        obtain ⟨r11, hr11, hf⟩ := bd_s hf
        refine sw_callVw (pc' := 53) (As := []) (rest := []) (w' := (mo_W h cI cJ r10 att fnd tape tmany sort begs tends word valu good bits size shts lent imag befo kept)) cx (k_X10_reachNow l D h cI cJ cK cS r10 att fnd tape tmany sort begs tends word valu good bits size shts lent imag befo kept  r11 hr11) pk_yX10_reachNow ml_RX10_119 ⟨rfl, rfl⟩ ⟨(Nat.le_of_ble_eq_true rfl), (Nat.le_of_ble_eq_true rfl)⟩ ⟨(Nat.le_of_ble_eq_true rfl), (Nat.le_of_ble_eq_true rfl)⟩ 0 rfl rfl rfl rfl (Nat.le_of_ble_eq_true rfl) rfl dX10_farthest_50 rfl ?_
        refine sw_istore (pc' := 55) (i := 4) (lv' := [(4, .int r11), (0, .ref (h 0)), (1, .int x1), (2, .int x2), (3, .int x3)]) cx dX10_farthest_53 (Nat.le_of_ble_eq_true rfl) rfl rfl ?_
        refine sw_iload (pc' := 57) (i := 4) cx dX10_farthest_55 0 rfl rfl ?_
        refine sw_iload_n (pc' := 58) (i := 2) cx dX10_farthest_57 rfl 3 rfl rfl ?_
        refine sw_icmp_le (pc' := 61) (tgt := 66) cx dX10_farthest_58 (by decide) rfl (fun c12 => ?_) (fun c12 => ?_)
        · replace hf := it_p c12 hf
          refine sw_iload_n (pc' := 67) (i := 2) cx dX10_farthest_66 rfl 3 rfl rfl ?_
          exact sw_lv [1, 2, 4] rfl (B67 _ ih r10 att fnd x1 x3 x2 hf)
        · replace hf := it_n c12 hf
          refine sw_iload (pc' := 63) (i := 4) cx dX10_farthest_61 0 rfl rfl ?_
          refine sw_goto (tgt := 67) cx dX10_farthest_63 (by decide) ?_
          exact sw_lv [1, 2, 4] rfl (B67 _ ih r10 att fnd x1 x3 r11 hf)
  unfold f_X10_farthest at hf
  refine sw_iload_n (pc' := 1) (i := 1) cx dX10_farthest_0 rfl 1 rfl rfl ?_
  obtain ⟨r1, hr1, hf⟩ := bd_s hf
  refine sw_callS (pc' := 4) (As := [.int a0]) (rest := []) cx (k_X10_isLong l D h cI cJ cK cS a0 r1 hr1) pk_yX10_isLong ml_RX10_141 ⟨rfl, rfl⟩ ⟨(Nat.le_of_ble_eq_true rfl), (Nat.le_of_ble_eq_true rfl)⟩ ⟨(Nat.le_of_ble_eq_true rfl), (Nat.le_of_ble_eq_true rfl)⟩ [] rfl rfl rfl (wn := (mo_W h cI cJ row att fnd tape tmany sort begs tends word valu good bits size shts lent imag befo kept)) rfl rfl (Nat.le_of_ble_eq_true rfl) rfl dX10_farthest_1 rfl ?_
  refine sw_if_ne (pc' := 7) (tgt := 14) cx dX10_farthest_4 (by decide) rfl (fun c2 => ?_) (fun c2 => ?_)
  · replace hf := it_n c2 hf
    refine sw_aload_n (pc' := 15) (i := 0) cx dX10_farthest_14 rfl 0 rfl rfl ?_
    refine sw_iload_n (pc' := 16) (i := 1) cx dX10_farthest_15 rfl 1 rfl rfl ?_
    obtain ⟨r3, hr3, hf⟩ := bd_s hf
    refine sw_callVw (pc' := 19) (As := [.int a0]) (rest := []) (w' := (mo_W h cI cJ row att fnd tape tmany sort begs tends word valu good bits size shts lent imag befo kept)) cx (k_X10_isLate l D h cI cJ cK cS row att fnd tape tmany sort begs tends word valu good bits size shts lent imag befo kept a0 r3 hr3) pk_yX10_isLate ml_RX10_135 ⟨rfl, rfl⟩ ⟨(Nat.le_of_ble_eq_true rfl), (Nat.le_of_ble_eq_true rfl)⟩ ⟨(Nat.le_of_ble_eq_true rfl), (Nat.le_of_ble_eq_true rfl)⟩ 0 rfl rfl rfl rfl (Nat.le_of_ble_eq_true rfl) rfl dX10_farthest_16 rfl ?_
    refine sw_if_eq (pc' := 22) (tgt := 29) cx dX10_farthest_19 (by decide) rfl (fun c4 => ?_) (fun c4 => ?_)
    · replace hf := it_p c4 hf
      refine sw_aload_n (pc' := 30) (i := 0) cx dX10_farthest_29 rfl 0 rfl rfl ?_
      obtain ⟨r5, hr5, hf⟩ := bd_s hf
      refine sw_callVw (pc' := 33) (As := []) (rest := []) (w' := (mo_W h cI cJ r5.1 r5.2 fnd tape tmany sort begs tends word valu good bits size shts lent imag befo kept)) cx (k_X10_lends l D h cI cJ cK cS row att fnd tape tmany sort begs tends word valu good bits size shts lent imag befo kept  r5 hr5) pk_yX10_lends ml_RX10_144 ⟨rfl, rfl⟩ ⟨(Nat.le_of_ble_eq_true rfl), (Nat.le_of_ble_eq_true rfl)⟩ ⟨(Nat.le_of_ble_eq_true rfl), (Nat.le_of_ble_eq_true rfl)⟩ 0 rfl rfl rfl rfl (Nat.le_of_ble_eq_true rfl) rfl dX10_farthest_30 rfl ?_
      refine sw_aload_n (pc' := 34) (i := 0) cx dX10_farthest_33 rfl 0 rfl rfl ?_
      obtain ⟨r6, hr6, hf⟩ := bd_s hf
      refine sw_callVw (pc' := 37) (As := []) (rest := []) (w' := (mo_W h cI cJ r5.1 r5.2 fnd tape tmany sort begs tends word valu good bits size shts lent imag befo kept)) cx (k_X10_reachNow l D h cI cJ cK cS r5.1 r5.2 fnd tape tmany sort begs tends word valu good bits size shts lent imag befo kept  r6 hr6) pk_yX10_reachNow ml_RX10_119 ⟨rfl, rfl⟩ ⟨(Nat.le_of_ble_eq_true rfl), (Nat.le_of_ble_eq_true rfl)⟩ ⟨(Nat.le_of_ble_eq_true rfl), (Nat.le_of_ble_eq_true rfl)⟩ 0 rfl rfl rfl rfl (Nat.le_of_ble_eq_true rfl) rfl dX10_farthest_34 rfl ?_
      refine sw_istore_n (pc' := 38) (i := 2) (lv' := [(2, .int r6), (0, .ref (h 0)), (1, .int a0)]) cx dX10_farthest_37 rfl (Nat.le_of_ble_eq_true rfl) rfl rfl ?_
      refine sw_iconst (pc' := 39) (v := 0) cx dX10_farthest_38 iconst_0 rfl ?_
      refine sw_istore_n (pc' := 40) (i := 3) (lv' := [(3, .int (0 : Int32)), (2, .int r6), (0, .ref (h 0)), (1, .int a0)]) cx dX10_farthest_39 rfl (Nat.le_of_ble_eq_true rfl) rfl rfl ?_
      exact sw_lv [2, 3, 1, 0] rfl (B40 1000 r5.1 r5.2 fnd a0 r6 (0 : Int32) hf)
    · replace hf := it_n c4 hf
      refine sw_aload_n (pc' := 23) (i := 0) cx dX10_farthest_22 rfl 0 rfl rfl ?_
      refine sw_ldc (pc' := 25) cx ct_RX10_101 dX10_farthest_23 rfl ?_
      obtain ⟨r7, hr7, hf⟩ := bd_s hf
      refine sw_callVw (pc' := 28) (As := [.int (-1000000005 : Int32)]) (rest := []) (w' := (mo_W h cI cJ row att r7.2 tape tmany sort begs tends word valu good bits size shts lent imag befo kept)) cx (k_X10_finds l D h cI cJ cK cS row att fnd tape tmany sort begs tends word valu good bits size shts lent imag befo kept (-1000000005 : Int32) r7 hr7) pk_yX10_finds ml_RX10_63 ⟨rfl, rfl⟩ ⟨(Nat.le_of_ble_eq_true rfl), (Nat.le_of_ble_eq_true rfl)⟩ ⟨(Nat.le_of_ble_eq_true rfl), (Nat.le_of_ble_eq_true rfl)⟩ 0 rfl rfl rfl rfl (Nat.le_of_ble_eq_true rfl) rfl dX10_farthest_25 rfl ?_
      obtain rfl := Option.some.inj hf
      exact sw_iret cx hr hQ dX10_farthest_28
  · replace hf := it_p c2 hf
    refine sw_aload_n (pc' := 8) (i := 0) cx dX10_farthest_7 rfl 0 rfl rfl ?_
    refine sw_ldc (pc' := 10) cx ct_RX10_38 dX10_farthest_8 rfl ?_
    obtain ⟨r8, hr8, hf⟩ := bd_s hf
    refine sw_callVw (pc' := 13) (As := [.int (-1000000001 : Int32)]) (rest := []) (w' := (mo_W h cI cJ row att r8.2 tape tmany sort begs tends word valu good bits size shts lent imag befo kept)) cx (k_X10_finds l D h cI cJ cK cS row att fnd tape tmany sort begs tends word valu good bits size shts lent imag befo kept (-1000000001 : Int32) r8 hr8) pk_yX10_finds ml_RX10_63 ⟨rfl, rfl⟩ ⟨(Nat.le_of_ble_eq_true rfl), (Nat.le_of_ble_eq_true rfl)⟩ ⟨(Nat.le_of_ble_eq_true rfl), (Nat.le_of_ble_eq_true rfl)⟩ 0 rfl rfl rfl rfl (Nat.le_of_ble_eq_true rfl) rfl dX10_farthest_10 rfl ?_
    obtain rfl := Option.some.inj hf
    exact sw_iret cx hr hQ dX10_farthest_13
abbrev rm_X10_isSoon : Room := ({ frames := 1, cells := 0, slots := 0, locals := 22 } : Room)
set_option maxRecDepth 100000 in
set_option maxHeartbeats 4000000 in
theorem k_X10_isSoon (l : Launch) (D : sf_D) (h : Nat → Nat) (cI cJ cK cS : ClassId)  (a0 : Int32) (res : Int32) (hf : f_X10_isSoon a0 = some res) : sf_Ct l yX10_isSoon cX10_isSoon 1 (some .boolean) rm_X10_isSoon D (sf_ty cI cJ cK cS) [.int a0] [] (some (.int res)) [] := by
  refine sf_met (lv := [(0, .int a0)]) (by decide) (Nat.le_of_ble_eq_true rfl) rfl ?_
  intro p e s m args below meth c A Q cx hr hQ
  have cx : sf_Cx p m meth c cX10_isSoon 1 s args RX10 D (sf_ty cI cJ cK cS) A := cx
  unfold f_X10_isSoon at hf
  refine sw_iload_n (pc' := 1) (i := 0) cx dX10_isSoon_0 rfl 0 rfl rfl ?_
  refine sw_iconst (pc' := 2) (v := 1) cx dX10_isSoon_1 iconst_1 rfl ?_
  refine sw_bipush (pc' := 4) (v := 100) cx dX10_isSoon_2 bipush_100 rfl ?_
  obtain ⟨r1, hr1, hf⟩ := bd_s hf
  refine sw_callS (pc' := 7) (As := [.int a0, .int (1 : Int32), .int (100 : Int32)]) (rest := []) cx (k_X10_in l D h cI cJ cK cS a0 (1 : Int32) (100 : Int32) r1 hr1) pk_yX10_in ml_RX10_47 ⟨rfl, rfl⟩ ⟨(Nat.le_of_ble_eq_true rfl), (Nat.le_of_ble_eq_true rfl)⟩ ⟨(Nat.le_of_ble_eq_true rfl), (Nat.le_of_ble_eq_true rfl)⟩ [] rfl rfl rfl (wn := []) rfl rfl (Nat.le_of_ble_eq_true rfl) rfl dX10_isSoon_4 rfl ?_
  obtain ⟨h2, hf⟩ := gb_s hf
  obtain rfl := Option.some.inj hf
  exact sw_zret cx hr h2.1 hQ dX10_isSoon_7
abbrev rm_X10_reachThen : Room := ({ frames := 6, cells := 0, slots := 0, locals := 132 } : Room)
set_option maxRecDepth 100000 in
set_option maxHeartbeats 4000000 in
theorem k_X10_reachThen (l : Launch) (D : sf_D) (h : Nat → Nat) (cI cJ cK cS : ClassId) (row : Nat → Int32) (att : Int32) (fnd : Nat → Int32) (tape : Nat → Int32) (tmany : Int32) (sort : Int32) (begs : Int32) (tends : Int32) (word : Int64) (valu : Int32) (good : Int32) (bits : Nat → Int32) (size : Nat → Int32) (shts : Nat → Int64) (lent : Nat → Int64) (imag : Nat → Int32) (befo : Nat → Int32) (kept : Int32) (a0 : Int32) (res : Int32 × (Nat → Int32) × Int32) (hf : f_X10_reachThen row att a0 = some res) : sf_Ct l yX10_reachThen cX10_reachThen 3 (some .int) rm_X10_reachThen D (sf_ty cI cJ cK cS) [.ref (h 0), .int a0] (mo_W h cI cJ row att fnd tape tmany sort begs tends word valu good bits size shts lent imag befo kept) (some (.int res.1)) (mo_W h cI cJ res.2.1 res.2.2 fnd tape tmany sort begs tends word valu good bits size shts lent imag befo kept) := by
  refine sf_met (lv := [(0, .ref (h 0)), (1, .int a0)]) (by decide) (Nat.le_of_ble_eq_true rfl) rfl ?_
  intro p e s m args below meth c A Q cx hr hQ
  have cx : sf_Cx p m meth c cX10_reachThen 3 s args RX10 D (sf_ty cI cJ cK cS) A := cx
  unfold f_X10_reachThen at hf
  refine sw_aload_n (pc' := 1) (i := 0) cx dX10_reachThen_0 rfl 0 rfl rfl ?_
  refine sw_iload_n (pc' := 2) (i := 1) cx dX10_reachThen_1 rfl 1 rfl rfl ?_
  obtain ⟨r1, hr1, hf⟩ := bd_s hf
  refine sw_callVw (pc' := 5) (As := [.int a0]) (rest := []) (w' := (mo_W h cI cJ r1 att fnd tape tmany sort begs tends word valu good bits size shts lent imag befo kept)) cx (k_X10_go l D h cI cJ cK cS row att fnd tape tmany sort begs tends word valu good bits size shts lent imag befo kept a0 r1 hr1) pk_yX10_go ml_RX10_138 ⟨rfl, rfl⟩ ⟨(Nat.le_of_ble_eq_true rfl), (Nat.le_of_ble_eq_true rfl)⟩ ⟨(Nat.le_of_ble_eq_true rfl), (Nat.le_of_ble_eq_true rfl)⟩ 0 rfl rfl rfl rfl (Nat.le_of_ble_eq_true rfl) rfl dX10_reachThen_2 rfl ?_
  refine sw_aload_n (pc' := 6) (i := 0) cx dX10_reachThen_5 rfl 0 rfl rfl ?_
  obtain ⟨r2, hr2, hf⟩ := bd_s hf
  refine sw_callVw (pc' := 9) (As := []) (rest := []) (w' := (mo_W h cI cJ r1 att fnd tape tmany sort begs tends word valu good bits size shts lent imag befo kept)) cx (k_X10_reachNow l D h cI cJ cK cS r1 att fnd tape tmany sort begs tends word valu good bits size shts lent imag befo kept  r2 hr2) pk_yX10_reachNow ml_RX10_119 ⟨rfl, rfl⟩ ⟨(Nat.le_of_ble_eq_true rfl), (Nat.le_of_ble_eq_true rfl)⟩ ⟨(Nat.le_of_ble_eq_true rfl), (Nat.le_of_ble_eq_true rfl)⟩ 0 rfl rfl rfl rfl (Nat.le_of_ble_eq_true rfl) rfl dX10_reachThen_6 rfl ?_
  refine sw_istore_n (pc' := 10) (i := 2) (lv' := [(2, .int r2), (0, .ref (h 0)), (1, .int a0)]) cx dX10_reachThen_9 rfl (Nat.le_of_ble_eq_true rfl) rfl rfl ?_
  refine sw_aload_n (pc' := 11) (i := 0) cx dX10_reachThen_10 rfl 1 rfl rfl ?_
  refine sw_iconst (pc' := 12) (v := 0) cx dX10_reachThen_11 iconst_0 rfl ?_
  refine sw_put (pc' := 15) (ws' := (mo_W h cI cJ r1 (0 : Int32) fnd tape tmany sort begs tends word valu good bits size shts lent imag befo kept)) cx in_X10 tyX10 tyX10_ok nmX10 0 rfl rfl 1 (Nat.le_of_ble_eq_true rfl) fl_RX10_39 rfl rfl rfl (Nat.le_of_ble_eq_true rfl) dX10_reachThen_12 rfl rfl ?_
  refine sw_iload_n (pc' := 16) (i := 2) cx dX10_reachThen_15 rfl 0 rfl rfl ?_
  obtain rfl := Option.some.inj hf
  exact sw_iret cx hr hQ dX10_reachThen_16
abbrev rm_X10_best : Room := ({ frames := 7, cells := 0, slots := 0, locals := 154 } : Room)
set_option maxRecDepth 100000 in
set_option maxHeartbeats 4000000 in
theorem k_X10_best (l : Launch) (D : sf_D) (h : Nat → Nat) (cI cJ cK cS : ClassId) (row : Nat → Int32) (att : Int32) (fnd : Nat → Int32) (tape : Nat → Int32) (tmany : Int32) (sort : Int32) (begs : Int32) (tends : Int32) (word : Int64) (valu : Int32) (good : Int32) (bits : Nat → Int32) (size : Nat → Int32) (shts : Nat → Int64) (lent : Nat → Int64) (imag : Nat → Int32) (befo : Nat → Int32) (kept : Int32) (a0 : Int32) (a1 : Int32) (res : Int32 × (Nat → Int32) × Int32 × (Nat → Int32)) (hf : f_X10_best row att fnd a0 a1 = some res) : sf_Ct l yX10_best cX10_best 8 (some .int) rm_X10_best D (sf_ty cI cJ cK cS) [.ref (h 0), .int a0, .int a1] (mo_W h cI cJ row att fnd tape tmany sort begs tends word valu good bits size shts lent imag befo kept) (some (.int res.1)) (mo_W h cI cJ res.2.1 res.2.2.1 res.2.2.2 tape tmany sort begs tends word valu good bits size shts lent imag befo kept) := by
  refine sf_met (lv := [(0, .ref (h 0)), (1, .int a0), (2, .int a1)]) (by decide) (Nat.le_of_ble_eq_true rfl) rfl ?_
  intro p e s m args below meth c A Q cx hr hQ
  have cx : sf_Cx p m meth c cX10_best 8 s args RX10 D (sf_ty cI cJ cK cS) A := cx
  have B15 : ∀ (row : Nat → Int32) (att : Int32) (fnd : Nat → Int32), f_X10_best_b15 row att fnd = some res → sf_W p l e rm_X10_best s m args below meth c 0 0 Q 8 D A (mo_W h cI cJ row att fnd tape tmany sort begs tends word valu good bits size shts lent imag befo kept) [(0, .ref (h 0))] 15 [] := by
    intro row att fnd hf
    unfold f_X10_best_b15 at hf
    refine sw_aload_n (pc' := 16) (i := 0) cx dX10_best_15 rfl 0 rfl rfl ?_
    refine sw_ldc (pc' := 18) cx ct_RX10_38 dX10_best_16 rfl ?_
    obtain ⟨r11, hr11, hf⟩ := bd_s hf
    refine sw_callVw (pc' := 21) (As := [.int (-1000000001 : Int32)]) (rest := []) (w' := (mo_W h cI cJ row att r11.2 tape tmany sort begs tends word valu good bits size shts lent imag befo kept)) cx (k_X10_finds l D h cI cJ cK cS row att fnd tape tmany sort begs tends word valu good bits size shts lent imag befo kept (-1000000001 : Int32) r11 hr11) pk_yX10_finds ml_RX10_63 ⟨rfl, rfl⟩ ⟨(Nat.le_of_ble_eq_true rfl), (Nat.le_of_ble_eq_true rfl)⟩ ⟨(Nat.le_of_ble_eq_true rfl), (Nat.le_of_ble_eq_true rfl)⟩ 0 rfl rfl rfl rfl (Nat.le_of_ble_eq_true rfl) rfl dX10_best_18 rfl ?_
    obtain rfl := Option.some.inj hf
    exact sw_iret cx hr hQ dX10_best_21
  have B131 : ∀ (kk : (Nat → Int32) → Int32 → (Nat → Int32) → Int32 → Int32 → Int32 → Int32 → Int32 → Int32 → Option (Int32 × (Nat → Int32) × Int32 × (Nat → Int32))), (∀ (row : Nat → Int32) (att : Int32) (fnd : Nat → Int32) (x1 : Int32) (x2 : Int32) (x3 : Int32) (x4 : Int32) (x5 : Int32) (x6 : Int32), kk row att fnd x1 x2 x3 x4 x5 x6 = some res → sf_W p l e rm_X10_best s m args below meth c 0 0 Q 8 D A (mo_W h cI cJ row att fnd tape tmany sort begs tends word valu good bits size shts lent imag befo kept) [(0, .ref (h 0)), (1, .int x1), (2, .int x2), (3, .int x3), (4, .int x4), (5, .int x5), (6, .int x6)] 61 []) → ∀ (row : Nat → Int32) (att : Int32) (fnd : Nat → Int32) (x1 : Int32) (x2 : Int32) (x3 : Int32) (x4 : Int32) (x5 : Int32) (x6 : Int32), f_X10_best_b131 kk row att fnd x1 x2 x3 x4 x5 x6 = some res → sf_W p l e rm_X10_best s m args below meth c 0 0 Q 8 D A (mo_W h cI cJ row att fnd tape tmany sort begs tends word valu good bits size shts lent imag befo kept) [(0, .ref (h 0)), (1, .int x1), (2, .int x2), (3, .int x3), (4, .int x4), (5, .int x5), (6, .int x6)] 131 [] := by
    intro kk hkk row att fnd x1 x2 x3 x4 x5 x6 hf
    unfold f_X10_best_b131 at hf
    refine sw_iinc (pc' := 134) (v := (x6 + (1 : Int32))) (lv' := [(6, .int (x6 + (1 : Int32))), (0, .ref (h 0)), (1, .int x1), (2, .int x2), (3, .int x3), (4, .int x4), (5, .int x5)]) cx dX10_best_131 6 rfl rfl (Nat.le_of_ble_eq_true rfl) rfl rfl ?_
    refine sw_goto (tgt := 61) cx dX10_best_134 (by decide) ?_
    exact sw_lv [1, 2, 3, 4, 5, 6, 0] rfl (hkk row att fnd x1 x2 x3 x4 x5 (x6 + (1 : Int32)) hf)
  have B129 : ∀ (kk : (Nat → Int32) → Int32 → (Nat → Int32) → Int32 → Int32 → Int32 → Int32 → Int32 → Int32 → Option (Int32 × (Nat → Int32) × Int32 × (Nat → Int32))), (∀ (row : Nat → Int32) (att : Int32) (fnd : Nat → Int32) (x1 : Int32) (x2 : Int32) (x3 : Int32) (x4 : Int32) (x5 : Int32) (x6 : Int32), kk row att fnd x1 x2 x3 x4 x5 x6 = some res → sf_W p l e rm_X10_best s m args below meth c 0 0 Q 8 D A (mo_W h cI cJ row att fnd tape tmany sort begs tends word valu good bits size shts lent imag befo kept) [(0, .ref (h 0)), (1, .int x1), (2, .int x2), (3, .int x3), (4, .int x4), (5, .int x5), (6, .int x6)] 61 []) → ∀ (row : Nat → Int32) (att : Int32) (fnd : Nat → Int32) (x1 : Int32) (x2 : Int32) (x3 : Int32) (x4 : Int32) (x6 : Int32) (s0 : Int32), f_X10_best_b129 kk row att fnd x1 x2 x3 x4 x6 s0 = some res → sf_W p l e rm_X10_best s m args below meth c 0 0 Q 8 D A (mo_W h cI cJ row att fnd tape tmany sort begs tends word valu good bits size shts lent imag befo kept) [(0, .ref (h 0)), (1, .int x1), (2, .int x2), (3, .int x3), (4, .int x4), (6, .int x6)] 129 [.int s0] := by
    intro kk hkk row att fnd x1 x2 x3 x4 x6 s0 hf
    unfold f_X10_best_b129 at hf
    refine sw_istore (pc' := 131) (i := 5) (lv' := [(5, .int s0), (0, .ref (h 0)), (1, .int x1), (2, .int x2), (3, .int x3), (4, .int x4), (6, .int x6)]) cx dX10_best_129 (Nat.le_of_ble_eq_true rfl) rfl rfl ?_
    exact sw_lv [1, 2, 3, 4, 5, 0, 6] rfl (B131 kk hkk row att fnd x1 x2 x3 x4 s0 x6 hf)
  have B114 : ∀ (kk : (Nat → Int32) → Int32 → (Nat → Int32) → Int32 → Int32 → Int32 → Int32 → Int32 → Int32 → Option (Int32 × (Nat → Int32) × Int32 × (Nat → Int32))), (∀ (row : Nat → Int32) (att : Int32) (fnd : Nat → Int32) (x1 : Int32) (x2 : Int32) (x3 : Int32) (x4 : Int32) (x5 : Int32) (x6 : Int32), kk row att fnd x1 x2 x3 x4 x5 x6 = some res → sf_W p l e rm_X10_best s m args below meth c 0 0 Q 8 D A (mo_W h cI cJ row att fnd tape tmany sort begs tends word valu good bits size shts lent imag befo kept) [(0, .ref (h 0)), (1, .int x1), (2, .int x2), (3, .int x3), (4, .int x4), (5, .int x5), (6, .int x6)] 61 []) → ∀ (row : Nat → Int32) (att : Int32) (fnd : Nat → Int32) (x1 : Int32) (x2 : Int32) (x4 : Int32) (x5 : Int32) (x6 : Int32) (x7 : Int32) (s0 : Int32), f_X10_best_b114 kk row att fnd x1 x2 x4 x5 x6 x7 s0 = some res → sf_W p l e rm_X10_best s m args below meth c 0 0 Q 8 D A (mo_W h cI cJ row att fnd tape tmany sort begs tends word valu good bits size shts lent imag befo kept) [(0, .ref (h 0)), (1, .int x1), (2, .int x2), (4, .int x4), (5, .int x5), (6, .int x6), (7, .int x7)] 114 [.int s0] := by
    intro kk hkk row att fnd x1 x2 x4 x5 x6 x7 s0 hf
    unfold f_X10_best_b114 at hf
    refine sw_istore_n (pc' := 115) (i := 3) (lv' := [(3, .int s0), (0, .ref (h 0)), (1, .int x1), (2, .int x2), (4, .int x4), (5, .int x5), (6, .int x6), (7, .int x7)]) cx dX10_best_114 rfl (Nat.le_of_ble_eq_true rfl) rfl rfl ?_
    refine sw_iload (pc' := 117) (i := 7) cx dX10_best_115 7 rfl rfl ?_
    refine sw_iload (pc' := 119) (i := 5) cx dX10_best_117 5 rfl rfl ?_
    refine sw_icmp_le (pc' := 122) (tgt := 127) cx dX10_best_119 (by decide) rfl (fun c19 => ?_) (fun c19 => ?_)
    · replace hf := it_p c19 hf
      refine sw_iload (pc' := 129) (i := 5) cx dX10_best_127 5 rfl rfl ?_
      exact sw_lv [1, 2, 3, 0, 4, 6] rfl (B129 kk hkk row att fnd x1 x2 s0 x4 x6 x5 hf)
    · replace hf := it_n c19 hf
      refine sw_iload (pc' := 124) (i := 7) cx dX10_best_122 7 rfl rfl ?_
      refine sw_goto (tgt := 129) cx dX10_best_124 (by decide) ?_
      exact sw_lv [1, 2, 3, 0, 4, 6] rfl (B129 kk hkk row att fnd x1 x2 s0 x4 x6 x7 hf)
  have B61 : ∀ (n : Nat), ∀ (row : Nat → Int32) (att : Int32) (fnd : Nat → Int32) (x1 : Int32) (x2 : Int32) (x3 : Int32) (x4 : Int32) (x5 : Int32) (x6 : Int32), f_X10_best_b61 n row att fnd x1 x2 x3 x4 x5 x6 = some res → sf_W p l e rm_X10_best s m args below meth c 0 0 Q 8 D A (mo_W h cI cJ row att fnd tape tmany sort begs tends word valu good bits size shts lent imag befo kept) [(0, .ref (h 0)), (1, .int x1), (2, .int x2), (3, .int x3), (4, .int x4), (5, .int x5), (6, .int x6)] 61 [] := by
    intro n
    induction n with
    | zero => intro row att fnd x1 x2 x3 x4 x5 x6 hf; rw [f_X10_best_b61] at hf; cases hf
    | succ n ih =>
      intro row att fnd x1 x2 x3 x4 x5 x6 hf
      rw [f_X10_best_b61] at hf
      refine sw_iload (pc' := 63) (i := 6) cx dX10_best_61 6 rfl rfl ?_
      refine sw_bipush (pc' := 65) (v := 40) cx dX10_best_63 bipush_40 rfl ?_
      refine sw_icmp_ge (pc' := 68) (tgt := 137) cx dX10_best_65 (by decide) rfl (fun c12 => ?_) (fun c12 => ?_)
      · replace hf := it_p c12 hf
        refine sw_iload_n (pc' := 138) (i := 3) cx dX10_best_137 rfl 3 rfl rfl ?_
        obtain rfl := Option.some.inj hf
        exact sw_iret cx hr hQ dX10_best_138
      · replace hf := it_n c12 hf
        refine sw_iload (pc' := 70) (i := 6) cx dX10_best_68 6 rfl rfl ?_
        refine sw_iload (pc' := 72) (i := 4) cx dX10_best_70 4 rfl rfl ?_
        refine sw_icmp_eq (pc' := 75) (tgt := 131) cx dX10_best_72 (by decide) rfl (fun c13 => ?_) (fun c13 => ?_)
        · replace hf := it_p c13 hf
          exact sw_lv [0, 1, 2, 3, 4, 5, 6] rfl (B131 _ ih row att fnd x1 x2 x3 x4 x5 x6 hf)
        · replace hf := it_n c13 hf
          refine sw_aload_n (pc' := 76) (i := 0) cx dX10_best_75 rfl 0 rfl rfl ?_
          obtain ⟨r14, hr14, hf⟩ := bd_s hf
          refine sw_callVw (pc' := 79) (As := []) (rest := []) (w' := (mo_W h cI cJ r14.1 r14.2 fnd tape tmany sort begs tends word valu good bits size shts lent imag befo kept)) cx (k_X10_lends l D h cI cJ cK cS row att fnd tape tmany sort begs tends word valu good bits size shts lent imag befo kept  r14 hr14) pk_yX10_lends ml_RX10_144 ⟨rfl, rfl⟩ ⟨(Nat.le_of_ble_eq_true rfl), (Nat.le_of_ble_eq_true rfl)⟩ ⟨(Nat.le_of_ble_eq_true rfl), (Nat.le_of_ble_eq_true rfl)⟩ 0 rfl rfl rfl rfl (Nat.le_of_ble_eq_true rfl) rfl dX10_best_76 rfl ?_
          refine sw_aload_n (pc' := 80) (i := 0) cx dX10_best_79 rfl 0 rfl rfl ?_
          refine sw_iload_n (pc' := 81) (i := 1) cx dX10_best_80 rfl 1 rfl rfl ?_
          refine sw_iconst (pc' := 82) (v := 2) cx dX10_best_81 iconst_2 rfl ?_
          refine sw_iload (pc' := 84) (i := 6) cx dX10_best_82 6 rfl rfl ?_
          obtain ⟨r15, hr15, hf⟩ := bd_s hf
          refine sw_callVw (pc' := 87) (As := [.int x1, .int (2 : Int32), .int x6]) (rest := []) (w' := (mo_W h cI cJ r15 r14.2 fnd tape tmany sort begs tends word valu good bits size shts lent imag befo kept)) cx (k_X10_sets l D h cI cJ cK cS r14.1 r14.2 fnd tape tmany sort begs tends word valu good bits size shts lent imag befo kept x1 (2 : Int32) x6 r15 hr15) pk_yX10_sets ml_RX10_66 ⟨rfl, rfl⟩ ⟨(Nat.le_of_ble_eq_true rfl), (Nat.le_of_ble_eq_true rfl)⟩ ⟨(Nat.le_of_ble_eq_true rfl), (Nat.le_of_ble_eq_true rfl)⟩ 0 rfl rfl rfl rfl (Nat.le_of_ble_eq_true rfl) rfl dX10_best_84 rfl ?_
          refine sw_aload_n (pc' := 88) (i := 0) cx dX10_best_87 rfl 0 rfl rfl ?_
          refine sw_iload_n (pc' := 89) (i := 1) cx dX10_best_88 rfl 1 rfl rfl ?_
          refine sw_iconst (pc' := 90) (v := 4) cx dX10_best_89 iconst_4 rfl ?_
          refine sw_iconst (pc' := 91) (v := 0) cx dX10_best_90 iconst_0 rfl ?_
          obtain ⟨r16, hr16, hf⟩ := bd_s hf
          refine sw_callVw (pc' := 94) (As := [.int x1, .int (4 : Int32), .int (0 : Int32)]) (rest := []) (w' := (mo_W h cI cJ r16 r14.2 fnd tape tmany sort begs tends word valu good bits size shts lent imag befo kept)) cx (k_X10_sets l D h cI cJ cK cS r15 r14.2 fnd tape tmany sort begs tends word valu good bits size shts lent imag befo kept x1 (4 : Int32) (0 : Int32) r16 hr16) pk_yX10_sets ml_RX10_66 ⟨rfl, rfl⟩ ⟨(Nat.le_of_ble_eq_true rfl), (Nat.le_of_ble_eq_true rfl)⟩ ⟨(Nat.le_of_ble_eq_true rfl), (Nat.le_of_ble_eq_true rfl)⟩ 0 rfl rfl rfl rfl (Nat.le_of_ble_eq_true rfl) rfl dX10_best_91 rfl ?_
          refine sw_aload_n (pc' := 95) (i := 0) cx dX10_best_94 rfl 0 rfl rfl ?_
          refine sw_iload_n (pc' := 96) (i := 2) cx dX10_best_95 rfl 2 rfl rfl ?_
          obtain ⟨r17, hr17, hf⟩ := bd_s hf
          refine sw_callVw (pc' := 99) (As := [.int x2]) (rest := []) (w' := (mo_W h cI cJ r17.2.1 r17.2.2 fnd tape tmany sort begs tends word valu good bits size shts lent imag befo kept)) cx (k_X10_reachThen l D h cI cJ cK cS r16 r14.2 fnd tape tmany sort begs tends word valu good bits size shts lent imag befo kept x2 r17 hr17) pk_yX10_reachThen ml_RX10_151 ⟨rfl, rfl⟩ ⟨(Nat.le_of_ble_eq_true rfl), (Nat.le_of_ble_eq_true rfl)⟩ ⟨(Nat.le_of_ble_eq_true rfl), (Nat.le_of_ble_eq_true rfl)⟩ 0 rfl rfl rfl rfl (Nat.le_of_ble_eq_true rfl) rfl dX10_best_96 rfl ?_
          refine sw_istore (pc' := 101) (i := 7) (lv' := [(7, .int r17.1), (0, .ref (h 0)), (1, .int x1), (2, .int x2), (3, .int x3), (4, .int x4), (5, .int x5), (6, .int x6)]) cx dX10_best_99 (Nat.le_of_ble_eq_true rfl) rfl rfl ?_
          refine sw_iload (pc' := 103) (i := 7) cx dX10_best_101 0 rfl rfl ?_
          refine sw_iload (pc' := 105) (i := 5) cx dX10_best_103 6 rfl rfl ?_
          refine sw_icmp_le (pc' := 108) (tgt := 113) cx dX10_best_105 (by decide) rfl (fun c18 => ?_) (fun c18 => ?_)
          · replace hf := it_p c18 hf
            refine sw_iload_n (pc' := 114) (i := 3) cx dX10_best_113 rfl 4 rfl rfl ?_
            exact sw_lv [1, 2, 3, 5, 6, 7, 0] rfl (B114 _ ih r17.2.1 r17.2.2 fnd x1 x2 x4 x5 x6 r17.1 x3 hf)
          · replace hf := it_n c18 hf
            refine sw_iload (pc' := 110) (i := 6) cx dX10_best_108 7 rfl rfl ?_
            refine sw_goto (tgt := 114) cx dX10_best_110 (by decide) ?_
            exact sw_lv [1, 2, 3, 5, 6, 7, 0] rfl (B114 _ ih r17.2.1 r17.2.2 fnd x1 x2 x4 x5 x6 r17.1 x6 hf)
  unfold f_X10_best at hf
  refine sw_aload_n (pc' := 1) (i := 0) cx dX10_best_0 rfl 0 rfl rfl ?_
  refine sw_iload_n (pc' := 2) (i := 1) cx dX10_best_1 rfl 1 rfl rfl ?_
  obtain ⟨r1, hr1, hf⟩ := bd_s hf
  refine sw_callVw (pc' := 5) (As := [.int a0]) (rest := []) (w' := (mo_W h cI cJ row att fnd tape tmany sort begs tends word valu good bits size shts lent imag befo kept)) cx (k_X10_isFine l D h cI cJ cK cS row att fnd tape tmany sort begs tends word valu good bits size shts lent imag befo kept a0 r1 hr1) pk_yX10_isFine ml_RX10_81 ⟨rfl, rfl⟩ ⟨(Nat.le_of_ble_eq_true rfl), (Nat.le_of_ble_eq_true rfl)⟩ ⟨(Nat.le_of_ble_eq_true rfl), (Nat.le_of_ble_eq_true rfl)⟩ 0 rfl rfl rfl rfl (Nat.le_of_ble_eq_true rfl) rfl dX10_best_2 rfl ?_
  refine sw_if_eq (pc' := 8) (tgt := 15) cx dX10_best_5 (by decide) rfl (fun c2 => ?_) (fun c2 => ?_)
  · replace hf := it_p c2 hf
    exact sw_lv [0] rfl (B15 row att fnd hf)
  · replace hf := it_n c2 hf
    refine sw_iload_n (pc' := 9) (i := 2) cx dX10_best_8 rfl 2 rfl rfl ?_
    obtain ⟨r3, hr3, hf⟩ := bd_s hf
    refine sw_callS (pc' := 12) (As := [.int a1]) (rest := []) cx (k_X10_isSoon l D h cI cJ cK cS a1 r3 hr3) pk_yX10_isSoon ml_RX10_148 ⟨rfl, rfl⟩ ⟨(Nat.le_of_ble_eq_true rfl), (Nat.le_of_ble_eq_true rfl)⟩ ⟨(Nat.le_of_ble_eq_true rfl), (Nat.le_of_ble_eq_true rfl)⟩ [] rfl rfl rfl (wn := (mo_W h cI cJ row att fnd tape tmany sort begs tends word valu good bits size shts lent imag befo kept)) rfl rfl (Nat.le_of_ble_eq_true rfl) rfl dX10_best_9 rfl ?_
    refine sw_if_ne (pc' := 15) (tgt := 22) cx dX10_best_12 (by decide) rfl (fun c4 => ?_) (fun c4 => ?_)
    · replace hf := it_n c4 hf
      refine sw_aload_n (pc' := 23) (i := 0) cx dX10_best_22 rfl 0 rfl rfl ?_
      refine sw_iload_n (pc' := 24) (i := 2) cx dX10_best_23 rfl 2 rfl rfl ?_
      obtain ⟨r5, hr5, hf⟩ := bd_s hf
      refine sw_callVw (pc' := 27) (As := [.int a1]) (rest := []) (w' := (mo_W h cI cJ row att fnd tape tmany sort begs tends word valu good bits size shts lent imag befo kept)) cx (k_X10_isLate l D h cI cJ cK cS row att fnd tape tmany sort begs tends word valu good bits size shts lent imag befo kept a1 r5 hr5) pk_yX10_isLate ml_RX10_135 ⟨rfl, rfl⟩ ⟨(Nat.le_of_ble_eq_true rfl), (Nat.le_of_ble_eq_true rfl)⟩ ⟨(Nat.le_of_ble_eq_true rfl), (Nat.le_of_ble_eq_true rfl)⟩ 0 rfl rfl rfl rfl (Nat.le_of_ble_eq_true rfl) rfl dX10_best_24 rfl ?_
      refine sw_if_eq (pc' := 30) (tgt := 37) cx dX10_best_27 (by decide) rfl (fun c6 => ?_) (fun c6 => ?_)
      · replace hf := it_p c6 hf
        refine sw_aload_n (pc' := 38) (i := 0) cx dX10_best_37 rfl 0 rfl rfl ?_
        obtain ⟨r7, hr7, hf⟩ := bd_s hf
        refine sw_callVw (pc' := 41) (As := []) (rest := []) (w' := (mo_W h cI cJ r7.1 r7.2 fnd tape tmany sort begs tends word valu good bits size shts lent imag befo kept)) cx (k_X10_lends l D h cI cJ cK cS row att fnd tape tmany sort begs tends word valu good bits size shts lent imag befo kept  r7 hr7) pk_yX10_lends ml_RX10_144 ⟨rfl, rfl⟩ ⟨(Nat.le_of_ble_eq_true rfl), (Nat.le_of_ble_eq_true rfl)⟩ ⟨(Nat.le_of_ble_eq_true rfl), (Nat.le_of_ble_eq_true rfl)⟩ 0 rfl rfl rfl rfl (Nat.le_of_ble_eq_true rfl) rfl dX10_best_38 rfl ?_
        refine sw_aload_n (pc' := 42) (i := 0) cx dX10_best_41 rfl 0 rfl rfl ?_
        refine sw_iload_n (pc' := 43) (i := 1) cx dX10_best_42 rfl 1 rfl rfl ?_
        refine sw_iconst (pc' := 44) (v := 2) cx dX10_best_43 iconst_2 rfl ?_
        obtain ⟨r8, hr8, hf⟩ := bd_s hf
        refine sw_callVw (pc' := 47) (As := [.int a0, .int (2 : Int32)]) (rest := []) (w' := (mo_W h cI cJ r7.1 r7.2 fnd tape tmany sort begs tends word valu good bits size shts lent imag befo kept)) cx (k_X10_fineOf l D h cI cJ cK cS r7.1 r7.2 fnd tape tmany sort begs tends word valu good bits size shts lent imag befo kept a0 (2 : Int32) r8 hr8) pk_yX10_fineOf ml_RX10_51 ⟨rfl, rfl⟩ ⟨(Nat.le_of_ble_eq_true rfl), (Nat.le_of_ble_eq_true rfl)⟩ ⟨(Nat.le_of_ble_eq_true rfl), (Nat.le_of_ble_eq_true rfl)⟩ 0 rfl rfl rfl rfl (Nat.le_of_ble_eq_true rfl) rfl dX10_best_44 rfl ?_
        refine sw_istore_n (pc' := 48) (i := 3) (lv' := [(3, .int r8), (0, .ref (h 0)), (1, .int a0), (2, .int a1)]) cx dX10_best_47 rfl (Nat.le_of_ble_eq_true rfl) rfl rfl ?_
        refine sw_iload_n (pc' := 49) (i := 3) cx dX10_best_48 rfl 0 rfl rfl ?_
        refine sw_istore (pc' := 51) (i := 4) (lv' := [(4, .int r8), (3, .int r8), (0, .ref (h 0)), (1, .int a0), (2, .int a1)]) cx dX10_best_49 (Nat.le_of_ble_eq_true rfl) rfl rfl ?_
        refine sw_aload_n (pc' := 52) (i := 0) cx dX10_best_51 rfl 2 rfl rfl ?_
        refine sw_iload_n (pc' := 53) (i := 2) cx dX10_best_52 rfl 4 rfl rfl ?_
        obtain ⟨r9, hr9, hf⟩ := bd_s hf
        refine sw_callVw (pc' := 56) (As := [.int a1]) (rest := []) (w' := (mo_W h cI cJ r9.2.1 r9.2.2 fnd tape tmany sort begs tends word valu good bits size shts lent imag befo kept)) cx (k_X10_reachThen l D h cI cJ cK cS r7.1 r7.2 fnd tape tmany sort begs tends word valu good bits size shts lent imag befo kept a1 r9 hr9) pk_yX10_reachThen ml_RX10_151 ⟨rfl, rfl⟩ ⟨(Nat.le_of_ble_eq_true rfl), (Nat.le_of_ble_eq_true rfl)⟩ ⟨(Nat.le_of_ble_eq_true rfl), (Nat.le_of_ble_eq_true rfl)⟩ 0 rfl rfl rfl rfl (Nat.le_of_ble_eq_true rfl) rfl dX10_best_53 rfl ?_
        refine sw_istore (pc' := 58) (i := 5) (lv' := [(5, .int r9.1), (4, .int r8), (3, .int r8), (0, .ref (h 0)), (1, .int a0), (2, .int a1)]) cx dX10_best_56 (Nat.le_of_ble_eq_true rfl) rfl rfl ?_
        refine sw_iconst (pc' := 59) (v := 0) cx dX10_best_58 iconst_0 rfl ?_
        refine sw_istore (pc' := 61) (i := 6) (lv' := [(6, .int (0 : Int32)), (5, .int r9.1), (4, .int r8), (3, .int r8), (0, .ref (h 0)), (1, .int a0), (2, .int a1)]) cx dX10_best_59 (Nat.le_of_ble_eq_true rfl) rfl rfl ?_
        exact sw_lv [4, 5, 6, 3, 2, 1, 0] rfl (B61 1000 r9.2.1 r9.2.2 fnd a0 a1 r8 r8 r9.1 (0 : Int32) hf)
      · replace hf := it_n c6 hf
        refine sw_aload_n (pc' := 31) (i := 0) cx dX10_best_30 rfl 0 rfl rfl ?_
        refine sw_ldc (pc' := 33) cx ct_RX10_101 dX10_best_31 rfl ?_
        obtain ⟨r10, hr10, hf⟩ := bd_s hf
        refine sw_callVw (pc' := 36) (As := [.int (-1000000005 : Int32)]) (rest := []) (w' := (mo_W h cI cJ row att r10.2 tape tmany sort begs tends word valu good bits size shts lent imag befo kept)) cx (k_X10_finds l D h cI cJ cK cS row att fnd tape tmany sort begs tends word valu good bits size shts lent imag befo kept (-1000000005 : Int32) r10 hr10) pk_yX10_finds ml_RX10_63 ⟨rfl, rfl⟩ ⟨(Nat.le_of_ble_eq_true rfl), (Nat.le_of_ble_eq_true rfl)⟩ ⟨(Nat.le_of_ble_eq_true rfl), (Nat.le_of_ble_eq_true rfl)⟩ 0 rfl rfl rfl rfl (Nat.le_of_ble_eq_true rfl) rfl dX10_best_33 rfl ?_
        obtain rfl := Option.some.inj hf
        exact sw_iret cx hr hQ dX10_best_36
    · replace hf := it_p c4 hf
      exact sw_lv [0] rfl (B15 row att fnd hf)
abbrev rm_X10_kind : Room := ({ frames := 7, cells := 0, slots := 0, locals := 154 } : Room)
set_option maxRecDepth 100000 in
set_option maxHeartbeats 4000000 in
theorem k_X10_kind (l : Launch) (D : sf_D) (h : Nat → Nat) (cI cJ cK cS : ClassId) (row : Nat → Int32) (att : Int32) (fnd : Nat → Int32) (tape : Nat → Int32) (tmany : Int32) (sort : Int32) (begs : Int32) (tends : Int32) (word : Int64) (valu : Int32) (good : Int32) (bits : Nat → Int32) (size : Nat → Int32) (shts : Nat → Int64) (lent : Nat → Int64) (imag : Nat → Int32) (befo : Nat → Int32) (kept : Int32) (a0 : Int32) (a1 : Int32) (res : Int32 × (Nat → Int32) × Int32 × (Nat → Int32)) (hf : f_X10_kind row att fnd a0 a1 = some res) : sf_Ct l yX10_kind cX10_kind 7 (some .int) rm_X10_kind D (sf_ty cI cJ cK cS) [.ref (h 0), .int a0, .int a1] (mo_W h cI cJ row att fnd tape tmany sort begs tends word valu good bits size shts lent imag befo kept) (some (.int res.1)) (mo_W h cI cJ res.2.1 res.2.2.1 res.2.2.2 tape tmany sort begs tends word valu good bits size shts lent imag befo kept) := by
  refine sf_met (lv := [(0, .ref (h 0)), (1, .int a0), (2, .int a1)]) (by decide) (Nat.le_of_ble_eq_true rfl) rfl ?_
  intro p e s m args below meth c A Q cx hr hQ
  have cx : sf_Cx p m meth c cX10_kind 7 s args RX10 D (sf_ty cI cJ cK cS) A := cx
  have B15 : ∀ (row : Nat → Int32) (att : Int32) (fnd : Nat → Int32), f_X10_kind_b15 row att fnd = some res → sf_W p l e rm_X10_kind s m args below meth c 0 0 Q 7 D A (mo_W h cI cJ row att fnd tape tmany sort begs tends word valu good bits size shts lent imag befo kept) [(0, .ref (h 0))] 15 [] := by
    intro row att fnd hf
    unfold f_X10_kind_b15 at hf
    refine sw_aload_n (pc' := 16) (i := 0) cx dX10_kind_15 rfl 0 rfl rfl ?_
    refine sw_ldc (pc' := 18) cx ct_RX10_38 dX10_kind_16 rfl ?_
    obtain ⟨r8, hr8, hf⟩ := bd_s hf
    refine sw_callVw (pc' := 21) (As := [.int (-1000000001 : Int32)]) (rest := []) (w' := (mo_W h cI cJ row att r8.2 tape tmany sort begs tends word valu good bits size shts lent imag befo kept)) cx (k_X10_finds l D h cI cJ cK cS row att fnd tape tmany sort begs tends word valu good bits size shts lent imag befo kept (-1000000001 : Int32) r8 hr8) pk_yX10_finds ml_RX10_63 ⟨rfl, rfl⟩ ⟨(Nat.le_of_ble_eq_true rfl), (Nat.le_of_ble_eq_true rfl)⟩ ⟨(Nat.le_of_ble_eq_true rfl), (Nat.le_of_ble_eq_true rfl)⟩ 0 rfl rfl rfl rfl (Nat.le_of_ble_eq_true rfl) rfl dX10_kind_18 rfl ?_
    obtain rfl := Option.some.inj hf
    exact sw_iret cx hr hQ dX10_kind_21
  have B98 : ∀ (kk : (Nat → Int32) → Int32 → (Nat → Int32) → Int32 → Int32 → Int32 → Int32 → Int32 → Option (Int32 × (Nat → Int32) × Int32 × (Nat → Int32))), (∀ (row : Nat → Int32) (att : Int32) (fnd : Nat → Int32) (x1 : Int32) (x2 : Int32) (x3 : Int32) (x4 : Int32) (x5 : Int32), kk row att fnd x1 x2 x3 x4 x5 = some res → sf_W p l e rm_X10_kind s m args below meth c 0 0 Q 7 D A (mo_W h cI cJ row att fnd tape tmany sort begs tends word valu good bits size shts lent imag befo kept) [(0, .ref (h 0)), (1, .int x1), (2, .int x2), (3, .int x3), (4, .int x4), (5, .int x5)] 45 []) → ∀ (row : Nat → Int32) (att : Int32) (fnd : Nat → Int32) (x1 : Int32) (x2 : Int32) (x3 : Int32) (x5 : Int32) (s0 : Int32), f_X10_kind_b98 kk row att fnd x1 x2 x3 x5 s0 = some res → sf_W p l e rm_X10_kind s m args below meth c 0 0 Q 7 D A (mo_W h cI cJ row att fnd tape tmany sort begs tends word valu good bits size shts lent imag befo kept) [(0, .ref (h 0)), (1, .int x1), (2, .int x2), (3, .int x3), (5, .int x5)] 98 [.int s0] := by
    intro kk hkk row att fnd x1 x2 x3 x5 s0 hf
    unfold f_X10_kind_b98 at hf
    refine sw_istore (pc' := 100) (i := 4) (lv' := [(4, .int s0), (0, .ref (h 0)), (1, .int x1), (2, .int x2), (3, .int x3), (5, .int x5)]) cx dX10_kind_98 (Nat.le_of_ble_eq_true rfl) rfl rfl ?_
    refine sw_iinc (pc' := 103) (v := (x5 + (1 : Int32))) (lv' := [(5, .int (x5 + (1 : Int32))), (4, .int s0), (0, .ref (h 0)), (1, .int x1), (2, .int x2), (3, .int x3)]) cx dX10_kind_100 5 rfl rfl (Nat.le_of_ble_eq_true rfl) rfl rfl ?_
    refine sw_goto (tgt := 45) cx dX10_kind_103 (by decide) ?_
    exact sw_lv [2, 3, 4, 5, 1, 0] rfl (hkk row att fnd x1 x2 x3 s0 (x5 + (1 : Int32)) hf)
  have B83 : ∀ (kk : (Nat → Int32) → Int32 → (Nat → Int32) → Int32 → Int32 → Int32 → Int32 → Int32 → Option (Int32 × (Nat → Int32) × Int32 × (Nat → Int32))), (∀ (row : Nat → Int32) (att : Int32) (fnd : Nat → Int32) (x1 : Int32) (x2 : Int32) (x3 : Int32) (x4 : Int32) (x5 : Int32), kk row att fnd x1 x2 x3 x4 x5 = some res → sf_W p l e rm_X10_kind s m args below meth c 0 0 Q 7 D A (mo_W h cI cJ row att fnd tape tmany sort begs tends word valu good bits size shts lent imag befo kept) [(0, .ref (h 0)), (1, .int x1), (2, .int x2), (3, .int x3), (4, .int x4), (5, .int x5)] 45 []) → ∀ (row : Nat → Int32) (att : Int32) (fnd : Nat → Int32) (x1 : Int32) (x2 : Int32) (x4 : Int32) (x5 : Int32) (x6 : Int32) (s0 : Int32), f_X10_kind_b83 kk row att fnd x1 x2 x4 x5 x6 s0 = some res → sf_W p l e rm_X10_kind s m args below meth c 0 0 Q 7 D A (mo_W h cI cJ row att fnd tape tmany sort begs tends word valu good bits size shts lent imag befo kept) [(0, .ref (h 0)), (1, .int x1), (2, .int x2), (4, .int x4), (5, .int x5), (6, .int x6)] 83 [.int s0] := by
    intro kk hkk row att fnd x1 x2 x4 x5 x6 s0 hf
    unfold f_X10_kind_b83 at hf
    refine sw_istore_n (pc' := 84) (i := 3) (lv' := [(3, .int s0), (0, .ref (h 0)), (1, .int x1), (2, .int x2), (4, .int x4), (5, .int x5), (6, .int x6)]) cx dX10_kind_83 rfl (Nat.le_of_ble_eq_true rfl) rfl rfl ?_
    refine sw_iload (pc' := 86) (i := 6) cx dX10_kind_84 6 rfl rfl ?_
    refine sw_iload (pc' := 88) (i := 4) cx dX10_kind_86 4 rfl rfl ?_
    refine sw_icmp_le (pc' := 91) (tgt := 96) cx dX10_kind_88 (by decide) rfl (fun c14 => ?_) (fun c14 => ?_)
    · replace hf := it_p c14 hf
      refine sw_iload (pc' := 98) (i := 4) cx dX10_kind_96 4 rfl rfl ?_
      exact sw_lv [1, 2, 3, 0, 5] rfl (B98 kk hkk row att fnd x1 x2 s0 x5 x4 hf)
    · replace hf := it_n c14 hf
      refine sw_iload (pc' := 93) (i := 6) cx dX10_kind_91 6 rfl rfl ?_
      refine sw_goto (tgt := 98) cx dX10_kind_93 (by decide) ?_
      exact sw_lv [1, 2, 3, 0, 5] rfl (B98 kk hkk row att fnd x1 x2 s0 x5 x6 hf)
  have B45 : ∀ (n : Nat), ∀ (row : Nat → Int32) (att : Int32) (fnd : Nat → Int32) (x1 : Int32) (x2 : Int32) (x3 : Int32) (x4 : Int32) (x5 : Int32), f_X10_kind_b45 n row att fnd x1 x2 x3 x4 x5 = some res → sf_W p l e rm_X10_kind s m args below meth c 0 0 Q 7 D A (mo_W h cI cJ row att fnd tape tmany sort begs tends word valu good bits size shts lent imag befo kept) [(0, .ref (h 0)), (1, .int x1), (2, .int x2), (3, .int x3), (4, .int x4), (5, .int x5)] 45 [] := by
    intro n
    induction n with
    | zero => intro row att fnd x1 x2 x3 x4 x5 hf; rw [f_X10_kind_b45] at hf; cases hf
    | succ n ih =>
      intro row att fnd x1 x2 x3 x4 x5 hf
      rw [f_X10_kind_b45] at hf
      refine sw_iload (pc' := 47) (i := 5) cx dX10_kind_45 5 rfl rfl ?_
      refine sw_iconst (pc' := 48) (v := 5) cx dX10_kind_47 iconst_5 rfl ?_
      refine sw_icmp_gt (pc' := 51) (tgt := 106) cx dX10_kind_48 (by decide) rfl (fun c9 => ?_) (fun c9 => ?_)
      · replace hf := it_p c9 hf
        refine sw_iload_n (pc' := 107) (i := 3) cx dX10_kind_106 rfl 3 rfl rfl ?_
        obtain rfl := Option.some.inj hf
        exact sw_iret cx hr hQ dX10_kind_107
      · replace hf := it_n c9 hf
        refine sw_aload_n (pc' := 52) (i := 0) cx dX10_kind_51 rfl 0 rfl rfl ?_
        obtain ⟨r10, hr10, hf⟩ := bd_s hf
        refine sw_callVw (pc' := 55) (As := []) (rest := []) (w' := (mo_W h cI cJ r10.1 r10.2 fnd tape tmany sort begs tends word valu good bits size shts lent imag befo kept)) cx (k_X10_lends l D h cI cJ cK cS row att fnd tape tmany sort begs tends word valu good bits size shts lent imag befo kept  r10 hr10) pk_yX10_lends ml_RX10_144 ⟨rfl, rfl⟩ ⟨(Nat.le_of_ble_eq_true rfl), (Nat.le_of_ble_eq_true rfl)⟩ ⟨(Nat.le_of_ble_eq_true rfl), (Nat.le_of_ble_eq_true rfl)⟩ 0 rfl rfl rfl rfl (Nat.le_of_ble_eq_true rfl) rfl dX10_kind_52 rfl ?_
        refine sw_aload_n (pc' := 56) (i := 0) cx dX10_kind_55 rfl 0 rfl rfl ?_
        refine sw_iload_n (pc' := 57) (i := 1) cx dX10_kind_56 rfl 1 rfl rfl ?_
        refine sw_iconst (pc' := 58) (v := 0) cx dX10_kind_57 iconst_0 rfl ?_
        refine sw_iload (pc' := 60) (i := 5) cx dX10_kind_58 5 rfl rfl ?_
        obtain ⟨r11, hr11, hf⟩ := bd_s hf
        refine sw_callVw (pc' := 63) (As := [.int x1, .int (0 : Int32), .int x5]) (rest := []) (w' := (mo_W h cI cJ r11 r10.2 fnd tape tmany sort begs tends word valu good bits size shts lent imag befo kept)) cx (k_X10_sets l D h cI cJ cK cS r10.1 r10.2 fnd tape tmany sort begs tends word valu good bits size shts lent imag befo kept x1 (0 : Int32) x5 r11 hr11) pk_yX10_sets ml_RX10_66 ⟨rfl, rfl⟩ ⟨(Nat.le_of_ble_eq_true rfl), (Nat.le_of_ble_eq_true rfl)⟩ ⟨(Nat.le_of_ble_eq_true rfl), (Nat.le_of_ble_eq_true rfl)⟩ 0 rfl rfl rfl rfl (Nat.le_of_ble_eq_true rfl) rfl dX10_kind_60 rfl ?_
        refine sw_aload_n (pc' := 64) (i := 0) cx dX10_kind_63 rfl 0 rfl rfl ?_
        refine sw_iload_n (pc' := 65) (i := 2) cx dX10_kind_64 rfl 2 rfl rfl ?_
        obtain ⟨r12, hr12, hf⟩ := bd_s hf
        refine sw_callVw (pc' := 68) (As := [.int x2]) (rest := []) (w' := (mo_W h cI cJ r12.2.1 r12.2.2 fnd tape tmany sort begs tends word valu good bits size shts lent imag befo kept)) cx (k_X10_reachThen l D h cI cJ cK cS r11 r10.2 fnd tape tmany sort begs tends word valu good bits size shts lent imag befo kept x2 r12 hr12) pk_yX10_reachThen ml_RX10_151 ⟨rfl, rfl⟩ ⟨(Nat.le_of_ble_eq_true rfl), (Nat.le_of_ble_eq_true rfl)⟩ ⟨(Nat.le_of_ble_eq_true rfl), (Nat.le_of_ble_eq_true rfl)⟩ 0 rfl rfl rfl rfl (Nat.le_of_ble_eq_true rfl) rfl dX10_kind_65 rfl ?_
        refine sw_istore (pc' := 70) (i := 6) (lv' := [(6, .int r12.1), (0, .ref (h 0)), (1, .int x1), (2, .int x2), (3, .int x3), (4, .int x4), (5, .int x5)]) cx dX10_kind_68 (Nat.le_of_ble_eq_true rfl) rfl rfl ?_
        refine sw_iload (pc' := 72) (i := 6) cx dX10_kind_70 0 rfl rfl ?_
        refine sw_iload (pc' := 74) (i := 4) cx dX10_kind_72 5 rfl rfl ?_
        refine sw_icmp_le (pc' := 77) (tgt := 82) cx dX10_kind_74 (by decide) rfl (fun c13 => ?_) (fun c13 => ?_)
        · replace hf := it_p c13 hf
          refine sw_iload_n (pc' := 83) (i := 3) cx dX10_kind_82 rfl 4 rfl rfl ?_
          exact sw_lv [1, 2, 3, 5, 6, 0] rfl (B83 _ ih r12.2.1 r12.2.2 fnd x1 x2 x4 x5 r12.1 x3 hf)
        · replace hf := it_n c13 hf
          refine sw_iload (pc' := 79) (i := 5) cx dX10_kind_77 6 rfl rfl ?_
          refine sw_goto (tgt := 83) cx dX10_kind_79 (by decide) ?_
          exact sw_lv [1, 2, 3, 5, 6, 0] rfl (B83 _ ih r12.2.1 r12.2.2 fnd x1 x2 x4 x5 r12.1 x5 hf)
  unfold f_X10_kind at hf
  refine sw_aload_n (pc' := 1) (i := 0) cx dX10_kind_0 rfl 0 rfl rfl ?_
  refine sw_iload_n (pc' := 2) (i := 1) cx dX10_kind_1 rfl 1 rfl rfl ?_
  obtain ⟨r1, hr1, hf⟩ := bd_s hf
  refine sw_callVw (pc' := 5) (As := [.int a0]) (rest := []) (w' := (mo_W h cI cJ row att fnd tape tmany sort begs tends word valu good bits size shts lent imag befo kept)) cx (k_X10_isFine l D h cI cJ cK cS row att fnd tape tmany sort begs tends word valu good bits size shts lent imag befo kept a0 r1 hr1) pk_yX10_isFine ml_RX10_81 ⟨rfl, rfl⟩ ⟨(Nat.le_of_ble_eq_true rfl), (Nat.le_of_ble_eq_true rfl)⟩ ⟨(Nat.le_of_ble_eq_true rfl), (Nat.le_of_ble_eq_true rfl)⟩ 0 rfl rfl rfl rfl (Nat.le_of_ble_eq_true rfl) rfl dX10_kind_2 rfl ?_
  refine sw_if_eq (pc' := 8) (tgt := 15) cx dX10_kind_5 (by decide) rfl (fun c2 => ?_) (fun c2 => ?_)
  · replace hf := it_p c2 hf
    exact sw_lv [0] rfl (B15 row att fnd hf)
  · replace hf := it_n c2 hf
    refine sw_iload_n (pc' := 9) (i := 2) cx dX10_kind_8 rfl 2 rfl rfl ?_
    obtain ⟨r3, hr3, hf⟩ := bd_s hf
    refine sw_callS (pc' := 12) (As := [.int a1]) (rest := []) cx (k_X10_isSoon l D h cI cJ cK cS a1 r3 hr3) pk_yX10_isSoon ml_RX10_148 ⟨rfl, rfl⟩ ⟨(Nat.le_of_ble_eq_true rfl), (Nat.le_of_ble_eq_true rfl)⟩ ⟨(Nat.le_of_ble_eq_true rfl), (Nat.le_of_ble_eq_true rfl)⟩ [] rfl rfl rfl (wn := (mo_W h cI cJ row att fnd tape tmany sort begs tends word valu good bits size shts lent imag befo kept)) rfl rfl (Nat.le_of_ble_eq_true rfl) rfl dX10_kind_9 rfl ?_
    refine sw_if_ne (pc' := 15) (tgt := 22) cx dX10_kind_12 (by decide) rfl (fun c4 => ?_) (fun c4 => ?_)
    · replace hf := it_n c4 hf
      refine sw_aload_n (pc' := 23) (i := 0) cx dX10_kind_22 rfl 0 rfl rfl ?_
      refine sw_iload_n (pc' := 24) (i := 2) cx dX10_kind_23 rfl 2 rfl rfl ?_
      obtain ⟨r5, hr5, hf⟩ := bd_s hf
      refine sw_callVw (pc' := 27) (As := [.int a1]) (rest := []) (w' := (mo_W h cI cJ row att fnd tape tmany sort begs tends word valu good bits size shts lent imag befo kept)) cx (k_X10_isLate l D h cI cJ cK cS row att fnd tape tmany sort begs tends word valu good bits size shts lent imag befo kept a1 r5 hr5) pk_yX10_isLate ml_RX10_135 ⟨rfl, rfl⟩ ⟨(Nat.le_of_ble_eq_true rfl), (Nat.le_of_ble_eq_true rfl)⟩ ⟨(Nat.le_of_ble_eq_true rfl), (Nat.le_of_ble_eq_true rfl)⟩ 0 rfl rfl rfl rfl (Nat.le_of_ble_eq_true rfl) rfl dX10_kind_24 rfl ?_
      refine sw_if_eq (pc' := 30) (tgt := 37) cx dX10_kind_27 (by decide) rfl (fun c6 => ?_) (fun c6 => ?_)
      · replace hf := it_p c6 hf
        refine sw_iconst (pc' := 38) (v := 0) cx dX10_kind_37 iconst_0 rfl ?_
        refine sw_istore_n (pc' := 39) (i := 3) (lv' := [(3, .int (0 : Int32)), (0, .ref (h 0)), (1, .int a0), (2, .int a1)]) cx dX10_kind_38 rfl (Nat.le_of_ble_eq_true rfl) rfl rfl ?_
        refine sw_iconst (pc' := 40) (v := -1) cx dX10_kind_39 iconst_m1 rfl ?_
        refine sw_istore (pc' := 42) (i := 4) (lv' := [(4, .int (-1 : Int32)), (3, .int (0 : Int32)), (0, .ref (h 0)), (1, .int a0), (2, .int a1)]) cx dX10_kind_40 (Nat.le_of_ble_eq_true rfl) rfl rfl ?_
        refine sw_iconst (pc' := 43) (v := 0) cx dX10_kind_42 iconst_0 rfl ?_
        refine sw_istore (pc' := 45) (i := 5) (lv' := [(5, .int (0 : Int32)), (4, .int (-1 : Int32)), (3, .int (0 : Int32)), (0, .ref (h 0)), (1, .int a0), (2, .int a1)]) cx dX10_kind_43 (Nat.le_of_ble_eq_true rfl) rfl rfl ?_
        exact sw_lv [3, 4, 5, 2, 1, 0] rfl (B45 1000 row att fnd a0 a1 (0 : Int32) (-1 : Int32) (0 : Int32) hf)
      · replace hf := it_n c6 hf
        refine sw_aload_n (pc' := 31) (i := 0) cx dX10_kind_30 rfl 0 rfl rfl ?_
        refine sw_ldc (pc' := 33) cx ct_RX10_101 dX10_kind_31 rfl ?_
        obtain ⟨r7, hr7, hf⟩ := bd_s hf
        refine sw_callVw (pc' := 36) (As := [.int (-1000000005 : Int32)]) (rest := []) (w' := (mo_W h cI cJ row att r7.2 tape tmany sort begs tends word valu good bits size shts lent imag befo kept)) cx (k_X10_finds l D h cI cJ cK cS row att fnd tape tmany sort begs tends word valu good bits size shts lent imag befo kept (-1000000005 : Int32) r7 hr7) pk_yX10_finds ml_RX10_63 ⟨rfl, rfl⟩ ⟨(Nat.le_of_ble_eq_true rfl), (Nat.le_of_ble_eq_true rfl)⟩ ⟨(Nat.le_of_ble_eq_true rfl), (Nat.le_of_ble_eq_true rfl)⟩ 0 rfl rfl rfl rfl (Nat.le_of_ble_eq_true rfl) rfl dX10_kind_33 rfl ?_
        obtain rfl := Option.some.inj hf
        exact sw_iret cx hr hQ dX10_kind_36
    · replace hf := it_p c4 hf
      exact sw_lv [0] rfl (B15 row att fnd hf)
abbrev rm_X10_mend : Room := ({ frames := 7, cells := 0, slots := 0, locals := 154 } : Room)
set_option maxRecDepth 100000 in
set_option maxHeartbeats 4000000 in
theorem k_X10_mend (l : Launch) (D : sf_D) (h : Nat → Nat) (cI cJ cK cS : ClassId) (row : Nat → Int32) (att : Int32) (fnd : Nat → Int32) (tape : Nat → Int32) (tmany : Int32) (sort : Int32) (begs : Int32) (tends : Int32) (word : Int64) (valu : Int32) (good : Int32) (bits : Nat → Int32) (size : Nat → Int32) (shts : Nat → Int64) (lent : Nat → Int64) (imag : Nat → Int32) (befo : Nat → Int32) (kept : Int32)  (res : Int32 × (Nat → Int32) × Int32 × (Nat → Int32)) (hf : f_X10_mend row att fnd = some res) : sf_Ct l yX10_mend cX10_mend 5 (some .int) rm_X10_mend D (sf_ty cI cJ cK cS) [.ref (h 0)] (mo_W h cI cJ row att fnd tape tmany sort begs tends word valu good bits size shts lent imag befo kept) (some (.int res.1)) (mo_W h cI cJ res.2.1 res.2.2.1 res.2.2.2 tape tmany sort begs tends word valu good bits size shts lent imag befo kept) := by
  refine sf_met (lv := [(0, .ref (h 0))]) (by decide) (Nat.le_of_ble_eq_true rfl) rfl ?_
  intro p e s m args below meth c A Q cx hr hQ
  have cx : sf_Cx p m meth c cX10_mend 5 s args RX10 D (sf_ty cI cJ cK cS) A := cx
  have B76 : ∀ (kk : (Nat → Int32) → Int32 → (Nat → Int32) → Int32 → Int32 → Int32 → Option (Int32 × (Nat → Int32) × Int32 × (Nat → Int32))), (∀ (row : Nat → Int32) (att : Int32) (fnd : Nat → Int32) (x1 : Int32) (x2 : Int32) (x3 : Int32), kk row att fnd x1 x2 x3 = some res → sf_W p l e rm_X10_mend s m args below meth c 0 0 Q 5 D A (mo_W h cI cJ row att fnd tape tmany sort begs tends word valu good bits size shts lent imag befo kept) [(0, .ref (h 0)), (1, .int x1), (2, .int x2), (3, .int x3)] 9 []) → ∀ (row : Nat → Int32) (att : Int32) (fnd : Nat → Int32) (x1 : Int32) (x2 : Int32) (x3 : Int32), f_X10_mend_b76 kk row att fnd x1 x2 x3 = some res → sf_W p l e rm_X10_mend s m args below meth c 0 0 Q 5 D A (mo_W h cI cJ row att fnd tape tmany sort begs tends word valu good bits size shts lent imag befo kept) [(0, .ref (h 0)), (1, .int x1), (2, .int x2), (3, .int x3)] 76 [] := by
    intro kk hkk row att fnd x1 x2 x3 hf
    unfold f_X10_mend_b76 at hf
    refine sw_iinc (pc' := 79) (v := (x3 + (1 : Int32))) (lv' := [(3, .int (x3 + (1 : Int32))), (0, .ref (h 0)), (1, .int x1), (2, .int x2)]) cx dX10_mend_76 3 rfl rfl (Nat.le_of_ble_eq_true rfl) rfl rfl ?_
    refine sw_goto (tgt := 9) cx dX10_mend_79 (by decide) ?_
    exact sw_lv [1, 2, 3, 0] rfl (hkk row att fnd x1 x2 (x3 + (1 : Int32)) hf)
  have B75 : ∀ (kk : (Nat → Int32) → Int32 → (Nat → Int32) → Int32 → Int32 → Int32 → Option (Int32 × (Nat → Int32) × Int32 × (Nat → Int32))), (∀ (row : Nat → Int32) (att : Int32) (fnd : Nat → Int32) (x1 : Int32) (x2 : Int32) (x3 : Int32), kk row att fnd x1 x2 x3 = some res → sf_W p l e rm_X10_mend s m args below meth c 0 0 Q 5 D A (mo_W h cI cJ row att fnd tape tmany sort begs tends word valu good bits size shts lent imag befo kept) [(0, .ref (h 0)), (1, .int x1), (2, .int x2), (3, .int x3)] 9 []) → ∀ (row : Nat → Int32) (att : Int32) (fnd : Nat → Int32) (x2 : Int32) (x3 : Int32) (s0 : Int32), f_X10_mend_b75 kk row att fnd x2 x3 s0 = some res → sf_W p l e rm_X10_mend s m args below meth c 0 0 Q 5 D A (mo_W h cI cJ row att fnd tape tmany sort begs tends word valu good bits size shts lent imag befo kept) [(0, .ref (h 0)), (2, .int x2), (3, .int x3)] 75 [.int s0] := by
    intro kk hkk row att fnd x2 x3 s0 hf
    unfold f_X10_mend_b75 at hf
    refine sw_istore_n (pc' := 76) (i := 1) (lv' := [(1, .int s0), (0, .ref (h 0)), (2, .int x2), (3, .int x3)]) cx dX10_mend_75 rfl (Nat.le_of_ble_eq_true rfl) rfl rfl ?_
    exact sw_lv [1, 0, 2, 3] rfl (B76 kk hkk row att fnd s0 x2 x3 hf)
  have B62 : ∀ (kk : (Nat → Int32) → Int32 → (Nat → Int32) → Int32 → Int32 → Int32 → Option (Int32 × (Nat → Int32) × Int32 × (Nat → Int32))), (∀ (row : Nat → Int32) (att : Int32) (fnd : Nat → Int32) (x1 : Int32) (x2 : Int32) (x3 : Int32), kk row att fnd x1 x2 x3 = some res → sf_W p l e rm_X10_mend s m args below meth c 0 0 Q 5 D A (mo_W h cI cJ row att fnd tape tmany sort begs tends word valu good bits size shts lent imag befo kept) [(0, .ref (h 0)), (1, .int x1), (2, .int x2), (3, .int x3)] 9 []) → ∀ (row : Nat → Int32) (att : Int32) (fnd : Nat → Int32) (x1 : Int32) (x3 : Int32) (x4 : Int32) (s0 : Int32), f_X10_mend_b62 kk row att fnd x1 x3 x4 s0 = some res → sf_W p l e rm_X10_mend s m args below meth c 0 0 Q 5 D A (mo_W h cI cJ row att fnd tape tmany sort begs tends word valu good bits size shts lent imag befo kept) [(0, .ref (h 0)), (1, .int x1), (3, .int x3), (4, .int x4)] 62 [.int s0] := by
    intro kk hkk row att fnd x1 x3 x4 s0 hf
    unfold f_X10_mend_b62 at hf
    refine sw_istore_n (pc' := 63) (i := 2) (lv' := [(2, .int s0), (0, .ref (h 0)), (1, .int x1), (3, .int x3), (4, .int x4)]) cx dX10_mend_62 rfl (Nat.le_of_ble_eq_true rfl) rfl rfl ?_
    refine sw_iload (pc' := 65) (i := 4) cx dX10_mend_63 4 rfl rfl ?_
    refine sw_iload_n (pc' := 66) (i := 1) cx dX10_mend_65 rfl 2 rfl rfl ?_
    refine sw_icmp_le (pc' := 69) (tgt := 74) cx dX10_mend_66 (by decide) rfl (fun c12 => ?_) (fun c12 => ?_)
    · replace hf := it_p c12 hf
      refine sw_iload_n (pc' := 75) (i := 1) cx dX10_mend_74 rfl 2 rfl rfl ?_
      exact sw_lv [1, 0, 3] rfl (B75 kk hkk row att fnd s0 x3 x1 hf)
    · replace hf := it_n c12 hf
      refine sw_iload (pc' := 71) (i := 4) cx dX10_mend_69 4 rfl rfl ?_
      refine sw_goto (tgt := 75) cx dX10_mend_71 (by decide) ?_
      exact sw_lv [1, 0, 3] rfl (B75 kk hkk row att fnd s0 x3 x4 hf)
  have B82 : ∀ (row : Nat → Int32) (att : Int32) (fnd : Nat → Int32) (x2 : Int32), f_X10_mend_b82 row att fnd x2 = some res → sf_W p l e rm_X10_mend s m args below meth c 0 0 Q 5 D A (mo_W h cI cJ row att fnd tape tmany sort begs tends word valu good bits size shts lent imag befo kept) [(0, .ref (h 0)), (2, .int x2)] 82 [] := by
    intro row att fnd x2 hf
    unfold f_X10_mend_b82 at hf
    refine sw_iload_n (pc' := 83) (i := 2) cx dX10_mend_82 rfl 1 rfl rfl ?_
    refine sw_if_ge (pc' := 86) (tgt := 95) cx dX10_mend_83 (by decide) rfl (fun c10 => ?_) (fun c10 => ?_)
    · replace hf := it_p c10 hf
      refine sw_iload_n (pc' := 96) (i := 2) cx dX10_mend_95 rfl 1 rfl rfl ?_
      obtain rfl := Option.some.inj hf
      exact sw_iret cx hr hQ dX10_mend_96
    · replace hf := it_n c10 hf
      refine sw_aload_n (pc' := 87) (i := 0) cx dX10_mend_86 rfl 0 rfl rfl ?_
      refine sw_ldc (pc' := 89) cx ct_RX10_147 dX10_mend_87 rfl ?_
      obtain ⟨r11, hr11, hf⟩ := bd_s hf
      refine sw_callVw (pc' := 92) (As := [.int (-1000000004 : Int32)]) (rest := []) (w' := (mo_W h cI cJ row att r11.2 tape tmany sort begs tends word valu good bits size shts lent imag befo kept)) cx (k_X10_finds l D h cI cJ cK cS row att fnd tape tmany sort begs tends word valu good bits size shts lent imag befo kept (-1000000004 : Int32) r11 hr11) pk_yX10_finds ml_RX10_63 ⟨rfl, rfl⟩ ⟨(Nat.le_of_ble_eq_true rfl), (Nat.le_of_ble_eq_true rfl)⟩ ⟨(Nat.le_of_ble_eq_true rfl), (Nat.le_of_ble_eq_true rfl)⟩ 0 rfl rfl rfl rfl (Nat.le_of_ble_eq_true rfl) rfl dX10_mend_89 rfl ?_
      refine sw_goto (tgt := 96) cx dX10_mend_92 (by decide) ?_
      obtain rfl := Option.some.inj hf
      exact sw_iret cx hr hQ dX10_mend_96
  have B9 : ∀ (n : Nat), ∀ (row : Nat → Int32) (att : Int32) (fnd : Nat → Int32) (x1 : Int32) (x2 : Int32) (x3 : Int32), f_X10_mend_b9 n row att fnd x1 x2 x3 = some res → sf_W p l e rm_X10_mend s m args below meth c 0 0 Q 5 D A (mo_W h cI cJ row att fnd tape tmany sort begs tends word valu good bits size shts lent imag befo kept) [(0, .ref (h 0)), (1, .int x1), (2, .int x2), (3, .int x3)] 9 [] := by
    intro n
    induction n with
    | zero => intro row att fnd x1 x2 x3 hf; rw [f_X10_mend_b9] at hf; cases hf
    | succ n ih =>
      intro row att fnd x1 x2 x3 hf
      rw [f_X10_mend_b9] at hf
      refine sw_iload_n (pc' := 10) (i := 3) cx dX10_mend_9 rfl 3 rfl rfl ?_
      refine sw_bipush (pc' := 12) (v := 40) cx dX10_mend_10 bipush_40 rfl ?_
      refine sw_icmp_ge (pc' := 15) (tgt := 82) cx dX10_mend_12 (by decide) rfl (fun c2 => ?_) (fun c2 => ?_)
      · replace hf := it_p c2 hf
        exact sw_lv [0, 2] rfl (B82 row att fnd x2 hf)
      · replace hf := it_n c2 hf
        refine sw_aload_n (pc' := 16) (i := 0) cx dX10_mend_15 rfl 0 rfl rfl ?_
        refine sw_get (pc' := 19) cx in_X10 0 rfl rfl 0 (Nat.le_of_ble_eq_true rfl) fl_RX10_7 rfl dX10_mend_16 rfl ?_
        refine sw_iconst (pc' := 20) (v := 4) cx dX10_mend_19 iconst_4 rfl ?_
        refine sw_iald (pc' := 21) cx 1 0 rfl rfl vi_4_510 dX10_mend_20 rfl ?_
        refine sw_if_le (pc' := 24) (tgt := 82) cx dX10_mend_21 (by decide) rfl (fun c3 => ?_) (fun c3 => ?_)
        · replace hf := it_p c3 hf
          exact sw_lv [0, 2] rfl (B82 row att fnd x2 hf)
        · replace hf := it_n c3 hf
          refine sw_aload_n (pc' := 25) (i := 0) cx dX10_mend_24 rfl 0 rfl rfl ?_
          refine sw_iload_n (pc' := 26) (i := 3) cx dX10_mend_25 rfl 3 rfl rfl ?_
          obtain ⟨r4, hr4, hf⟩ := bd_s hf
          refine sw_callVw (pc' := 29) (As := [.int x3]) (rest := []) (w' := (mo_W h cI cJ row att fnd tape tmany sort begs tends word valu good bits size shts lent imag befo kept)) cx (k_X10_isWhole l D h cI cJ cK cS row att fnd tape tmany sort begs tends word valu good bits size shts lent imag befo kept x3 r4 hr4) pk_yX10_isWhole ml_RX10_78 ⟨rfl, rfl⟩ ⟨(Nat.le_of_ble_eq_true rfl), (Nat.le_of_ble_eq_true rfl)⟩ ⟨(Nat.le_of_ble_eq_true rfl), (Nat.le_of_ble_eq_true rfl)⟩ 0 rfl rfl rfl rfl (Nat.le_of_ble_eq_true rfl) rfl dX10_mend_26 rfl ?_
          refine sw_if_ne (pc' := 32) (tgt := 76) cx dX10_mend_29 (by decide) rfl (fun c5 => ?_) (fun c5 => ?_)
          · replace hf := it_n c5 hf
            exact sw_lv [0, 1, 2, 3] rfl (B76 _ ih row att fnd x1 x2 x3 hf)
          · replace hf := it_p c5 hf
            refine sw_aload_n (pc' := 33) (i := 0) cx dX10_mend_32 rfl 0 rfl rfl ?_
            obtain ⟨r6, hr6, hf⟩ := bd_s hf
            refine sw_callVw (pc' := 36) (As := []) (rest := []) (w' := (mo_W h cI cJ r6.1 r6.2 fnd tape tmany sort begs tends word valu good bits size shts lent imag befo kept)) cx (k_X10_lends l D h cI cJ cK cS row att fnd tape tmany sort begs tends word valu good bits size shts lent imag befo kept  r6 hr6) pk_yX10_lends ml_RX10_144 ⟨rfl, rfl⟩ ⟨(Nat.le_of_ble_eq_true rfl), (Nat.le_of_ble_eq_true rfl)⟩ ⟨(Nat.le_of_ble_eq_true rfl), (Nat.le_of_ble_eq_true rfl)⟩ 0 rfl rfl rfl rfl (Nat.le_of_ble_eq_true rfl) rfl dX10_mend_33 rfl ?_
            refine sw_aload_n (pc' := 37) (i := 0) cx dX10_mend_36 rfl 0 rfl rfl ?_
            refine sw_iload_n (pc' := 38) (i := 3) cx dX10_mend_37 rfl 3 rfl rfl ?_
            refine sw_bipush (pc' := 40) (v := 10) cx dX10_mend_38 bipush_10 rfl ?_
            refine sw_iconst (pc' := 41) (v := 0) cx dX10_mend_40 iconst_0 rfl ?_
            obtain ⟨r7, hr7, hf⟩ := bd_s hf
            refine sw_callVw (pc' := 44) (As := [.int x3, .int (10 : Int32), .int (0 : Int32)]) (rest := []) (w' := (mo_W h cI cJ r7 r6.2 fnd tape tmany sort begs tends word valu good bits size shts lent imag befo kept)) cx (k_X10_cuts l D h cI cJ cK cS r6.1 r6.2 fnd tape tmany sort begs tends word valu good bits size shts lent imag befo kept x3 (10 : Int32) (0 : Int32) r7 hr7) pk_yX10_cuts ml_RX10_106 ⟨rfl, rfl⟩ ⟨(Nat.le_of_ble_eq_true rfl), (Nat.le_of_ble_eq_true rfl)⟩ ⟨(Nat.le_of_ble_eq_true rfl), (Nat.le_of_ble_eq_true rfl)⟩ 0 rfl rfl rfl rfl (Nat.le_of_ble_eq_true rfl) rfl dX10_mend_41 rfl ?_
            refine sw_aload_n (pc' := 45) (i := 0) cx dX10_mend_44 rfl 0 rfl rfl ?_
            refine sw_iconst (pc' := 46) (v := 0) cx dX10_mend_45 iconst_0 rfl ?_
            obtain ⟨r8, hr8, hf⟩ := bd_s hf
            refine sw_callVw (pc' := 49) (As := [.int (0 : Int32)]) (rest := []) (w' := (mo_W h cI cJ r8.2.1 r8.2.2 fnd tape tmany sort begs tends word valu good bits size shts lent imag befo kept)) cx (k_X10_reachThen l D h cI cJ cK cS r7 r6.2 fnd tape tmany sort begs tends word valu good bits size shts lent imag befo kept (0 : Int32) r8 hr8) pk_yX10_reachThen ml_RX10_151 ⟨rfl, rfl⟩ ⟨(Nat.le_of_ble_eq_true rfl), (Nat.le_of_ble_eq_true rfl)⟩ ⟨(Nat.le_of_ble_eq_true rfl), (Nat.le_of_ble_eq_true rfl)⟩ 0 rfl rfl rfl rfl (Nat.le_of_ble_eq_true rfl) rfl dX10_mend_46 rfl ?_
            refine sw_istore (pc' := 51) (i := 4) (lv' := [(4, .int r8.1), (0, .ref (h 0)), (1, .int x1), (2, .int x2), (3, .int x3)]) cx dX10_mend_49 (Nat.le_of_ble_eq_true rfl) rfl rfl ?_
            refine sw_iload (pc' := 53) (i := 4) cx dX10_mend_51 0 rfl rfl ?_
            refine sw_iload_n (pc' := 54) (i := 1) cx dX10_mend_53 rfl 2 rfl rfl ?_
            refine sw_icmp_le (pc' := 57) (tgt := 61) cx dX10_mend_54 (by decide) rfl (fun c9 => ?_) (fun c9 => ?_)
            · replace hf := it_p c9 hf
              refine sw_iload_n (pc' := 62) (i := 2) cx dX10_mend_61 rfl 3 rfl rfl ?_
              exact sw_lv [1, 2, 4, 0] rfl (B62 _ ih r8.2.1 r8.2.2 fnd x1 x3 r8.1 x2 hf)
            · replace hf := it_n c9 hf
              refine sw_iload_n (pc' := 58) (i := 3) cx dX10_mend_57 rfl 4 rfl rfl ?_
              refine sw_goto (tgt := 62) cx dX10_mend_58 (by decide) ?_
              exact sw_lv [1, 2, 4, 0] rfl (B62 _ ih r8.2.1 r8.2.2 fnd x1 x3 r8.1 x3 hf)
  unfold f_X10_mend at hf
  refine sw_aload_n (pc' := 1) (i := 0) cx dX10_mend_0 rfl 0 rfl rfl ?_
  obtain ⟨r1, hr1, hf⟩ := bd_s hf
  refine sw_callVw (pc' := 4) (As := []) (rest := []) (w' := (mo_W h cI cJ row att fnd tape tmany sort begs tends word valu good bits size shts lent imag befo kept)) cx (k_X10_reachNow l D h cI cJ cK cS row att fnd tape tmany sort begs tends word valu good bits size shts lent imag befo kept  r1 hr1) pk_yX10_reachNow ml_RX10_119 ⟨rfl, rfl⟩ ⟨(Nat.le_of_ble_eq_true rfl), (Nat.le_of_ble_eq_true rfl)⟩ ⟨(Nat.le_of_ble_eq_true rfl), (Nat.le_of_ble_eq_true rfl)⟩ 0 rfl rfl rfl rfl (Nat.le_of_ble_eq_true rfl) rfl dX10_mend_1 rfl ?_
  refine sw_istore_n (pc' := 5) (i := 1) (lv' := [(1, .int r1), (0, .ref (h 0))]) cx dX10_mend_4 rfl (Nat.le_of_ble_eq_true rfl) rfl rfl ?_
  refine sw_iconst (pc' := 6) (v := -1) cx dX10_mend_5 iconst_m1 rfl ?_
  refine sw_istore_n (pc' := 7) (i := 2) (lv' := [(2, .int (-1 : Int32)), (1, .int r1), (0, .ref (h 0))]) cx dX10_mend_6 rfl (Nat.le_of_ble_eq_true rfl) rfl rfl ?_
  refine sw_iconst (pc' := 8) (v := 0) cx dX10_mend_7 iconst_0 rfl ?_
  refine sw_istore_n (pc' := 9) (i := 3) (lv' := [(3, .int (0 : Int32)), (2, .int (-1 : Int32)), (1, .int r1), (0, .ref (h 0))]) cx dX10_mend_8 rfl (Nat.le_of_ble_eq_true rfl) rfl rfl ?_
  exact sw_lv [3, 2, 1, 0] rfl (B9 1000 row att fnd r1 (-1 : Int32) (0 : Int32) hf)
abbrev rm_X10_needed : Room := ({ frames := 7, cells := 0, slots := 0, locals := 154 } : Room)
set_option maxRecDepth 100000 in
set_option maxHeartbeats 4000000 in
theorem k_X10_needed (l : Launch) (D : sf_D) (h : Nat → Nat) (cI cJ cK cS : ClassId) (row : Nat → Int32) (att : Int32) (fnd : Nat → Int32) (tape : Nat → Int32) (tmany : Int32) (sort : Int32) (begs : Int32) (tends : Int32) (word : Int64) (valu : Int32) (good : Int32) (bits : Nat → Int32) (size : Nat → Int32) (shts : Nat → Int64) (lent : Nat → Int64) (imag : Nat → Int32) (befo : Nat → Int32) (kept : Int32) (a0 : Int32) (res : Int32 × (Nat → Int32) × Int32 × (Nat → Int32)) (hf : f_X10_needed row att fnd a0 = some res) : sf_Ct l yX10_needed cX10_needed 6 (some .int) rm_X10_needed D (sf_ty cI cJ cK cS) [.ref (h 0), .int a0] (mo_W h cI cJ row att fnd tape tmany sort begs tends word valu good bits size shts lent imag befo kept) (some (.int res.1)) (mo_W h cI cJ res.2.1 res.2.2.1 res.2.2.2 tape tmany sort begs tends word valu good bits size shts lent imag befo kept) := by
  refine sf_met (lv := [(0, .ref (h 0)), (1, .int a0)]) (by decide) (Nat.le_of_ble_eq_true rfl) rfl ?_
  intro p e s m args below meth c A Q cx hr hQ
  have cx : sf_Cx p m meth c cX10_needed 6 s args RX10 D (sf_ty cI cJ cK cS) A := cx
  have B99 : ∀ (kk : (Nat → Int32) → Int32 → (Nat → Int32) → Int32 → Int32 → Int32 → Int32 → Option (Int32 × (Nat → Int32) × Int32 × (Nat → Int32))), (∀ (row : Nat → Int32) (att : Int32) (fnd : Nat → Int32) (x1 : Int32) (x2 : Int32) (x3 : Int32) (x4 : Int32), kk row att fnd x1 x2 x3 x4 = some res → sf_W p l e rm_X10_needed s m args below meth c 0 0 Q 6 D A (mo_W h cI cJ row att fnd tape tmany sort begs tends word valu good bits size shts lent imag befo kept) [(0, .ref (h 0)), (1, .int x1), (2, .int x2), (3, .int x3), (4, .int x4)] 44 []) → ∀ (row : Nat → Int32) (att : Int32) (fnd : Nat → Int32) (x1 : Int32) (x3 : Int32) (x4 : Int32) (s0 : Int32), f_X10_needed_b99 kk row att fnd x1 x3 x4 s0 = some res → sf_W p l e rm_X10_needed s m args below meth c 0 0 Q 6 D A (mo_W h cI cJ row att fnd tape tmany sort begs tends word valu good bits size shts lent imag befo kept) [(0, .ref (h 0)), (1, .int x1), (3, .int x3), (4, .int x4)] 99 [.int s0] := by
    intro kk hkk row att fnd x1 x3 x4 s0 hf
    unfold f_X10_needed_b99 at hf
    refine sw_istore_n (pc' := 100) (i := 2) (lv' := [(2, .int s0), (0, .ref (h 0)), (1, .int x1), (3, .int x3), (4, .int x4)]) cx dX10_needed_99 rfl (Nat.le_of_ble_eq_true rfl) rfl rfl ?_
    refine sw_iinc (pc' := 103) (v := (x4 + (1 : Int32))) (lv' := [(4, .int (x4 + (1 : Int32))), (2, .int s0), (0, .ref (h 0)), (1, .int x1), (3, .int x3)]) cx dX10_needed_100 4 rfl rfl (Nat.le_of_ble_eq_true rfl) rfl rfl ?_
    refine sw_goto (tgt := 44) cx dX10_needed_103 (by decide) ?_
    exact sw_lv [2, 3, 1, 4, 0] rfl (hkk row att fnd x1 s0 x3 (x4 + (1 : Int32)) hf)
  have B86 : ∀ (kk : (Nat → Int32) → Int32 → (Nat → Int32) → Int32 → Int32 → Int32 → Int32 → Option (Int32 × (Nat → Int32) × Int32 × (Nat → Int32))), (∀ (row : Nat → Int32) (att : Int32) (fnd : Nat → Int32) (x1 : Int32) (x2 : Int32) (x3 : Int32) (x4 : Int32), kk row att fnd x1 x2 x3 x4 = some res → sf_W p l e rm_X10_needed s m args below meth c 0 0 Q 6 D A (mo_W h cI cJ row att fnd tape tmany sort begs tends word valu good bits size shts lent imag befo kept) [(0, .ref (h 0)), (1, .int x1), (2, .int x2), (3, .int x3), (4, .int x4)] 44 []) → ∀ (row : Nat → Int32) (att : Int32) (fnd : Nat → Int32) (x1 : Int32) (x2 : Int32) (x4 : Int32) (x5 : Int32) (s0 : Int32), f_X10_needed_b86 kk row att fnd x1 x2 x4 x5 s0 = some res → sf_W p l e rm_X10_needed s m args below meth c 0 0 Q 6 D A (mo_W h cI cJ row att fnd tape tmany sort begs tends word valu good bits size shts lent imag befo kept) [(0, .ref (h 0)), (1, .int x1), (2, .int x2), (4, .int x4), (5, .int x5)] 86 [.int s0] := by
    intro kk hkk row att fnd x1 x2 x4 x5 s0 hf
    unfold f_X10_needed_b86 at hf
    refine sw_istore_n (pc' := 87) (i := 3) (lv' := [(3, .int s0), (0, .ref (h 0)), (1, .int x1), (2, .int x2), (4, .int x4), (5, .int x5)]) cx dX10_needed_86 rfl (Nat.le_of_ble_eq_true rfl) rfl rfl ?_
    refine sw_iload (pc' := 89) (i := 5) cx dX10_needed_87 5 rfl rfl ?_
    refine sw_iload_n (pc' := 90) (i := 2) cx dX10_needed_89 rfl 3 rfl rfl ?_
    refine sw_icmp_ge (pc' := 93) (tgt := 98) cx dX10_needed_90 (by decide) rfl (fun c16 => ?_) (fun c16 => ?_)
    · replace hf := it_p c16 hf
      refine sw_iload_n (pc' := 99) (i := 2) cx dX10_needed_98 rfl 3 rfl rfl ?_
      exact sw_lv [1, 2, 0, 4] rfl (B99 kk hkk row att fnd x1 s0 x4 x2 hf)
    · replace hf := it_n c16 hf
      refine sw_iload (pc' := 95) (i := 5) cx dX10_needed_93 5 rfl rfl ?_
      refine sw_goto (tgt := 99) cx dX10_needed_95 (by decide) ?_
      exact sw_lv [1, 2, 0, 4] rfl (B99 kk hkk row att fnd x1 s0 x4 x5 hf)
  have B44 : ∀ (n : Nat), ∀ (row : Nat → Int32) (att : Int32) (fnd : Nat → Int32) (x1 : Int32) (x2 : Int32) (x3 : Int32) (x4 : Int32), f_X10_needed_b44 n row att fnd x1 x2 x3 x4 = some res → sf_W p l e rm_X10_needed s m args below meth c 0 0 Q 6 D A (mo_W h cI cJ row att fnd tape tmany sort begs tends word valu good bits size shts lent imag befo kept) [(0, .ref (h 0)), (1, .int x1), (2, .int x2), (3, .int x3), (4, .int x4)] 44 [] := by
    intro n
    induction n with
    | zero => intro row att fnd x1 x2 x3 x4 hf; rw [f_X10_needed_b44] at hf; cases hf
    | succ n ih =>
      intro row att fnd x1 x2 x3 x4 hf
      rw [f_X10_needed_b44] at hf
      refine sw_iload (pc' := 46) (i := 4) cx dX10_needed_44 4 rfl rfl ?_
      refine sw_aload_n (pc' := 47) (i := 0) cx dX10_needed_46 rfl 0 rfl rfl ?_
      refine sw_get (pc' := 50) cx in_X10 0 rfl rfl 0 (Nat.le_of_ble_eq_true rfl) fl_RX10_7 rfl dX10_needed_47 rfl ?_
      refine sw_iconst (pc' := 51) (v := 4) cx dX10_needed_50 iconst_4 rfl ?_
      refine sw_iald (pc' := 52) cx 1 0 rfl rfl vi_4_510 dX10_needed_51 rfl ?_
      refine sw_icmp_ge (pc' := 55) (tgt := 106) cx dX10_needed_52 (by decide) rfl (fun c9 => ?_) (fun c9 => ?_)
      · replace hf := it_p c9 hf
        refine sw_iload_n (pc' := 107) (i := 3) cx dX10_needed_106 rfl 3 rfl rfl ?_
        refine sw_if_ge (pc' := 110) (tgt := 119) cx dX10_needed_107 (by decide) rfl (fun c10 => ?_) (fun c10 => ?_)
        · replace hf := it_p c10 hf
          refine sw_iload_n (pc' := 120) (i := 3) cx dX10_needed_119 rfl 3 rfl rfl ?_
          obtain rfl := Option.some.inj hf
          exact sw_iret cx hr hQ dX10_needed_120
        · replace hf := it_n c10 hf
          refine sw_aload_n (pc' := 111) (i := 0) cx dX10_needed_110 rfl 0 rfl rfl ?_
          refine sw_ldc (pc' := 113) cx ct_RX10_147 dX10_needed_111 rfl ?_
          obtain ⟨r11, hr11, hf⟩ := bd_s hf
          refine sw_callVw (pc' := 116) (As := [.int (-1000000004 : Int32)]) (rest := []) (w' := (mo_W h cI cJ row att r11.2 tape tmany sort begs tends word valu good bits size shts lent imag befo kept)) cx (k_X10_finds l D h cI cJ cK cS row att fnd tape tmany sort begs tends word valu good bits size shts lent imag befo kept (-1000000004 : Int32) r11 hr11) pk_yX10_finds ml_RX10_63 ⟨rfl, rfl⟩ ⟨(Nat.le_of_ble_eq_true rfl), (Nat.le_of_ble_eq_true rfl)⟩ ⟨(Nat.le_of_ble_eq_true rfl), (Nat.le_of_ble_eq_true rfl)⟩ 0 rfl rfl rfl rfl (Nat.le_of_ble_eq_true rfl) rfl dX10_needed_113 rfl ?_
          refine sw_goto (tgt := 120) cx dX10_needed_116 (by decide) ?_
          obtain rfl := Option.some.inj hf
          exact sw_iret cx hr hQ dX10_needed_120
      · replace hf := it_n c9 hf
        refine sw_aload_n (pc' := 56) (i := 0) cx dX10_needed_55 rfl 0 rfl rfl ?_
        obtain ⟨r12, hr12, hf⟩ := bd_s hf
        refine sw_callVw (pc' := 59) (As := []) (rest := []) (w' := (mo_W h cI cJ r12.1 r12.2 fnd tape tmany sort begs tends word valu good bits size shts lent imag befo kept)) cx (k_X10_lends l D h cI cJ cK cS row att fnd tape tmany sort begs tends word valu good bits size shts lent imag befo kept  r12 hr12) pk_yX10_lends ml_RX10_144 ⟨rfl, rfl⟩ ⟨(Nat.le_of_ble_eq_true rfl), (Nat.le_of_ble_eq_true rfl)⟩ ⟨(Nat.le_of_ble_eq_true rfl), (Nat.le_of_ble_eq_true rfl)⟩ 0 rfl rfl rfl rfl (Nat.le_of_ble_eq_true rfl) rfl dX10_needed_56 rfl ?_
        refine sw_aload_n (pc' := 60) (i := 0) cx dX10_needed_59 rfl 0 rfl rfl ?_
        refine sw_iload (pc' := 62) (i := 4) cx dX10_needed_60 4 rfl rfl ?_
        refine sw_iconst (pc' := 63) (v := 1) cx dX10_needed_62 iconst_1 rfl ?_
        refine sw_iconst (pc' := 64) (v := 0) cx dX10_needed_63 iconst_0 rfl ?_
        obtain ⟨r13, hr13, hf⟩ := bd_s hf
        refine sw_callVw (pc' := 67) (As := [.int x4, .int (1 : Int32), .int (0 : Int32)]) (rest := []) (w' := (mo_W h cI cJ r13 r12.2 fnd tape tmany sort begs tends word valu good bits size shts lent imag befo kept)) cx (k_X10_sets l D h cI cJ cK cS r12.1 r12.2 fnd tape tmany sort begs tends word valu good bits size shts lent imag befo kept x4 (1 : Int32) (0 : Int32) r13 hr13) pk_yX10_sets ml_RX10_66 ⟨rfl, rfl⟩ ⟨(Nat.le_of_ble_eq_true rfl), (Nat.le_of_ble_eq_true rfl)⟩ ⟨(Nat.le_of_ble_eq_true rfl), (Nat.le_of_ble_eq_true rfl)⟩ 0 rfl rfl rfl rfl (Nat.le_of_ble_eq_true rfl) rfl dX10_needed_64 rfl ?_
        refine sw_aload_n (pc' := 68) (i := 0) cx dX10_needed_67 rfl 0 rfl rfl ?_
        refine sw_iload_n (pc' := 69) (i := 1) cx dX10_needed_68 rfl 1 rfl rfl ?_
        obtain ⟨r14, hr14, hf⟩ := bd_s hf
        refine sw_callVw (pc' := 72) (As := [.int x1]) (rest := []) (w' := (mo_W h cI cJ r14.2.1 r14.2.2 fnd tape tmany sort begs tends word valu good bits size shts lent imag befo kept)) cx (k_X10_reachThen l D h cI cJ cK cS r13 r12.2 fnd tape tmany sort begs tends word valu good bits size shts lent imag befo kept x1 r14 hr14) pk_yX10_reachThen ml_RX10_151 ⟨rfl, rfl⟩ ⟨(Nat.le_of_ble_eq_true rfl), (Nat.le_of_ble_eq_true rfl)⟩ ⟨(Nat.le_of_ble_eq_true rfl), (Nat.le_of_ble_eq_true rfl)⟩ 0 rfl rfl rfl rfl (Nat.le_of_ble_eq_true rfl) rfl dX10_needed_69 rfl ?_
        refine sw_istore (pc' := 74) (i := 5) (lv' := [(5, .int r14.1), (0, .ref (h 0)), (1, .int x1), (2, .int x2), (3, .int x3), (4, .int x4)]) cx dX10_needed_72 (Nat.le_of_ble_eq_true rfl) rfl rfl ?_
        refine sw_iload (pc' := 76) (i := 5) cx dX10_needed_74 0 rfl rfl ?_
        refine sw_iload_n (pc' := 77) (i := 2) cx dX10_needed_76 rfl 3 rfl rfl ?_
        refine sw_icmp_ge (pc' := 80) (tgt := 85) cx dX10_needed_77 (by decide) rfl (fun c15 => ?_) (fun c15 => ?_)
        · replace hf := it_p c15 hf
          refine sw_iload_n (pc' := 86) (i := 3) cx dX10_needed_85 rfl 4 rfl rfl ?_
          exact sw_lv [1, 2, 3, 5, 0] rfl (B86 _ ih r14.2.1 r14.2.2 fnd x1 x2 x4 r14.1 x3 hf)
        · replace hf := it_n c15 hf
          refine sw_iload (pc' := 82) (i := 4) cx dX10_needed_80 5 rfl rfl ?_
          refine sw_goto (tgt := 86) cx dX10_needed_82 (by decide) ?_
          exact sw_lv [1, 2, 3, 5, 0] rfl (B86 _ ih r14.2.1 r14.2.2 fnd x1 x2 x4 r14.1 x4 hf)
  unfold f_X10_needed at hf
  refine sw_iload_n (pc' := 1) (i := 1) cx dX10_needed_0 rfl 1 rfl rfl ?_
  obtain ⟨r1, hr1, hf⟩ := bd_s hf
  refine sw_callS (pc' := 4) (As := [.int a0]) (rest := []) cx (k_X10_isSoon l D h cI cJ cK cS a0 r1 hr1) pk_yX10_isSoon ml_RX10_148 ⟨rfl, rfl⟩ ⟨(Nat.le_of_ble_eq_true rfl), (Nat.le_of_ble_eq_true rfl)⟩ ⟨(Nat.le_of_ble_eq_true rfl), (Nat.le_of_ble_eq_true rfl)⟩ [] rfl rfl rfl (wn := (mo_W h cI cJ row att fnd tape tmany sort begs tends word valu good bits size shts lent imag befo kept)) rfl rfl (Nat.le_of_ble_eq_true rfl) rfl dX10_needed_1 rfl ?_
  refine sw_if_ne (pc' := 7) (tgt := 14) cx dX10_needed_4 (by decide) rfl (fun c2 => ?_) (fun c2 => ?_)
  · replace hf := it_n c2 hf
    refine sw_aload_n (pc' := 15) (i := 0) cx dX10_needed_14 rfl 0 rfl rfl ?_
    refine sw_iload_n (pc' := 16) (i := 1) cx dX10_needed_15 rfl 1 rfl rfl ?_
    obtain ⟨r3, hr3, hf⟩ := bd_s hf
    refine sw_callVw (pc' := 19) (As := [.int a0]) (rest := []) (w' := (mo_W h cI cJ row att fnd tape tmany sort begs tends word valu good bits size shts lent imag befo kept)) cx (k_X10_isLate l D h cI cJ cK cS row att fnd tape tmany sort begs tends word valu good bits size shts lent imag befo kept a0 r3 hr3) pk_yX10_isLate ml_RX10_135 ⟨rfl, rfl⟩ ⟨(Nat.le_of_ble_eq_true rfl), (Nat.le_of_ble_eq_true rfl)⟩ ⟨(Nat.le_of_ble_eq_true rfl), (Nat.le_of_ble_eq_true rfl)⟩ 0 rfl rfl rfl rfl (Nat.le_of_ble_eq_true rfl) rfl dX10_needed_16 rfl ?_
    refine sw_if_eq (pc' := 22) (tgt := 29) cx dX10_needed_19 (by decide) rfl (fun c4 => ?_) (fun c4 => ?_)
    · replace hf := it_p c4 hf
      refine sw_aload_n (pc' := 30) (i := 0) cx dX10_needed_29 rfl 0 rfl rfl ?_
      obtain ⟨r5, hr5, hf⟩ := bd_s hf
      refine sw_callVw (pc' := 33) (As := []) (rest := []) (w' := (mo_W h cI cJ r5.1 r5.2 fnd tape tmany sort begs tends word valu good bits size shts lent imag befo kept)) cx (k_X10_lends l D h cI cJ cK cS row att fnd tape tmany sort begs tends word valu good bits size shts lent imag befo kept  r5 hr5) pk_yX10_lends ml_RX10_144 ⟨rfl, rfl⟩ ⟨(Nat.le_of_ble_eq_true rfl), (Nat.le_of_ble_eq_true rfl)⟩ ⟨(Nat.le_of_ble_eq_true rfl), (Nat.le_of_ble_eq_true rfl)⟩ 0 rfl rfl rfl rfl (Nat.le_of_ble_eq_true rfl) rfl dX10_needed_30 rfl ?_
      refine sw_aload_n (pc' := 34) (i := 0) cx dX10_needed_33 rfl 0 rfl rfl ?_
      refine sw_iload_n (pc' := 35) (i := 1) cx dX10_needed_34 rfl 1 rfl rfl ?_
      obtain ⟨r6, hr6, hf⟩ := bd_s hf
      refine sw_callVw (pc' := 38) (As := [.int a0]) (rest := []) (w' := (mo_W h cI cJ r6.2.1 r6.2.2 fnd tape tmany sort begs tends word valu good bits size shts lent imag befo kept)) cx (k_X10_reachThen l D h cI cJ cK cS r5.1 r5.2 fnd tape tmany sort begs tends word valu good bits size shts lent imag befo kept a0 r6 hr6) pk_yX10_reachThen ml_RX10_151 ⟨rfl, rfl⟩ ⟨(Nat.le_of_ble_eq_true rfl), (Nat.le_of_ble_eq_true rfl)⟩ ⟨(Nat.le_of_ble_eq_true rfl), (Nat.le_of_ble_eq_true rfl)⟩ 0 rfl rfl rfl rfl (Nat.le_of_ble_eq_true rfl) rfl dX10_needed_35 rfl ?_
      refine sw_istore_n (pc' := 39) (i := 2) (lv' := [(2, .int r6.1), (0, .ref (h 0)), (1, .int a0)]) cx dX10_needed_38 rfl (Nat.le_of_ble_eq_true rfl) rfl rfl ?_
      refine sw_iconst (pc' := 40) (v := -1) cx dX10_needed_39 iconst_m1 rfl ?_
      refine sw_istore_n (pc' := 41) (i := 3) (lv' := [(3, .int (-1 : Int32)), (2, .int r6.1), (0, .ref (h 0)), (1, .int a0)]) cx dX10_needed_40 rfl (Nat.le_of_ble_eq_true rfl) rfl rfl ?_
      refine sw_iconst (pc' := 42) (v := 0) cx dX10_needed_41 iconst_0 rfl ?_
      refine sw_istore (pc' := 44) (i := 4) (lv' := [(4, .int (0 : Int32)), (3, .int (-1 : Int32)), (2, .int r6.1), (0, .ref (h 0)), (1, .int a0)]) cx dX10_needed_42 (Nat.le_of_ble_eq_true rfl) rfl rfl ?_
      exact sw_lv [3, 4, 2, 1, 0] rfl (B44 1000 r6.2.1 r6.2.2 fnd a0 r6.1 (-1 : Int32) (0 : Int32) hf)
    · replace hf := it_n c4 hf
      refine sw_aload_n (pc' := 23) (i := 0) cx dX10_needed_22 rfl 0 rfl rfl ?_
      refine sw_ldc (pc' := 25) cx ct_RX10_101 dX10_needed_23 rfl ?_
      obtain ⟨r7, hr7, hf⟩ := bd_s hf
      refine sw_callVw (pc' := 28) (As := [.int (-1000000005 : Int32)]) (rest := []) (w' := (mo_W h cI cJ row att r7.2 tape tmany sort begs tends word valu good bits size shts lent imag befo kept)) cx (k_X10_finds l D h cI cJ cK cS row att fnd tape tmany sort begs tends word valu good bits size shts lent imag befo kept (-1000000005 : Int32) r7 hr7) pk_yX10_finds ml_RX10_63 ⟨rfl, rfl⟩ ⟨(Nat.le_of_ble_eq_true rfl), (Nat.le_of_ble_eq_true rfl)⟩ ⟨(Nat.le_of_ble_eq_true rfl), (Nat.le_of_ble_eq_true rfl)⟩ 0 rfl rfl rfl rfl (Nat.le_of_ble_eq_true rfl) rfl dX10_needed_25 rfl ?_
      obtain rfl := Option.some.inj hf
      exact sw_iret cx hr hQ dX10_needed_28
  · replace hf := it_p c2 hf
    refine sw_aload_n (pc' := 8) (i := 0) cx dX10_needed_7 rfl 0 rfl rfl ?_
    refine sw_ldc (pc' := 10) cx ct_RX10_38 dX10_needed_8 rfl ?_
    obtain ⟨r8, hr8, hf⟩ := bd_s hf
    refine sw_callVw (pc' := 13) (As := [.int (-1000000001 : Int32)]) (rest := []) (w' := (mo_W h cI cJ row att r8.2 tape tmany sort begs tends word valu good bits size shts lent imag befo kept)) cx (k_X10_finds l D h cI cJ cK cS row att fnd tape tmany sort begs tends word valu good bits size shts lent imag befo kept (-1000000001 : Int32) r8 hr8) pk_yX10_finds ml_RX10_63 ⟨rfl, rfl⟩ ⟨(Nat.le_of_ble_eq_true rfl), (Nat.le_of_ble_eq_true rfl)⟩ ⟨(Nat.le_of_ble_eq_true rfl), (Nat.le_of_ble_eq_true rfl)⟩ 0 rfl rfl rfl rfl (Nat.le_of_ble_eq_true rfl) rfl dX10_needed_10 rfl ?_
    obtain rfl := Option.some.inj hf
    exact sw_iret cx hr hQ dX10_needed_13
abbrev rm_X10_steepest : Room := ({ frames := 3, cells := 0, slots := 0, locals := 63 } : Room)
set_option maxRecDepth 100000 in
set_option maxHeartbeats 4000000 in
theorem k_X10_steepest (l : Launch) (D : sf_D) (h : Nat → Nat) (cI cJ cK cS : ClassId) (row : Nat → Int32) (att : Int32) (fnd : Nat → Int32) (tape : Nat → Int32) (tmany : Int32) (sort : Int32) (begs : Int32) (tends : Int32) (word : Int64) (valu : Int32) (good : Int32) (bits : Nat → Int32) (size : Nat → Int32) (shts : Nat → Int64) (lent : Nat → Int64) (imag : Nat → Int32) (befo : Nat → Int32) (kept : Int32)  (res : Int32 × (Nat → Int32)) (hf : f_X10_steepest row att fnd = some res) : sf_Ct l yX10_steepest cX10_steepest 3 (some .int) rm_X10_steepest D (sf_ty cI cJ cK cS) [.ref (h 0)] (mo_W h cI cJ row att fnd tape tmany sort begs tends word valu good bits size shts lent imag befo kept) (some (.int res.1)) (mo_W h cI cJ row att res.2 tape tmany sort begs tends word valu good bits size shts lent imag befo kept) := by
  refine sf_met (lv := [(0, .ref (h 0))]) (by decide) (Nat.le_of_ble_eq_true rfl) rfl ?_
  intro p e s m args below meth c A Q cx hr hQ
  have cx : sf_Cx p m meth c cX10_steepest 3 s args RX10 D (sf_ty cI cJ cK cS) A := cx
  have B49 : ∀ (kk : (Nat → Int32) → Int32 → Int32 → Option (Int32 × (Nat → Int32))), (∀ (fnd : Nat → Int32) (x1 : Int32) (x2 : Int32), kk fnd x1 x2 = some res → sf_W p l e rm_X10_steepest s m args below meth c 0 0 Q 3 D A (mo_W h cI cJ row att fnd tape tmany sort begs tends word valu good bits size shts lent imag befo kept) [(0, .ref (h 0)), (1, .int x1), (2, .int x2)] 4 []) → ∀ (fnd : Nat → Int32) (x1 : Int32) (x2 : Int32), f_X10_steepest_b49 row att kk fnd x1 x2 = some res → sf_W p l e rm_X10_steepest s m args below meth c 0 0 Q 3 D A (mo_W h cI cJ row att fnd tape tmany sort begs tends word valu good bits size shts lent imag befo kept) [(0, .ref (h 0)), (1, .int x1), (2, .int x2)] 49 [] := by
    intro kk hkk fnd x1 x2 hf
    unfold f_X10_steepest_b49 at hf
    refine sw_iinc (pc' := 52) (v := (x2 + (1 : Int32))) (lv' := [(2, .int (x2 + (1 : Int32))), (0, .ref (h 0)), (1, .int x1)]) cx dX10_steepest_49 2 rfl rfl (Nat.le_of_ble_eq_true rfl) rfl rfl ?_
    refine sw_goto (tgt := 4) cx dX10_steepest_52 (by decide) ?_
    exact sw_lv [1, 2, 0] rfl (hkk fnd x1 (x2 + (1 : Int32)) hf)
  have B48 : ∀ (kk : (Nat → Int32) → Int32 → Int32 → Option (Int32 × (Nat → Int32))), (∀ (fnd : Nat → Int32) (x1 : Int32) (x2 : Int32), kk fnd x1 x2 = some res → sf_W p l e rm_X10_steepest s m args below meth c 0 0 Q 3 D A (mo_W h cI cJ row att fnd tape tmany sort begs tends word valu good bits size shts lent imag befo kept) [(0, .ref (h 0)), (1, .int x1), (2, .int x2)] 4 []) → ∀ (fnd : Nat → Int32) (x2 : Int32) (s0 : Int32), f_X10_steepest_b48 row att kk fnd x2 s0 = some res → sf_W p l e rm_X10_steepest s m args below meth c 0 0 Q 3 D A (mo_W h cI cJ row att fnd tape tmany sort begs tends word valu good bits size shts lent imag befo kept) [(0, .ref (h 0)), (2, .int x2)] 48 [.int s0] := by
    intro kk hkk fnd x2 s0 hf
    unfold f_X10_steepest_b48 at hf
    refine sw_istore_n (pc' := 49) (i := 1) (lv' := [(1, .int s0), (0, .ref (h 0)), (2, .int x2)]) cx dX10_steepest_48 rfl (Nat.le_of_ble_eq_true rfl) rfl rfl ?_
    exact sw_lv [1, 0, 2] rfl (B49 kk hkk fnd s0 x2 hf)
  have B43 : ∀ (kk : (Nat → Int32) → Int32 → Int32 → Option (Int32 × (Nat → Int32))), (∀ (fnd : Nat → Int32) (x1 : Int32) (x2 : Int32), kk fnd x1 x2 = some res → sf_W p l e rm_X10_steepest s m args below meth c 0 0 Q 3 D A (mo_W h cI cJ row att fnd tape tmany sort begs tends word valu good bits size shts lent imag befo kept) [(0, .ref (h 0)), (1, .int x1), (2, .int x2)] 4 []) → ∀ (fnd : Nat → Int32) (x2 : Int32), f_X10_steepest_b43 row att kk fnd x2 = some res → sf_W p l e rm_X10_steepest s m args below meth c 0 0 Q 3 D A (mo_W h cI cJ row att fnd tape tmany sort begs tends word valu good bits size shts lent imag befo kept) [(0, .ref (h 0)), (2, .int x2)] 43 [] := by
    intro kk hkk fnd x2 hf
    unfold f_X10_steepest_b43 at hf
    refine sw_iload_n (pc' := 44) (i := 2) cx dX10_steepest_43 rfl 1 rfl rfl ?_
    refine sw_goto (tgt := 48) cx dX10_steepest_44 (by decide) ?_
    exact sw_lv [0, 1] rfl (B48 kk hkk fnd x2 x2 hf)
  have B37 : ∀ (kk : (Nat → Int32) → Int32 → Int32 → Option (Int32 × (Nat → Int32))), (∀ (fnd : Nat → Int32) (x1 : Int32) (x2 : Int32), kk fnd x1 x2 = some res → sf_W p l e rm_X10_steepest s m args below meth c 0 0 Q 3 D A (mo_W h cI cJ row att fnd tape tmany sort begs tends word valu good bits size shts lent imag befo kept) [(0, .ref (h 0)), (1, .int x1), (2, .int x2)] 4 []) → ∀ (fnd : Nat → Int32) (x1 : Int32) (x2 : Int32) (s0 : Int32) (s2 : Int32), f_X10_steepest_b37 row att kk fnd x1 x2 s0 s2 = some res → sf_W p l e rm_X10_steepest s m args below meth c 0 0 Q 3 D A (mo_W h cI cJ row att fnd tape tmany sort begs tends word valu good bits size shts lent imag befo kept) [(0, .ref (h 0)), (1, .int x1), (2, .int x2)] 37 [.int s0, .ref (h 0), .int s2] := by
    intro kk hkk fnd x1 x2 s0 s2 hf
    unfold f_X10_steepest_b37 at hf
    obtain ⟨r9, hr9, hf⟩ := bd_s hf
    refine sw_callVw (pc' := 40) (As := [.int s0]) (rest := [.int s2]) (w' := (mo_W h cI cJ row att fnd tape tmany sort begs tends word valu good bits size shts lent imag befo kept)) cx (k_X10_rises l D h cI cJ cK cS row att fnd tape tmany sort begs tends word valu good bits size shts lent imag befo kept s0 r9 hr9) pk_yX10_rises ml_RX10_113 ⟨rfl, rfl⟩ ⟨(Nat.le_of_ble_eq_true rfl), (Nat.le_of_ble_eq_true rfl)⟩ ⟨(Nat.le_of_ble_eq_true rfl), (Nat.le_of_ble_eq_true rfl)⟩ 0 rfl rfl rfl rfl (Nat.le_of_ble_eq_true rfl) rfl dX10_steepest_37 rfl ?_
    refine sw_icmp_le (pc' := 43) (tgt := 47) cx dX10_steepest_40 (by decide) rfl (fun c10 => ?_) (fun c10 => ?_)
    · replace hf := it_p c10 hf
      refine sw_iload_n (pc' := 48) (i := 1) cx dX10_steepest_47 rfl 1 rfl rfl ?_
      exact sw_lv [0, 2] rfl (B48 kk hkk fnd x2 x1 hf)
    · replace hf := it_n c10 hf
      exact sw_lv [0, 2] rfl (B43 kk hkk fnd x2 hf)
  have B4 : ∀ (n : Nat), ∀ (fnd : Nat → Int32) (x1 : Int32) (x2 : Int32), f_X10_steepest_b4 row att n fnd x1 x2 = some res → sf_W p l e rm_X10_steepest s m args below meth c 0 0 Q 3 D A (mo_W h cI cJ row att fnd tape tmany sort begs tends word valu good bits size shts lent imag befo kept) [(0, .ref (h 0)), (1, .int x1), (2, .int x2)] 4 [] := by
    intro n
    induction n with
    | zero => intro fnd x1 x2 hf; rw [f_X10_steepest_b4] at hf; cases hf
    | succ n ih =>
      intro fnd x1 x2 hf
      rw [f_X10_steepest_b4] at hf
      refine sw_iload_n (pc' := 5) (i := 2) cx dX10_steepest_4 rfl 2 rfl rfl ?_
      refine sw_bipush (pc' := 7) (v := 40) cx dX10_steepest_5 bipush_40 rfl ?_
      refine sw_icmp_ge (pc' := 10) (tgt := 55) cx dX10_steepest_7 (by decide) rfl (fun c1 => ?_) (fun c1 => ?_)
      · replace hf := it_p c1 hf
        refine sw_iload_n (pc' := 56) (i := 1) cx dX10_steepest_55 rfl 1 rfl rfl ?_
        refine sw_if_ge (pc' := 59) (tgt := 68) cx dX10_steepest_56 (by decide) rfl (fun c2 => ?_) (fun c2 => ?_)
        · replace hf := it_p c2 hf
          refine sw_iload_n (pc' := 69) (i := 1) cx dX10_steepest_68 rfl 1 rfl rfl ?_
          obtain rfl := Option.some.inj hf
          exact sw_iret cx hr hQ dX10_steepest_69
        · replace hf := it_n c2 hf
          refine sw_aload_n (pc' := 60) (i := 0) cx dX10_steepest_59 rfl 0 rfl rfl ?_
          refine sw_ldc (pc' := 62) cx ct_RX10_147 dX10_steepest_60 rfl ?_
          obtain ⟨r3, hr3, hf⟩ := bd_s hf
          refine sw_callVw (pc' := 65) (As := [.int (-1000000004 : Int32)]) (rest := []) (w' := (mo_W h cI cJ row att r3.2 tape tmany sort begs tends word valu good bits size shts lent imag befo kept)) cx (k_X10_finds l D h cI cJ cK cS row att fnd tape tmany sort begs tends word valu good bits size shts lent imag befo kept (-1000000004 : Int32) r3 hr3) pk_yX10_finds ml_RX10_63 ⟨rfl, rfl⟩ ⟨(Nat.le_of_ble_eq_true rfl), (Nat.le_of_ble_eq_true rfl)⟩ ⟨(Nat.le_of_ble_eq_true rfl), (Nat.le_of_ble_eq_true rfl)⟩ 0 rfl rfl rfl rfl (Nat.le_of_ble_eq_true rfl) rfl dX10_steepest_62 rfl ?_
          refine sw_goto (tgt := 69) cx dX10_steepest_65 (by decide) ?_
          obtain rfl := Option.some.inj hf
          exact sw_iret cx hr hQ dX10_steepest_69
      · replace hf := it_n c1 hf
        refine sw_aload_n (pc' := 11) (i := 0) cx dX10_steepest_10 rfl 0 rfl rfl ?_
        refine sw_iload_n (pc' := 12) (i := 2) cx dX10_steepest_11 rfl 2 rfl rfl ?_
        obtain ⟨r4, hr4, hf⟩ := bd_s hf
        refine sw_callVw (pc' := 15) (As := [.int x2]) (rest := []) (w' := (mo_W h cI cJ row att fnd tape tmany sort begs tends word valu good bits size shts lent imag befo kept)) cx (k_X10_areBoth l D h cI cJ cK cS row att fnd tape tmany sort begs tends word valu good bits size shts lent imag befo kept x2 r4 hr4) pk_yX10_areBoth ml_RX10_122 ⟨rfl, rfl⟩ ⟨(Nat.le_of_ble_eq_true rfl), (Nat.le_of_ble_eq_true rfl)⟩ ⟨(Nat.le_of_ble_eq_true rfl), (Nat.le_of_ble_eq_true rfl)⟩ 0 rfl rfl rfl rfl (Nat.le_of_ble_eq_true rfl) rfl dX10_steepest_12 rfl ?_
        refine sw_if_eq (pc' := 18) (tgt := 49) cx dX10_steepest_15 (by decide) rfl (fun c5 => ?_) (fun c5 => ?_)
        · replace hf := it_p c5 hf
          exact sw_lv [0, 1, 2] rfl (B49 _ ih fnd x1 x2 hf)
        · replace hf := it_n c5 hf
          refine sw_iload_n (pc' := 19) (i := 1) cx dX10_steepest_18 rfl 1 rfl rfl ?_
          refine sw_if_lt (pc' := 22) (tgt := 43) cx dX10_steepest_19 (by decide) rfl (fun c6 => ?_) (fun c6 => ?_)
          · replace hf := it_p c6 hf
            exact sw_lv [0, 2] rfl (B43 _ ih fnd x2 hf)
          · replace hf := it_n c6 hf
            refine sw_aload_n (pc' := 23) (i := 0) cx dX10_steepest_22 rfl 0 rfl rfl ?_
            refine sw_iload_n (pc' := 24) (i := 2) cx dX10_steepest_23 rfl 2 rfl rfl ?_
            obtain ⟨r7, hr7, hf⟩ := bd_s hf
            refine sw_callVw (pc' := 27) (As := [.int x2]) (rest := []) (w' := (mo_W h cI cJ row att fnd tape tmany sort begs tends word valu good bits size shts lent imag befo kept)) cx (k_X10_rises l D h cI cJ cK cS row att fnd tape tmany sort begs tends word valu good bits size shts lent imag befo kept x2 r7 hr7) pk_yX10_rises ml_RX10_113 ⟨rfl, rfl⟩ ⟨(Nat.le_of_ble_eq_true rfl), (Nat.le_of_ble_eq_true rfl)⟩ ⟨(Nat.le_of_ble_eq_true rfl), (Nat.le_of_ble_eq_true rfl)⟩ 0 rfl rfl rfl rfl (Nat.le_of_ble_eq_true rfl) rfl dX10_steepest_24 rfl ?_
            refine sw_aload_n (pc' := 28) (i := 0) cx dX10_steepest_27 rfl 0 rfl rfl ?_
            refine sw_iload_n (pc' := 29) (i := 1) cx dX10_steepest_28 rfl 1 rfl rfl ?_
            refine sw_if_ge (pc' := 32) (tgt := 36) cx dX10_steepest_29 (by decide) rfl (fun c8 => ?_) (fun c8 => ?_)
            · replace hf := it_p c8 hf
              refine sw_iload_n (pc' := 37) (i := 1) cx dX10_steepest_36 rfl 1 rfl rfl ?_
              exact sw_lv [0, 1, 2] rfl (B37 _ ih fnd x1 x2 x1 r7 hf)
            · replace hf := it_n c8 hf
              refine sw_iconst (pc' := 33) (v := 1) cx dX10_steepest_32 iconst_1 rfl ?_
              refine sw_goto (tgt := 37) cx dX10_steepest_33 (by decide) ?_
              exact sw_lv [0, 1, 2] rfl (B37 _ ih fnd x1 x2 (1 : Int32) r7 hf)
  unfold f_X10_steepest at hf
  refine sw_iconst (pc' := 1) (v := -1) cx dX10_steepest_0 iconst_m1 rfl ?_
  refine sw_istore_n (pc' := 2) (i := 1) (lv' := [(1, .int (-1 : Int32)), (0, .ref (h 0))]) cx dX10_steepest_1 rfl (Nat.le_of_ble_eq_true rfl) rfl rfl ?_
  refine sw_iconst (pc' := 3) (v := 1) cx dX10_steepest_2 iconst_1 rfl ?_
  refine sw_istore_n (pc' := 4) (i := 2) (lv' := [(2, .int (1 : Int32)), (1, .int (-1 : Int32)), (0, .ref (h 0))]) cx dX10_steepest_3 rfl (Nat.le_of_ble_eq_true rfl) rfl rfl ?_
  exact sw_lv [2, 1, 0] rfl (B4 1000 fnd (-1 : Int32) (1 : Int32) hf)
