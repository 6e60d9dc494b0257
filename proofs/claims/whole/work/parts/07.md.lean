abbrev rm_X10_sheet : Room := ({ frames := 2, cells := 0, slots := 0, locals := 42 } : Room)
set_option maxRecDepth 100000 in
set_option maxHeartbeats 4000000 in
theorem k_X10_sheet (l : Launch) (D : sf_D) (h : Nat → Nat) (cI cJ cK cS : ClassId) (row : Nat → Int32) (att : Int32) (fnd : Nat → Int32) (tape : Nat → Int32) (tmany : Int32) (sort : Int32) (begs : Int32) (tends : Int32) (word : Int64) (valu : Int32) (good : Int32) (bits : Nat → Int32) (size : Nat → Int32) (shts : Nat → Int64) (lent : Nat → Int64) (imag : Nat → Int32) (befo : Nat → Int32) (kept : Int32) (a0 : Int32) (a1 : Int32) (a2 : Int32) (res : Int32 × (Nat → Int32) × (Nat → Int32) × (Nat → Int32) × (Nat → Int64)) (hf : f_X10_sheet fnd bits size shts a0 a1 a2 = some res) : sf_Ct l yX10_sheet cX10_sheet 5 (some .int) rm_X10_sheet D (sf_ty cI cJ cK cS) [.ref (h 0), .int a0, .int a1, .int a2] (mo_W h cI cJ row att fnd tape tmany sort begs tends word valu good bits size shts lent imag befo kept) (some (.int res.1)) (mo_W h cI cJ row att res.2.1 tape tmany sort begs tends word valu good res.2.2.1 res.2.2.2.1 res.2.2.2.2 lent imag befo kept) := by
  refine sf_met (lv := [(0, .ref (h 0)), (1, .int a0), (2, .int a1), (3, .int a2)]) (by decide) (Nat.le_of_ble_eq_true rfl) rfl ?_
  intro p e s m args below meth c A Q cx hr hQ
  have cx : sf_Cx p m meth c cX10_sheet 5 s args RX10 D (sf_ty cI cJ cK cS) A := cx
  have B29 : ∀ (fnd : Nat → Int32) (bits : Nat → Int32) (size : Nat → Int32) (shts : Nat → Int64), f_X10_sheet_b29 fnd bits size shts = some res → sf_W p l e rm_X10_sheet s m args below meth c 0 0 Q 5 D A (mo_W h cI cJ row att fnd tape tmany sort begs tends word valu good bits size shts lent imag befo kept) [(0, .ref (h 0))] 29 [] := by
    intro fnd bits size shts hf
    unfold f_X10_sheet_b29 at hf
    refine sw_aload_n (pc' := 30) (i := 0) cx dX10_sheet_29 rfl 0 rfl rfl ?_
    refine sw_ldc (pc' := 32) cx ct_RX10_38 dX10_sheet_30 rfl ?_
    obtain ⟨r7, hr7, hf⟩ := bd_s hf
    refine sw_callVw (pc' := 35) (As := [.int (-1000000001 : Int32)]) (rest := []) (w' := (mo_W h cI cJ row att r7.2 tape tmany sort begs tends word valu good bits size shts lent imag befo kept)) cx (k_X10_finds l D h cI cJ cK cS row att fnd tape tmany sort begs tends word valu good bits size shts lent imag befo kept (-1000000001 : Int32) r7 hr7) pk_yX10_finds ml_RX10_63 ⟨rfl, rfl⟩ ⟨(Nat.le_of_ble_eq_true rfl), (Nat.le_of_ble_eq_true rfl)⟩ ⟨(Nat.le_of_ble_eq_true rfl), (Nat.le_of_ble_eq_true rfl)⟩ 0 rfl rfl rfl rfl (Nat.le_of_ble_eq_true rfl) rfl dX10_sheet_32 rfl ?_
    obtain rfl := Option.some.inj hf
    exact sw_iret cx hr hQ dX10_sheet_35
  have B86 : ∀ (n : Nat), ∀ (fnd : Nat → Int32) (bits : Nat → Int32) (size : Nat → Int32) (shts : Nat → Int64) (x1 : Int32) (x4 : Int32), f_X10_sheet_b86 n fnd bits size shts x1 x4 = some res → sf_W p l e rm_X10_sheet s m args below meth c 0 0 Q 5 D A (mo_W h cI cJ row att fnd tape tmany sort begs tends word valu good bits size shts lent imag befo kept) [(0, .ref (h 0)), (1, .int x1), (4, .int x4)] 86 [] := by
    intro n
    induction n with
    | zero => intro fnd bits size shts x1 x4 hf; rw [f_X10_sheet_b86] at hf; cases hf
    | succ n ih =>
      intro fnd bits size shts x1 x4 hf
      rw [f_X10_sheet_b86] at hf
      refine sw_iload (pc' := 88) (i := 4) cx dX10_sheet_86 2 rfl rfl ?_
      refine sw_bipush (pc' := 90) (v := 40) cx dX10_sheet_88 bipush_40 rfl ?_
      refine sw_icmp_ge (pc' := 93) (tgt := 112) cx dX10_sheet_90 (by decide) rfl (fun c15 => ?_) (fun c15 => ?_)
      · replace hf := it_p c15 hf
        refine sw_aload_n (pc' := 113) (i := 0) cx dX10_sheet_112 rfl 0 rfl rfl ?_
        refine sw_get (pc' := 116) cx in_X10 0 rfl rfl 12 (Nat.le_of_ble_eq_true rfl) fl_RX10_22 rfl dX10_sheet_113 rfl ?_
        refine sw_iload_n (pc' := 117) (i := 1) cx dX10_sheet_116 rfl 1 rfl rfl ?_
        obtain ⟨h16, hf⟩ := gx_s hf
        refine sw_iald (pc' := 118) cx 5 0 rfl rfl h16 dX10_sheet_117 rfl ?_
        obtain rfl := Option.some.inj hf
        exact sw_iret cx hr hQ dX10_sheet_118
      · replace hf := it_n c15 hf
        refine sw_aload_n (pc' := 94) (i := 0) cx dX10_sheet_93 rfl 0 rfl rfl ?_
        refine sw_get (pc' := 97) cx in_X10 0 rfl rfl 13 (Nat.le_of_ble_eq_true rfl) fl_RX10_25 rfl dX10_sheet_94 rfl ?_
        refine sw_bipush (pc' := 99) (v := 40) cx dX10_sheet_97 bipush_40 rfl ?_
        refine sw_iload_n (pc' := 100) (i := 1) cx dX10_sheet_99 rfl 1 rfl rfl ?_
        refine sw_imul (pc' := 101) cx dX10_sheet_100 rfl ?_
        refine sw_iload (pc' := 103) (i := 4) cx dX10_sheet_101 2 rfl rfl ?_
        refine sw_iadd (pc' := 104) cx dX10_sheet_103 rfl ?_
        refine sw_lconst (pc' := 105) (v := 0) cx dX10_sheet_104 rfl rfl ?_
        obtain ⟨h17, hf⟩ := gx_s hf
        refine sw_last (pc' := 106) (ws' := (mo_W h cI cJ row att fnd tape tmany sort begs tends word valu good bits size (vp_updL shts ((((40 : Int32) * x1) + x4)).toNatClampNeg (0 : Int64)) lent imag befo kept)) cx 6 1 rfl rfl h17 dX10_sheet_105 rfl rfl ?_
        refine sw_iinc (pc' := 109) (v := (x4 + (1 : Int32))) (lv' := [(4, .int (x4 + (1 : Int32))), (0, .ref (h 0)), (1, .int x1)]) cx dX10_sheet_106 2 rfl rfl (Nat.le_of_ble_eq_true rfl) rfl rfl ?_
        refine sw_goto (tgt := 86) cx dX10_sheet_109 (by decide) ?_
        exact sw_lv [1, 2, 0] rfl (ih fnd bits size (vp_updL shts ((((40 : Int32) * x1) + x4)).toNatClampNeg (0 : Int64)) x1 (x4 + (1 : Int32)) hf)
  have B82 : ∀ (fnd : Nat → Int32) (bits : Nat → Int32) (size : Nat → Int32) (shts : Nat → Int64) (x1 : Int32) (s0 : Int32) (s1 : Int32), f_X10_sheet_b82 fnd bits size shts x1 s0 s1 = some res → sf_W p l e rm_X10_sheet s m args below meth c 0 0 Q 5 D A (mo_W h cI cJ row att fnd tape tmany sort begs tends word valu good bits size shts lent imag befo kept) [(0, .ref (h 0)), (1, .int x1)] 82 [.int s0, .int s1, .ref (h 5)] := by
    intro fnd bits size shts x1 s0 s1 hf
    unfold f_X10_sheet_b82 at hf
    obtain ⟨h14, hf⟩ := gx_s hf
    refine sw_iast (pc' := 83) (ws' := (mo_W h cI cJ row att fnd tape tmany sort begs tends word valu good bits (upd size (s1).toNatClampNeg s0) shts lent imag befo kept)) cx 5 0 rfl rfl h14 dX10_sheet_82 rfl rfl ?_
    refine sw_iconst (pc' := 84) (v := 0) cx dX10_sheet_83 iconst_0 rfl ?_
    refine sw_istore (pc' := 86) (i := 4) (lv' := [(4, .int (0 : Int32)), (0, .ref (h 0)), (1, .int x1)]) cx dX10_sheet_84 (Nat.le_of_ble_eq_true rfl) rfl rfl ?_
    exact sw_lv [1, 2, 0] rfl (B86 1000 fnd bits (upd size (s1).toNatClampNeg s0) shts x1 (0 : Int32) hf)
  have B36 : ∀ (fnd : Nat → Int32) (bits : Nat → Int32) (size : Nat → Int32) (shts : Nat → Int64) (x1 : Int32) (x2 : Int32) (x3 : Int32), f_X10_sheet_b36 fnd bits size shts x1 x2 x3 = some res → sf_W p l e rm_X10_sheet s m args below meth c 0 0 Q 5 D A (mo_W h cI cJ row att fnd tape tmany sort begs tends word valu good bits size shts lent imag befo kept) [(0, .ref (h 0)), (1, .int x1), (2, .int x2), (3, .int x3)] 36 [] := by
    intro fnd bits size shts x1 x2 x3 hf
    unfold f_X10_sheet_b36 at hf
    refine sw_iload_n (pc' := 37) (i := 3) cx dX10_sheet_36 rfl 3 rfl rfl ?_
    refine sw_if_ge (pc' := 40) (tgt := 48) cx dX10_sheet_37 (by decide) rfl (fun c8 => ?_) (fun c8 => ?_)
    · replace hf := it_p c8 hf
      refine sw_iload_n (pc' := 49) (i := 3) cx dX10_sheet_48 rfl 3 rfl rfl ?_
      refine sw_bipush (pc' := 51) (v := 40) cx dX10_sheet_49 bipush_40 rfl ?_
      refine sw_icmp_le (pc' := 54) (tgt := 61) cx dX10_sheet_51 (by decide) rfl (fun c9 => ?_) (fun c9 => ?_)
      · replace hf := it_p c9 hf
        refine sw_aload_n (pc' := 62) (i := 0) cx dX10_sheet_61 rfl 0 rfl rfl ?_
        refine sw_get (pc' := 65) cx in_X10 0 rfl rfl 11 (Nat.le_of_ble_eq_true rfl) fl_RX10_19 rfl dX10_sheet_62 rfl ?_
        refine sw_iload_n (pc' := 66) (i := 1) cx dX10_sheet_65 rfl 1 rfl rfl ?_
        refine sw_iload_n (pc' := 67) (i := 2) cx dX10_sheet_66 rfl 2 rfl rfl ?_
        obtain ⟨h10, hf⟩ := gx_s hf
        refine sw_iast (pc' := 68) (ws' := (mo_W h cI cJ row att fnd tape tmany sort begs tends word valu good (upd bits (x1).toNatClampNeg x2) size shts lent imag befo kept)) cx 4 0 rfl rfl h10 dX10_sheet_67 rfl rfl ?_
        refine sw_aload_n (pc' := 69) (i := 0) cx dX10_sheet_68 rfl 0 rfl rfl ?_
        refine sw_get (pc' := 72) cx in_X10 0 rfl rfl 12 (Nat.le_of_ble_eq_true rfl) fl_RX10_22 rfl dX10_sheet_69 rfl ?_
        refine sw_iload_n (pc' := 73) (i := 1) cx dX10_sheet_72 rfl 1 rfl rfl ?_
        refine sw_iload_n (pc' := 74) (i := 2) cx dX10_sheet_73 rfl 2 rfl rfl ?_
        refine sw_if_ne (pc' := 77) (tgt := 81) cx dX10_sheet_74 (by decide) rfl (fun c11 => ?_) (fun c11 => ?_)
        · replace hf := it_n c11 hf
          refine sw_iload_n (pc' := 82) (i := 3) cx dX10_sheet_81 rfl 3 rfl rfl ?_
          exact sw_lv [0, 1] rfl (B82 fnd (upd bits (x1).toNatClampNeg x2) size shts x1 x3 x1 hf)
        · replace hf := it_p c11 hf
          refine sw_iconst (pc' := 78) (v := 0) cx dX10_sheet_77 iconst_0 rfl ?_
          refine sw_goto (tgt := 82) cx dX10_sheet_78 (by decide) ?_
          exact sw_lv [0, 1] rfl (B82 fnd (upd bits (x1).toNatClampNeg x2) size shts x1 (0 : Int32) x1 hf)
      · replace hf := it_n c9 hf
        refine sw_aload_n (pc' := 55) (i := 0) cx dX10_sheet_54 rfl 0 rfl rfl ?_
        refine sw_ldc (pc' := 57) cx ct_RX10_38 dX10_sheet_55 rfl ?_
        obtain ⟨r12, hr12, hf⟩ := bd_s hf
        refine sw_callVw (pc' := 60) (As := [.int (-1000000001 : Int32)]) (rest := []) (w' := (mo_W h cI cJ row att r12.2 tape tmany sort begs tends word valu good bits size shts lent imag befo kept)) cx (k_X10_finds l D h cI cJ cK cS row att fnd tape tmany sort begs tends word valu good bits size shts lent imag befo kept (-1000000001 : Int32) r12 hr12) pk_yX10_finds ml_RX10_63 ⟨rfl, rfl⟩ ⟨(Nat.le_of_ble_eq_true rfl), (Nat.le_of_ble_eq_true rfl)⟩ ⟨(Nat.le_of_ble_eq_true rfl), (Nat.le_of_ble_eq_true rfl)⟩ 0 rfl rfl rfl rfl (Nat.le_of_ble_eq_true rfl) rfl dX10_sheet_57 rfl ?_
        obtain rfl := Option.some.inj hf
        exact sw_iret cx hr hQ dX10_sheet_60
    · replace hf := it_n c8 hf
      refine sw_aload_n (pc' := 41) (i := 0) cx dX10_sheet_40 rfl 0 rfl rfl ?_
      refine sw_ldc_w (pc' := 44) cx ct_RX10_259 dX10_sheet_41 rfl ?_
      obtain ⟨r13, hr13, hf⟩ := bd_s hf
      refine sw_callVw (pc' := 47) (As := [.int (-1000000007 : Int32)]) (rest := []) (w' := (mo_W h cI cJ row att r13.2 tape tmany sort begs tends word valu good bits size shts lent imag befo kept)) cx (k_X10_finds l D h cI cJ cK cS row att fnd tape tmany sort begs tends word valu good bits size shts lent imag befo kept (-1000000007 : Int32) r13 hr13) pk_yX10_finds ml_RX10_63 ⟨rfl, rfl⟩ ⟨(Nat.le_of_ble_eq_true rfl), (Nat.le_of_ble_eq_true rfl)⟩ ⟨(Nat.le_of_ble_eq_true rfl), (Nat.le_of_ble_eq_true rfl)⟩ 0 rfl rfl rfl rfl (Nat.le_of_ble_eq_true rfl) rfl dX10_sheet_44 rfl ?_
      obtain rfl := Option.some.inj hf
      exact sw_iret cx hr hQ dX10_sheet_47
  unfold f_X10_sheet at hf
  refine sw_iload_n (pc' := 1) (i := 1) cx dX10_sheet_0 rfl 1 rfl rfl ?_
  obtain ⟨r1, hr1, hf⟩ := bd_s hf
  refine sw_callS (pc' := 4) (As := [.int a0]) (rest := []) cx (k_X10_isSheet l D h cI cJ cK cS a0 r1 hr1) pk_yX10_isSheet ml_RX10_256 ⟨rfl, rfl⟩ ⟨(Nat.le_of_ble_eq_true rfl), (Nat.le_of_ble_eq_true rfl)⟩ ⟨(Nat.le_of_ble_eq_true rfl), (Nat.le_of_ble_eq_true rfl)⟩ [] rfl rfl rfl (wn := (mo_W h cI cJ row att fnd tape tmany sort begs tends word valu good bits size shts lent imag befo kept)) rfl rfl (Nat.le_of_ble_eq_true rfl) rfl dX10_sheet_1 rfl ?_
  refine sw_if_eq (pc' := 7) (tgt := 29) cx dX10_sheet_4 (by decide) rfl (fun c2 => ?_) (fun c2 => ?_)
  · replace hf := it_p c2 hf
    exact sw_lv [0] rfl (B29 fnd bits size shts hf)
  · replace hf := it_n c2 hf
    refine sw_iload_n (pc' := 8) (i := 2) cx dX10_sheet_7 rfl 2 rfl rfl ?_
    refine sw_if_eq (pc' := 11) (tgt := 36) cx dX10_sheet_8 (by decide) rfl (fun c3 => ?_) (fun c3 => ?_)
    · replace hf := it_p c3 hf
      exact sw_lv [0, 1, 2, 3] rfl (B36 fnd bits size shts a0 a1 a2 hf)
    · replace hf := it_n c3 hf
      refine sw_iload_n (pc' := 12) (i := 2) cx dX10_sheet_11 rfl 2 rfl rfl ?_
      refine sw_bipush (pc' := 14) (v := 8) cx dX10_sheet_12 bipush_8 rfl ?_
      refine sw_icmp_eq (pc' := 17) (tgt := 36) cx dX10_sheet_14 (by decide) rfl (fun c4 => ?_) (fun c4 => ?_)
      · replace hf := it_p c4 hf
        exact sw_lv [0, 1, 2, 3] rfl (B36 fnd bits size shts a0 a1 a2 hf)
      · replace hf := it_n c4 hf
        refine sw_iload_n (pc' := 18) (i := 2) cx dX10_sheet_17 rfl 2 rfl rfl ?_
        refine sw_bipush (pc' := 20) (v := 16) cx dX10_sheet_18 bipush_16 rfl ?_
        refine sw_icmp_eq (pc' := 23) (tgt := 36) cx dX10_sheet_20 (by decide) rfl (fun c5 => ?_) (fun c5 => ?_)
        · replace hf := it_p c5 hf
          exact sw_lv [0, 1, 2, 3] rfl (B36 fnd bits size shts a0 a1 a2 hf)
        · replace hf := it_n c5 hf
          refine sw_iload_n (pc' := 24) (i := 2) cx dX10_sheet_23 rfl 2 rfl rfl ?_
          refine sw_bipush (pc' := 26) (v := 64) cx dX10_sheet_24 bipush_64 rfl ?_
          refine sw_icmp_eq (pc' := 29) (tgt := 36) cx dX10_sheet_26 (by decide) rfl (fun c6 => ?_) (fun c6 => ?_)
          · replace hf := it_p c6 hf
            exact sw_lv [0, 1, 2, 3] rfl (B36 fnd bits size shts a0 a1 a2 hf)
          · replace hf := it_n c6 hf
            exact sw_lv [0] rfl (B29 fnd bits size shts hf)
abbrev rm_X10_write : Room := ({ frames := 2, cells := 0, slots := 0, locals := 42 } : Room)
set_option maxRecDepth 100000 in
set_option maxHeartbeats 4000000 in
theorem k_X10_write (l : Launch) (D : sf_D) (h : Nat → Nat) (cI cJ cK cS : ClassId) (row : Nat → Int32) (att : Int32) (fnd : Nat → Int32) (tape : Nat → Int32) (tmany : Int32) (sort : Int32) (begs : Int32) (tends : Int32) (word : Int64) (valu : Int32) (good : Int32) (bits : Nat → Int32) (size : Nat → Int32) (shts : Nat → Int64) (lent : Nat → Int64) (imag : Nat → Int32) (befo : Nat → Int32) (kept : Int32) (a0 : Int32) (a1 : Int32) (a2 : Int64) (res : Int64 × (Nat → Int32) × (Nat → Int64)) (hf : f_X10_write fnd bits size shts a0 a1 a2 = some res) : sf_Ct l yX10_write cX10_write 7 (some .long) rm_X10_write D (sf_ty cI cJ cK cS) [.ref (h 0), .int a0, .int a1, .long a2] (mo_W h cI cJ row att fnd tape tmany sort begs tends word valu good bits size shts lent imag befo kept) (some (.long res.1)) (mo_W h cI cJ row att res.2.1 tape tmany sort begs tends word valu good bits size res.2.2 lent imag befo kept) := by
  refine sf_met (lv := [(0, .ref (h 0)), (1, .int a0), (2, .int a1), (3, .long a2)]) (by decide) (Nat.le_of_ble_eq_true rfl) rfl ?_
  intro p e s m args below meth c A Q cx hr hQ
  have cx : sf_Cx p m meth c cX10_write 7 s args RX10 D (sf_ty cI cJ cK cS) A := cx
  unfold f_X10_write at hf
  refine sw_iload_n (pc' := 1) (i := 1) cx dX10_write_0 rfl 1 rfl rfl ?_
  obtain ⟨r1, hr1, hf⟩ := bd_s hf
  refine sw_callS (pc' := 4) (As := [.int a0]) (rest := []) cx (k_X10_isSheet l D h cI cJ cK cS a0 r1 hr1) pk_yX10_isSheet ml_RX10_256 ⟨rfl, rfl⟩ ⟨(Nat.le_of_ble_eq_true rfl), (Nat.le_of_ble_eq_true rfl)⟩ ⟨(Nat.le_of_ble_eq_true rfl), (Nat.le_of_ble_eq_true rfl)⟩ [] rfl rfl rfl (wn := (mo_W h cI cJ row att fnd tape tmany sort begs tends word valu good bits size shts lent imag befo kept)) rfl rfl (Nat.le_of_ble_eq_true rfl) rfl dX10_write_1 rfl ?_
  refine sw_if_ne (pc' := 7) (tgt := 15) cx dX10_write_4 (by decide) rfl (fun c2 => ?_) (fun c2 => ?_)
  · replace hf := it_n c2 hf
    refine sw_aload_n (pc' := 16) (i := 0) cx dX10_write_15 rfl 0 rfl rfl ?_
    refine sw_get (pc' := 19) cx in_X10 0 rfl rfl 11 (Nat.le_of_ble_eq_true rfl) fl_RX10_19 rfl dX10_write_16 rfl ?_
    refine sw_iload_n (pc' := 20) (i := 1) cx dX10_write_19 rfl 1 rfl rfl ?_
    obtain ⟨h3, hf⟩ := gx_s hf
    refine sw_iald (pc' := 21) cx 4 0 rfl rfl h3 dX10_write_20 rfl ?_
    refine sw_if_ne (pc' := 24) (tgt := 33) cx dX10_write_21 (by decide) rfl (fun c4 => ?_) (fun c4 => ?_)
    · replace hf := it_n c4 hf
      refine sw_iload_n (pc' := 34) (i := 2) cx dX10_write_33 rfl 2 rfl rfl ?_
      refine sw_iconst (pc' := 35) (v := 0) cx dX10_write_34 iconst_0 rfl ?_
      refine sw_aload_n (pc' := 36) (i := 0) cx dX10_write_35 rfl 0 rfl rfl ?_
      refine sw_get (pc' := 39) cx in_X10 0 rfl rfl 12 (Nat.le_of_ble_eq_true rfl) fl_RX10_22 rfl dX10_write_36 rfl ?_
      refine sw_iload_n (pc' := 40) (i := 1) cx dX10_write_39 rfl 1 rfl rfl ?_
      obtain ⟨h5, hf⟩ := gx_s hf
      refine sw_iald (pc' := 41) cx 5 0 rfl rfl h5 dX10_write_40 rfl ?_
      refine sw_iconst (pc' := 42) (v := 1) cx dX10_write_41 iconst_1 rfl ?_
      refine sw_isub (pc' := 43) cx dX10_write_42 rfl ?_
      obtain ⟨r6, hr6, hf⟩ := bd_s hf
      refine sw_callS (pc' := 46) (As := [.int a1, .int (0 : Int32), .int ((size (a0).toNatClampNeg) - (1 : Int32))]) (rest := []) cx (k_X10_in l D h cI cJ cK cS a1 (0 : Int32) ((size (a0).toNatClampNeg) - (1 : Int32)) r6 hr6) pk_yX10_in ml_RX10_47 ⟨rfl, rfl⟩ ⟨(Nat.le_of_ble_eq_true rfl), (Nat.le_of_ble_eq_true rfl)⟩ ⟨(Nat.le_of_ble_eq_true rfl), (Nat.le_of_ble_eq_true rfl)⟩ [] rfl rfl rfl (wn := (mo_W h cI cJ row att fnd tape tmany sort begs tends word valu good bits size shts lent imag befo kept)) rfl rfl (Nat.le_of_ble_eq_true rfl) rfl dX10_write_43 rfl ?_
      refine sw_if_ne (pc' := 49) (tgt := 57) cx dX10_write_46 (by decide) rfl (fun c7 => ?_) (fun c7 => ?_)
      · replace hf := it_n c7 hf
        refine sw_aload_n (pc' := 58) (i := 0) cx dX10_write_57 rfl 0 rfl rfl ?_
        refine sw_get (pc' := 61) cx in_X10 0 rfl rfl 13 (Nat.le_of_ble_eq_true rfl) fl_RX10_25 rfl dX10_write_58 rfl ?_
        refine sw_bipush (pc' := 63) (v := 40) cx dX10_write_61 bipush_40 rfl ?_
        refine sw_iload_n (pc' := 64) (i := 1) cx dX10_write_63 rfl 1 rfl rfl ?_
        refine sw_imul (pc' := 65) cx dX10_write_64 rfl ?_
        refine sw_iload_n (pc' := 66) (i := 2) cx dX10_write_65 rfl 2 rfl rfl ?_
        refine sw_iadd (pc' := 67) cx dX10_write_66 rfl ?_
        obtain ⟨h8, hf⟩ := gx_s hf
        refine sw_lald (pc' := 68) cx 6 1 rfl rfl h8 dX10_write_67 rfl ?_
        refine sw_lstore (pc' := 70) (i := 5) (lv' := [(5, .long (shts ((((40 : Int32) * a0) + a1)).toNatClampNeg)), (0, .ref (h 0)), (1, .int a0), (2, .int a1), (3, .long a2)]) cx dX10_write_68 (Nat.le_of_ble_eq_true rfl) rfl rfl ?_
        refine sw_aload_n (pc' := 71) (i := 0) cx dX10_write_70 rfl 1 rfl rfl ?_
        refine sw_get (pc' := 74) cx in_X10 0 rfl rfl 13 (Nat.le_of_ble_eq_true rfl) fl_RX10_25 rfl dX10_write_71 rfl ?_
        refine sw_bipush (pc' := 76) (v := 40) cx dX10_write_74 bipush_40 rfl ?_
        refine sw_iload_n (pc' := 77) (i := 1) cx dX10_write_76 rfl 2 rfl rfl ?_
        refine sw_imul (pc' := 78) cx dX10_write_77 rfl ?_
        refine sw_iload_n (pc' := 79) (i := 2) cx dX10_write_78 rfl 3 rfl rfl ?_
        refine sw_iadd (pc' := 80) cx dX10_write_79 rfl ?_
        refine sw_aload_n (pc' := 81) (i := 0) cx dX10_write_80 rfl 1 rfl rfl ?_
        refine sw_get (pc' := 84) cx in_X10 0 rfl rfl 11 (Nat.le_of_ble_eq_true rfl) fl_RX10_19 rfl dX10_write_81 rfl ?_
        refine sw_iload_n (pc' := 85) (i := 1) cx dX10_write_84 rfl 2 rfl rfl ?_
        obtain ⟨h9, hf⟩ := gx_s hf
        refine sw_iald (pc' := 86) cx 4 0 rfl rfl h9 dX10_write_85 rfl ?_
        refine sw_lload_n (pc' := 87) (i := 3) cx dX10_write_86 rfl 4 rfl rfl ?_
        obtain ⟨r10, hr10, hf⟩ := bd_s hf
        refine sw_callS (pc' := 90) (As := [.int (bits (a0).toNatClampNeg), .long a2]) (rest := [.int (((40 : Int32) * a0) + a1), .ref (h 6)]) cx (k_X10_narrow l D h cI cJ cK cS (bits (a0).toNatClampNeg) a2 r10 hr10) pk_yX10_narrow ml_RX10_261 ⟨rfl, rfl⟩ ⟨(Nat.le_of_ble_eq_true rfl), (Nat.le_of_ble_eq_true rfl)⟩ ⟨(Nat.le_of_ble_eq_true rfl), (Nat.le_of_ble_eq_true rfl)⟩ [] rfl rfl rfl (wn := (mo_W h cI cJ row att fnd tape tmany sort begs tends word valu good bits size shts lent imag befo kept)) rfl rfl (Nat.le_of_ble_eq_true rfl) rfl dX10_write_87 rfl ?_
        obtain ⟨h11, hf⟩ := gx_s hf
        refine sw_last (pc' := 91) (ws' := (mo_W h cI cJ row att fnd tape tmany sort begs tends word valu good bits size (vp_updL shts ((((40 : Int32) * a0) + a1)).toNatClampNeg r10) lent imag befo kept)) cx 6 1 rfl rfl h11 dX10_write_90 rfl rfl ?_
        refine sw_lload (pc' := 93) (i := 5) cx dX10_write_91 0 rfl rfl ?_
        obtain rfl := Option.some.inj hf
        exact sw_lret cx hr hQ dX10_write_93
      · replace hf := it_p c7 hf
        refine sw_aload_n (pc' := 50) (i := 0) cx dX10_write_49 rfl 0 rfl rfl ?_
        refine sw_ldc (pc' := 52) cx ct_RX10_38 dX10_write_50 rfl ?_
        obtain ⟨r12, hr12, hf⟩ := bd_s hf
        refine sw_callVw (pc' := 55) (As := [.int (-1000000001 : Int32)]) (rest := []) (w' := (mo_W h cI cJ row att r12.2 tape tmany sort begs tends word valu good bits size shts lent imag befo kept)) cx (k_X10_finds l D h cI cJ cK cS row att fnd tape tmany sort begs tends word valu good bits size shts lent imag befo kept (-1000000001 : Int32) r12 hr12) pk_yX10_finds ml_RX10_63 ⟨rfl, rfl⟩ ⟨(Nat.le_of_ble_eq_true rfl), (Nat.le_of_ble_eq_true rfl)⟩ ⟨(Nat.le_of_ble_eq_true rfl), (Nat.le_of_ble_eq_true rfl)⟩ 0 rfl rfl rfl rfl (Nat.le_of_ble_eq_true rfl) rfl dX10_write_52 rfl ?_
        refine sw_i2l (pc' := 56) cx dX10_write_55 rfl ?_
        obtain rfl := Option.some.inj hf
        exact sw_lret cx hr hQ dX10_write_56
    · replace hf := it_p c4 hf
      refine sw_aload_n (pc' := 25) (i := 0) cx dX10_write_24 rfl 0 rfl rfl ?_
      refine sw_ldc_w (pc' := 28) cx ct_RX10_260 dX10_write_25 rfl ?_
      obtain ⟨r13, hr13, hf⟩ := bd_s hf
      refine sw_callVw (pc' := 31) (As := [.int (-1000000006 : Int32)]) (rest := []) (w' := (mo_W h cI cJ row att r13.2 tape tmany sort begs tends word valu good bits size shts lent imag befo kept)) cx (k_X10_finds l D h cI cJ cK cS row att fnd tape tmany sort begs tends word valu good bits size shts lent imag befo kept (-1000000006 : Int32) r13 hr13) pk_yX10_finds ml_RX10_63 ⟨rfl, rfl⟩ ⟨(Nat.le_of_ble_eq_true rfl), (Nat.le_of_ble_eq_true rfl)⟩ ⟨(Nat.le_of_ble_eq_true rfl), (Nat.le_of_ble_eq_true rfl)⟩ 0 rfl rfl rfl rfl (Nat.le_of_ble_eq_true rfl) rfl dX10_write_28 rfl ?_
      refine sw_i2l (pc' := 32) cx dX10_write_31 rfl ?_
      obtain rfl := Option.some.inj hf
      exact sw_lret cx hr hQ dX10_write_32
  · replace hf := it_p c2 hf
    refine sw_aload_n (pc' := 8) (i := 0) cx dX10_write_7 rfl 0 rfl rfl ?_
    refine sw_ldc (pc' := 10) cx ct_RX10_38 dX10_write_8 rfl ?_
    obtain ⟨r14, hr14, hf⟩ := bd_s hf
    refine sw_callVw (pc' := 13) (As := [.int (-1000000001 : Int32)]) (rest := []) (w' := (mo_W h cI cJ row att r14.2 tape tmany sort begs tends word valu good bits size shts lent imag befo kept)) cx (k_X10_finds l D h cI cJ cK cS row att fnd tape tmany sort begs tends word valu good bits size shts lent imag befo kept (-1000000001 : Int32) r14 hr14) pk_yX10_finds ml_RX10_63 ⟨rfl, rfl⟩ ⟨(Nat.le_of_ble_eq_true rfl), (Nat.le_of_ble_eq_true rfl)⟩ ⟨(Nat.le_of_ble_eq_true rfl), (Nat.le_of_ble_eq_true rfl)⟩ 0 rfl rfl rfl rfl (Nat.le_of_ble_eq_true rfl) rfl dX10_write_10 rfl ?_
    refine sw_i2l (pc' := 14) cx dX10_write_13 rfl ?_
    obtain rfl := Option.some.inj hf
    exact sw_lret cx hr hQ dX10_write_14
abbrev rm_X10_isPart_ : Room := ({ frames := 0, cells := 0, slots := 0, locals := 0 } : Room)
set_option maxRecDepth 100000 in
set_option maxHeartbeats 4000000 in
theorem k_X10_isPart_ (l : Launch) (D : sf_D) (h : Nat → Nat) (cI cJ cK cS : ClassId) (row : Nat → Int32) (att : Int32) (fnd : Nat → Int32) (tape : Nat → Int32) (tmany : Int32) (sort : Int32) (begs : Int32) (tends : Int32) (word : Int64) (valu : Int32) (good : Int32) (bits : Nat → Int32) (size : Nat → Int32) (shts : Nat → Int64) (lent : Nat → Int64) (imag : Nat → Int32) (befo : Nat → Int32) (kept : Int32) (a0 : Int32) (a1 : Int32) (a2 : Int32) (res : Int32) (hf : f_X10_isPart_ size a0 a1 a2 = some res) : sf_Ct l yX10_isPart_ cX10_isPart_ 4 (some .boolean) rm_X10_isPart_ D (sf_ty cI cJ cK cS) [.ref (h 0), .int a0, .int a1, .int a2] (mo_W h cI cJ row att fnd tape tmany sort begs tends word valu good bits size shts lent imag befo kept) (some (.int res)) (mo_W h cI cJ row att fnd tape tmany sort begs tends word valu good bits size shts lent imag befo kept) := by
  refine sf_met (lv := [(0, .ref (h 0)), (1, .int a0), (2, .int a1), (3, .int a2)]) (by decide) (Nat.le_of_ble_eq_true rfl) rfl ?_
  intro p e s m args below meth c A Q cx hr hQ
  have cx : sf_Cx p m meth c cX10_isPart_ 4 s args RX10 D (sf_ty cI cJ cK cS) A := cx
  unfold f_X10_isPart_ at hf
  refine sw_iload_n (pc' := 1) (i := 2) cx dX10_isPart__0 rfl 2 rfl rfl ?_
  refine sw_if_lt (pc' := 4) (tgt := 34) cx dX10_isPart__1 (by decide) rfl (fun c1 => ?_) (fun c1 => ?_)
  · replace hf := it_p c1 hf
    refine sw_iconst (pc' := 35) (v := 0) cx dX10_isPart__34 iconst_0 rfl ?_
    obtain rfl := Option.some.inj hf
    exact sw_zret cx hr (by decide +kernel) hQ dX10_isPart__35
  · replace hf := it_n c1 hf
    refine sw_iload_n (pc' := 5) (i := 3) cx dX10_isPart__4 rfl 3 rfl rfl ?_
    refine sw_if_lt (pc' := 8) (tgt := 34) cx dX10_isPart__5 (by decide) rfl (fun c2 => ?_) (fun c2 => ?_)
    · replace hf := it_p c2 hf
      refine sw_iconst (pc' := 35) (v := 0) cx dX10_isPart__34 iconst_0 rfl ?_
      obtain rfl := Option.some.inj hf
      exact sw_zret cx hr (by decide +kernel) hQ dX10_isPart__35
    · replace hf := it_n c2 hf
      refine sw_iload_n (pc' := 9) (i := 3) cx dX10_isPart__8 rfl 3 rfl rfl ?_
      refine sw_aload_n (pc' := 10) (i := 0) cx dX10_isPart__9 rfl 0 rfl rfl ?_
      refine sw_get (pc' := 13) cx in_X10 0 rfl rfl 12 (Nat.le_of_ble_eq_true rfl) fl_RX10_22 rfl dX10_isPart__10 rfl ?_
      refine sw_iload_n (pc' := 14) (i := 1) cx dX10_isPart__13 rfl 1 rfl rfl ?_
      obtain ⟨h3, hf⟩ := gx_s hf
      refine sw_iald (pc' := 15) cx 5 0 rfl rfl h3 dX10_isPart__14 rfl ?_
      refine sw_icmp_gt (pc' := 18) (tgt := 34) cx dX10_isPart__15 (by decide) rfl (fun c4 => ?_) (fun c4 => ?_)
      · replace hf := it_p c4 hf
        refine sw_iconst (pc' := 35) (v := 0) cx dX10_isPart__34 iconst_0 rfl ?_
        obtain rfl := Option.some.inj hf
        exact sw_zret cx hr (by decide +kernel) hQ dX10_isPart__35
      · replace hf := it_n c4 hf
        refine sw_iload_n (pc' := 19) (i := 2) cx dX10_isPart__18 rfl 2 rfl rfl ?_
        refine sw_aload_n (pc' := 20) (i := 0) cx dX10_isPart__19 rfl 0 rfl rfl ?_
        refine sw_get (pc' := 23) cx in_X10 0 rfl rfl 12 (Nat.le_of_ble_eq_true rfl) fl_RX10_22 rfl dX10_isPart__20 rfl ?_
        refine sw_iload_n (pc' := 24) (i := 1) cx dX10_isPart__23 rfl 1 rfl rfl ?_
        obtain ⟨h5, hf⟩ := gx_s hf
        refine sw_iald (pc' := 25) cx 5 0 rfl rfl h5 dX10_isPart__24 rfl ?_
        refine sw_iload_n (pc' := 26) (i := 3) cx dX10_isPart__25 rfl 3 rfl rfl ?_
        refine sw_isub (pc' := 27) cx dX10_isPart__26 rfl ?_
        refine sw_icmp_gt (pc' := 30) (tgt := 34) cx dX10_isPart__27 (by decide) rfl (fun c6 => ?_) (fun c6 => ?_)
        · replace hf := it_p c6 hf
          refine sw_iconst (pc' := 35) (v := 0) cx dX10_isPart__34 iconst_0 rfl ?_
          obtain rfl := Option.some.inj hf
          exact sw_zret cx hr (by decide +kernel) hQ dX10_isPart__35
        · replace hf := it_n c6 hf
          refine sw_iconst (pc' := 31) (v := 1) cx dX10_isPart__30 iconst_1 rfl ?_
          refine sw_goto (tgt := 35) cx dX10_isPart__31 (by decide) ?_
          obtain rfl := Option.some.inj hf
          exact sw_zret cx hr (by decide +kernel) hQ dX10_isPart__35
abbrev rm_X10_copy : Room := ({ frames := 2, cells := 0, slots := 0, locals := 42 } : Room)
set_option maxRecDepth 100000 in
set_option maxHeartbeats 4000000 in
theorem k_X10_copy (l : Launch) (D : sf_D) (h : Nat → Nat) (cI cJ cK cS : ClassId) (row : Nat → Int32) (att : Int32) (fnd : Nat → Int32) (tape : Nat → Int32) (tmany : Int32) (sort : Int32) (begs : Int32) (tends : Int32) (word : Int64) (valu : Int32) (good : Int32) (bits : Nat → Int32) (size : Nat → Int32) (shts : Nat → Int64) (lent : Nat → Int64) (imag : Nat → Int32) (befo : Nat → Int32) (kept : Int32) (a0 : Int32) (a1 : Int32) (a2 : Int32) (a3 : Int32) (a4 : Int32) (res : Int32 × (Nat → Int32) × (Nat → Int64) × (Nat → Int64)) (hf : f_X10_copy fnd bits size shts lent a0 a1 a2 a3 a4 = some res) : sf_Ct l yX10_copy cX10_copy 7 (some .int) rm_X10_copy D (sf_ty cI cJ cK cS) [.ref (h 0), .int a0, .int a1, .int a2, .int a3, .int a4] (mo_W h cI cJ row att fnd tape tmany sort begs tends word valu good bits size shts lent imag befo kept) (some (.int res.1)) (mo_W h cI cJ row att res.2.1 tape tmany sort begs tends word valu good bits size res.2.2.1 res.2.2.2 imag befo kept) := by
  refine sf_met (lv := [(0, .ref (h 0)), (1, .int a0), (2, .int a1), (3, .int a2), (4, .int a3), (5, .int a4)]) (by decide) (Nat.le_of_ble_eq_true rfl) rfl ?_
  intro p e s m args below meth c A Q cx hr hQ
  have cx : sf_Cx p m meth c cX10_copy 7 s args RX10 D (sf_ty cI cJ cK cS) A := cx
  have B14 : ∀ (fnd : Nat → Int32) (shts : Nat → Int64) (lent : Nat → Int64), f_X10_copy_b14 bits size fnd shts lent = some res → sf_W p l e rm_X10_copy s m args below meth c 0 0 Q 7 D A (mo_W h cI cJ row att fnd tape tmany sort begs tends word valu good bits size shts lent imag befo kept) [(0, .ref (h 0))] 14 [] := by
    intro fnd shts lent hf
    unfold f_X10_copy_b14 at hf
    refine sw_aload_n (pc' := 15) (i := 0) cx dX10_copy_14 rfl 0 rfl rfl ?_
    refine sw_ldc (pc' := 17) cx ct_RX10_38 dX10_copy_15 rfl ?_
    obtain ⟨r17, hr17, hf⟩ := bd_s hf
    refine sw_callVw (pc' := 20) (As := [.int (-1000000001 : Int32)]) (rest := []) (w' := (mo_W h cI cJ row att r17.2 tape tmany sort begs tends word valu good bits size shts lent imag befo kept)) cx (k_X10_finds l D h cI cJ cK cS row att fnd tape tmany sort begs tends word valu good bits size shts lent imag befo kept (-1000000001 : Int32) r17 hr17) pk_yX10_finds ml_RX10_63 ⟨rfl, rfl⟩ ⟨(Nat.le_of_ble_eq_true rfl), (Nat.le_of_ble_eq_true rfl)⟩ ⟨(Nat.le_of_ble_eq_true rfl), (Nat.le_of_ble_eq_true rfl)⟩ 0 rfl rfl rfl rfl (Nat.le_of_ble_eq_true rfl) rfl dX10_copy_17 rfl ?_
    obtain rfl := Option.some.inj hf
    exact sw_iret cx hr hQ dX10_copy_20
  have B39 : ∀ (fnd : Nat → Int32) (shts : Nat → Int64) (lent : Nat → Int64), f_X10_copy_b39 bits size fnd shts lent = some res → sf_W p l e rm_X10_copy s m args below meth c 0 0 Q 7 D A (mo_W h cI cJ row att fnd tape tmany sort begs tends word valu good bits size shts lent imag befo kept) [(0, .ref (h 0))] 39 [] := by
    intro fnd shts lent hf
    unfold f_X10_copy_b39 at hf
    refine sw_aload_n (pc' := 40) (i := 0) cx dX10_copy_39 rfl 0 rfl rfl ?_
    refine sw_ldc_w (pc' := 43) cx ct_RX10_260 dX10_copy_40 rfl ?_
    obtain ⟨r18, hr18, hf⟩ := bd_s hf
    refine sw_callVw (pc' := 46) (As := [.int (-1000000006 : Int32)]) (rest := []) (w' := (mo_W h cI cJ row att r18.2 tape tmany sort begs tends word valu good bits size shts lent imag befo kept)) cx (k_X10_finds l D h cI cJ cK cS row att fnd tape tmany sort begs tends word valu good bits size shts lent imag befo kept (-1000000006 : Int32) r18 hr18) pk_yX10_finds ml_RX10_63 ⟨rfl, rfl⟩ ⟨(Nat.le_of_ble_eq_true rfl), (Nat.le_of_ble_eq_true rfl)⟩ ⟨(Nat.le_of_ble_eq_true rfl), (Nat.le_of_ble_eq_true rfl)⟩ 0 rfl rfl rfl rfl (Nat.le_of_ble_eq_true rfl) rfl dX10_copy_43 rfl ?_
    obtain rfl := Option.some.inj hf
    exact sw_iret cx hr hQ dX10_copy_46
  have B92 : ∀ (fnd : Nat → Int32) (shts : Nat → Int64) (lent : Nat → Int64), f_X10_copy_b92 bits size fnd shts lent = some res → sf_W p l e rm_X10_copy s m args below meth c 0 0 Q 7 D A (mo_W h cI cJ row att fnd tape tmany sort begs tends word valu good bits size shts lent imag befo kept) [(0, .ref (h 0))] 92 [] := by
    intro fnd shts lent hf
    unfold f_X10_copy_b92 at hf
    refine sw_aload_n (pc' := 93) (i := 0) cx dX10_copy_92 rfl 0 rfl rfl ?_
    refine sw_ldc (pc' := 95) cx ct_RX10_38 dX10_copy_93 rfl ?_
    obtain ⟨r19, hr19, hf⟩ := bd_s hf
    refine sw_callVw (pc' := 98) (As := [.int (-1000000001 : Int32)]) (rest := []) (w' := (mo_W h cI cJ row att r19.2 tape tmany sort begs tends word valu good bits size shts lent imag befo kept)) cx (k_X10_finds l D h cI cJ cK cS row att fnd tape tmany sort begs tends word valu good bits size shts lent imag befo kept (-1000000001 : Int32) r19 hr19) pk_yX10_finds ml_RX10_63 ⟨rfl, rfl⟩ ⟨(Nat.le_of_ble_eq_true rfl), (Nat.le_of_ble_eq_true rfl)⟩ ⟨(Nat.le_of_ble_eq_true rfl), (Nat.le_of_ble_eq_true rfl)⟩ 0 rfl rfl rfl rfl (Nat.le_of_ble_eq_true rfl) rfl dX10_copy_95 rfl ?_
    obtain rfl := Option.some.inj hf
    exact sw_iret cx hr hQ dX10_copy_98
  have B139 : ∀ (n : Nat), ∀ (fnd : Nat → Int32) (shts : Nat → Int64) (lent : Nat → Int64) (x3 : Int32) (x4 : Int32) (x5 : Int32) (x6 : Int32), f_X10_copy_b139 bits size n fnd shts lent x3 x4 x5 x6 = some res → sf_W p l e rm_X10_copy s m args below meth c 0 0 Q 7 D A (mo_W h cI cJ row att fnd tape tmany sort begs tends word valu good bits size shts lent imag befo kept) [(0, .ref (h 0)), (3, .int x3), (4, .int x4), (5, .int x5), (6, .int x6)] 139 [] := by
    intro n
    induction n with
    | zero => intro fnd shts lent x3 x4 x5 x6 hf; rw [f_X10_copy_b139] at hf; cases hf
    | succ n ih =>
      intro fnd shts lent x3 x4 x5 x6 hf
      rw [f_X10_copy_b139] at hf
      refine sw_iload (pc' := 141) (i := 6) cx dX10_copy_139 4 rfl rfl ?_
      refine sw_iload (pc' := 143) (i := 5) cx dX10_copy_141 3 rfl rfl ?_
      refine sw_icmp_ge (pc' := 146) (tgt := 174) cx dX10_copy_143 (by decide) rfl (fun c23 => ?_) (fun c23 => ?_)
      · replace hf := it_p c23 hf
        refine sw_iload (pc' := 176) (i := 5) cx dX10_copy_174 3 rfl rfl ?_
        obtain rfl := Option.some.inj hf
        exact sw_iret cx hr hQ dX10_copy_176
      · replace hf := it_n c23 hf
        refine sw_aload_n (pc' := 147) (i := 0) cx dX10_copy_146 rfl 0 rfl rfl ?_
        refine sw_get (pc' := 150) cx in_X10 0 rfl rfl 13 (Nat.le_of_ble_eq_true rfl) fl_RX10_25 rfl dX10_copy_147 rfl ?_
        refine sw_bipush (pc' := 152) (v := 40) cx dX10_copy_150 bipush_40 rfl ?_
        refine sw_iload_n (pc' := 153) (i := 3) cx dX10_copy_152 rfl 1 rfl rfl ?_
        refine sw_imul (pc' := 154) cx dX10_copy_153 rfl ?_
        refine sw_iload (pc' := 156) (i := 4) cx dX10_copy_154 2 rfl rfl ?_
        refine sw_iadd (pc' := 157) cx dX10_copy_156 rfl ?_
        refine sw_iload (pc' := 159) (i := 6) cx dX10_copy_157 4 rfl rfl ?_
        refine sw_iadd (pc' := 160) cx dX10_copy_159 rfl ?_
        refine sw_aload_n (pc' := 161) (i := 0) cx dX10_copy_160 rfl 0 rfl rfl ?_
        refine sw_get (pc' := 164) cx in_X10 0 rfl rfl 14 (Nat.le_of_ble_eq_true rfl) fl_RX10_29 rfl dX10_copy_161 rfl ?_
        refine sw_iload (pc' := 166) (i := 6) cx dX10_copy_164 4 rfl rfl ?_
        obtain ⟨h24, hf⟩ := gx_s hf
        refine sw_lald (pc' := 167) cx 7 1 rfl rfl h24 dX10_copy_166 rfl ?_
        obtain ⟨h25, hf⟩ := gx_s hf
        refine sw_last (pc' := 168) (ws' := (mo_W h cI cJ row att fnd tape tmany sort begs tends word valu good bits size (vp_updL shts (((((40 : Int32) * x3) + x4) + x6)).toNatClampNeg (lent (x6).toNatClampNeg)) lent imag befo kept)) cx 6 1 rfl rfl h25 dX10_copy_167 rfl rfl ?_
        refine sw_iinc (pc' := 171) (v := (x6 + (1 : Int32))) (lv' := [(6, .int (x6 + (1 : Int32))), (0, .ref (h 0)), (3, .int x3), (4, .int x4), (5, .int x5)]) cx dX10_copy_168 4 rfl rfl (Nat.le_of_ble_eq_true rfl) rfl rfl ?_
        refine sw_goto (tgt := 139) cx dX10_copy_171 (by decide) ?_
        exact sw_lv [1, 2, 3, 4, 0] rfl (ih fnd (vp_updL shts (((((40 : Int32) * x3) + x4) + x6)).toNatClampNeg (lent (x6).toNatClampNeg)) lent x3 x4 x5 (x6 + (1 : Int32)) hf)
  have B102 : ∀ (n : Nat), ∀ (fnd : Nat → Int32) (shts : Nat → Int64) (lent : Nat → Int64) (x1 : Int32) (x2 : Int32) (x3 : Int32) (x4 : Int32) (x5 : Int32) (x6 : Int32), f_X10_copy_b102 bits size n fnd shts lent x1 x2 x3 x4 x5 x6 = some res → sf_W p l e rm_X10_copy s m args below meth c 0 0 Q 7 D A (mo_W h cI cJ row att fnd tape tmany sort begs tends word valu good bits size shts lent imag befo kept) [(0, .ref (h 0)), (1, .int x1), (2, .int x2), (3, .int x3), (4, .int x4), (5, .int x5), (6, .int x6)] 102 [] := by
    intro n
    induction n with
    | zero => intro fnd shts lent x1 x2 x3 x4 x5 x6 hf; rw [f_X10_copy_b102] at hf; cases hf
    | succ n ih =>
      intro fnd shts lent x1 x2 x3 x4 x5 x6 hf
      rw [f_X10_copy_b102] at hf
      refine sw_iload (pc' := 104) (i := 6) cx dX10_copy_102 6 rfl rfl ?_
      refine sw_iload (pc' := 106) (i := 5) cx dX10_copy_104 5 rfl rfl ?_
      refine sw_icmp_ge (pc' := 109) (tgt := 136) cx dX10_copy_106 (by decide) rfl (fun c20 => ?_) (fun c20 => ?_)
      · replace hf := it_p c20 hf
        refine sw_iconst (pc' := 137) (v := 0) cx dX10_copy_136 iconst_0 rfl ?_
        refine sw_istore (pc' := 139) (i := 6) (lv' := [(6, .int (0 : Int32)), (0, .ref (h 0)), (1, .int x1), (2, .int x2), (3, .int x3), (4, .int x4), (5, .int x5)]) cx dX10_copy_137 (Nat.le_of_ble_eq_true rfl) rfl rfl ?_
        exact sw_lv [1, 4, 5, 6, 0] rfl (B139 1000 fnd shts lent x3 x4 x5 (0 : Int32) hf)
      · replace hf := it_n c20 hf
        refine sw_aload_n (pc' := 110) (i := 0) cx dX10_copy_109 rfl 0 rfl rfl ?_
        refine sw_get (pc' := 113) cx in_X10 0 rfl rfl 14 (Nat.le_of_ble_eq_true rfl) fl_RX10_29 rfl dX10_copy_110 rfl ?_
        refine sw_iload (pc' := 115) (i := 6) cx dX10_copy_113 6 rfl rfl ?_
        refine sw_aload_n (pc' := 116) (i := 0) cx dX10_copy_115 rfl 0 rfl rfl ?_
        refine sw_get (pc' := 119) cx in_X10 0 rfl rfl 13 (Nat.le_of_ble_eq_true rfl) fl_RX10_25 rfl dX10_copy_116 rfl ?_
        refine sw_bipush (pc' := 121) (v := 40) cx dX10_copy_119 bipush_40 rfl ?_
        refine sw_iload_n (pc' := 122) (i := 1) cx dX10_copy_121 rfl 1 rfl rfl ?_
        refine sw_imul (pc' := 123) cx dX10_copy_122 rfl ?_
        refine sw_iload_n (pc' := 124) (i := 2) cx dX10_copy_123 rfl 2 rfl rfl ?_
        refine sw_iadd (pc' := 125) cx dX10_copy_124 rfl ?_
        refine sw_iload (pc' := 127) (i := 6) cx dX10_copy_125 6 rfl rfl ?_
        refine sw_iadd (pc' := 128) cx dX10_copy_127 rfl ?_
        obtain ⟨h21, hf⟩ := gx_s hf
        refine sw_lald (pc' := 129) cx 6 1 rfl rfl h21 dX10_copy_128 rfl ?_
        obtain ⟨h22, hf⟩ := gx_s hf
        refine sw_last (pc' := 130) (ws' := (mo_W h cI cJ row att fnd tape tmany sort begs tends word valu good bits size shts (vp_updL lent (x6).toNatClampNeg (shts (((((40 : Int32) * x1) + x2) + x6)).toNatClampNeg)) imag befo kept)) cx 7 1 rfl rfl h22 dX10_copy_129 rfl rfl ?_
        refine sw_iinc (pc' := 133) (v := (x6 + (1 : Int32))) (lv' := [(6, .int (x6 + (1 : Int32))), (0, .ref (h 0)), (1, .int x1), (2, .int x2), (3, .int x3), (4, .int x4), (5, .int x5)]) cx dX10_copy_130 6 rfl rfl (Nat.le_of_ble_eq_true rfl) rfl rfl ?_
        refine sw_goto (tgt := 102) cx dX10_copy_133 (by decide) ?_
        exact sw_lv [1, 2, 3, 4, 5, 6, 0] rfl (ih fnd shts (vp_updL lent (x6).toNatClampNeg (shts (((((40 : Int32) * x1) + x2) + x6)).toNatClampNeg)) x1 x2 x3 x4 x5 (x6 + (1 : Int32)) hf)
  unfold f_X10_copy at hf
  refine sw_iload_n (pc' := 1) (i := 1) cx dX10_copy_0 rfl 1 rfl rfl ?_
  obtain ⟨r1, hr1, hf⟩ := bd_s hf
  refine sw_callS (pc' := 4) (As := [.int a0]) (rest := []) cx (k_X10_isSheet l D h cI cJ cK cS a0 r1 hr1) pk_yX10_isSheet ml_RX10_256 ⟨rfl, rfl⟩ ⟨(Nat.le_of_ble_eq_true rfl), (Nat.le_of_ble_eq_true rfl)⟩ ⟨(Nat.le_of_ble_eq_true rfl), (Nat.le_of_ble_eq_true rfl)⟩ [] rfl rfl rfl (wn := (mo_W h cI cJ row att fnd tape tmany sort begs tends word valu good bits size shts lent imag befo kept)) rfl rfl (Nat.le_of_ble_eq_true rfl) rfl dX10_copy_1 rfl ?_
  refine sw_if_eq (pc' := 7) (tgt := 14) cx dX10_copy_4 (by decide) rfl (fun c2 => ?_) (fun c2 => ?_)
  · replace hf := it_p c2 hf
    exact sw_lv [0] rfl (B14 fnd shts lent hf)
  · replace hf := it_n c2 hf
    refine sw_iload_n (pc' := 8) (i := 3) cx dX10_copy_7 rfl 3 rfl rfl ?_
    obtain ⟨r3, hr3, hf⟩ := bd_s hf
    refine sw_callS (pc' := 11) (As := [.int a2]) (rest := []) cx (k_X10_isSheet l D h cI cJ cK cS a2 r3 hr3) pk_yX10_isSheet ml_RX10_256 ⟨rfl, rfl⟩ ⟨(Nat.le_of_ble_eq_true rfl), (Nat.le_of_ble_eq_true rfl)⟩ ⟨(Nat.le_of_ble_eq_true rfl), (Nat.le_of_ble_eq_true rfl)⟩ [] rfl rfl rfl (wn := (mo_W h cI cJ row att fnd tape tmany sort begs tends word valu good bits size shts lent imag befo kept)) rfl rfl (Nat.le_of_ble_eq_true rfl) rfl dX10_copy_8 rfl ?_
    refine sw_if_ne (pc' := 14) (tgt := 21) cx dX10_copy_11 (by decide) rfl (fun c4 => ?_) (fun c4 => ?_)
    · replace hf := it_n c4 hf
      refine sw_aload_n (pc' := 22) (i := 0) cx dX10_copy_21 rfl 0 rfl rfl ?_
      refine sw_get (pc' := 25) cx in_X10 0 rfl rfl 11 (Nat.le_of_ble_eq_true rfl) fl_RX10_19 rfl dX10_copy_22 rfl ?_
      refine sw_iload_n (pc' := 26) (i := 1) cx dX10_copy_25 rfl 1 rfl rfl ?_
      obtain ⟨h5, hf⟩ := gx_s hf
      refine sw_iald (pc' := 27) cx 4 0 rfl rfl h5 dX10_copy_26 rfl ?_
      refine sw_if_eq (pc' := 30) (tgt := 39) cx dX10_copy_27 (by decide) rfl (fun c6 => ?_) (fun c6 => ?_)
      · replace hf := it_p c6 hf
        exact sw_lv [0] rfl (B39 fnd shts lent hf)
      · replace hf := it_n c6 hf
        refine sw_aload_n (pc' := 31) (i := 0) cx dX10_copy_30 rfl 0 rfl rfl ?_
        refine sw_get (pc' := 34) cx in_X10 0 rfl rfl 11 (Nat.le_of_ble_eq_true rfl) fl_RX10_19 rfl dX10_copy_31 rfl ?_
        refine sw_iload_n (pc' := 35) (i := 3) cx dX10_copy_34 rfl 3 rfl rfl ?_
        obtain ⟨h7, hf⟩ := gx_s hf
        refine sw_iald (pc' := 36) cx 4 0 rfl rfl h7 dX10_copy_35 rfl ?_
        refine sw_if_ne (pc' := 39) (tgt := 47) cx dX10_copy_36 (by decide) rfl (fun c8 => ?_) (fun c8 => ?_)
        · replace hf := it_n c8 hf
          refine sw_aload_n (pc' := 48) (i := 0) cx dX10_copy_47 rfl 0 rfl rfl ?_
          refine sw_get (pc' := 51) cx in_X10 0 rfl rfl 11 (Nat.le_of_ble_eq_true rfl) fl_RX10_19 rfl dX10_copy_48 rfl ?_
          refine sw_iload_n (pc' := 52) (i := 1) cx dX10_copy_51 rfl 1 rfl rfl ?_
          obtain ⟨h9, hf⟩ := gx_s hf
          refine sw_iald (pc' := 53) cx 4 0 rfl rfl h9 dX10_copy_52 rfl ?_
          refine sw_aload_n (pc' := 54) (i := 0) cx dX10_copy_53 rfl 0 rfl rfl ?_
          refine sw_get (pc' := 57) cx in_X10 0 rfl rfl 11 (Nat.le_of_ble_eq_true rfl) fl_RX10_19 rfl dX10_copy_54 rfl ?_
          refine sw_iload_n (pc' := 58) (i := 3) cx dX10_copy_57 rfl 3 rfl rfl ?_
          obtain ⟨h10, hf⟩ := gx_s hf
          refine sw_iald (pc' := 59) cx 4 0 rfl rfl h10 dX10_copy_58 rfl ?_
          refine sw_icmp_eq (pc' := 62) (tgt := 69) cx dX10_copy_59 (by decide) rfl (fun c11 => ?_) (fun c11 => ?_)
          · replace hf := it_p c11 hf
            refine sw_aload_n (pc' := 70) (i := 0) cx dX10_copy_69 rfl 0 rfl rfl ?_
            refine sw_iload_n (pc' := 71) (i := 1) cx dX10_copy_70 rfl 1 rfl rfl ?_
            refine sw_iload_n (pc' := 72) (i := 2) cx dX10_copy_71 rfl 2 rfl rfl ?_
            refine sw_iload (pc' := 74) (i := 5) cx dX10_copy_72 5 rfl rfl ?_
            obtain ⟨r12, hr12, hf⟩ := bd_s hf
            refine sw_callVw (pc' := 77) (As := [.int a0, .int a1, .int a4]) (rest := []) (w' := (mo_W h cI cJ row att fnd tape tmany sort begs tends word valu good bits size shts lent imag befo kept)) cx (k_X10_isPart_ l D h cI cJ cK cS row att fnd tape tmany sort begs tends word valu good bits size shts lent imag befo kept a0 a1 a4 r12 hr12) pk_yX10_isPart_ ml_RX10_265 ⟨rfl, rfl⟩ ⟨(Nat.le_of_ble_eq_true rfl), (Nat.le_of_ble_eq_true rfl)⟩ ⟨(Nat.le_of_ble_eq_true rfl), (Nat.le_of_ble_eq_true rfl)⟩ 0 rfl rfl rfl rfl (Nat.le_of_ble_eq_true rfl) rfl dX10_copy_74 rfl ?_
            refine sw_if_eq (pc' := 80) (tgt := 92) cx dX10_copy_77 (by decide) rfl (fun c13 => ?_) (fun c13 => ?_)
            · replace hf := it_p c13 hf
              exact sw_lv [0] rfl (B92 fnd shts lent hf)
            · replace hf := it_n c13 hf
              refine sw_aload_n (pc' := 81) (i := 0) cx dX10_copy_80 rfl 0 rfl rfl ?_
              refine sw_iload_n (pc' := 82) (i := 3) cx dX10_copy_81 rfl 3 rfl rfl ?_
              refine sw_iload (pc' := 84) (i := 4) cx dX10_copy_82 4 rfl rfl ?_
              refine sw_iload (pc' := 86) (i := 5) cx dX10_copy_84 5 rfl rfl ?_
              obtain ⟨r14, hr14, hf⟩ := bd_s hf
              refine sw_callVw (pc' := 89) (As := [.int a2, .int a3, .int a4]) (rest := []) (w' := (mo_W h cI cJ row att fnd tape tmany sort begs tends word valu good bits size shts lent imag befo kept)) cx (k_X10_isPart_ l D h cI cJ cK cS row att fnd tape tmany sort begs tends word valu good bits size shts lent imag befo kept a2 a3 a4 r14 hr14) pk_yX10_isPart_ ml_RX10_265 ⟨rfl, rfl⟩ ⟨(Nat.le_of_ble_eq_true rfl), (Nat.le_of_ble_eq_true rfl)⟩ ⟨(Nat.le_of_ble_eq_true rfl), (Nat.le_of_ble_eq_true rfl)⟩ 0 rfl rfl rfl rfl (Nat.le_of_ble_eq_true rfl) rfl dX10_copy_86 rfl ?_
              refine sw_if_ne (pc' := 92) (tgt := 99) cx dX10_copy_89 (by decide) rfl (fun c15 => ?_) (fun c15 => ?_)
              · replace hf := it_n c15 hf
                refine sw_iconst (pc' := 100) (v := 0) cx dX10_copy_99 iconst_0 rfl ?_
                refine sw_istore (pc' := 102) (i := 6) (lv' := [(6, .int (0 : Int32)), (0, .ref (h 0)), (1, .int a0), (2, .int a1), (3, .int a2), (4, .int a3), (5, .int a4)]) cx dX10_copy_100 (Nat.le_of_ble_eq_true rfl) rfl rfl ?_
                exact sw_lv [1, 2, 3, 4, 5, 6, 0] rfl (B102 1000 fnd shts lent a0 a1 a2 a3 a4 (0 : Int32) hf)
              · replace hf := it_p c15 hf
                exact sw_lv [0] rfl (B92 fnd shts lent hf)
          · replace hf := it_n c11 hf
            refine sw_aload_n (pc' := 63) (i := 0) cx dX10_copy_62 rfl 0 rfl rfl ?_
            refine sw_ldc (pc' := 65) cx ct_RX10_100 dX10_copy_63 rfl ?_
            obtain ⟨r16, hr16, hf⟩ := bd_s hf
            refine sw_callVw (pc' := 68) (As := [.int (-1000000003 : Int32)]) (rest := []) (w' := (mo_W h cI cJ row att r16.2 tape tmany sort begs tends word valu good bits size shts lent imag befo kept)) cx (k_X10_finds l D h cI cJ cK cS row att fnd tape tmany sort begs tends word valu good bits size shts lent imag befo kept (-1000000003 : Int32) r16 hr16) pk_yX10_finds ml_RX10_63 ⟨rfl, rfl⟩ ⟨(Nat.le_of_ble_eq_true rfl), (Nat.le_of_ble_eq_true rfl)⟩ ⟨(Nat.le_of_ble_eq_true rfl), (Nat.le_of_ble_eq_true rfl)⟩ 0 rfl rfl rfl rfl (Nat.le_of_ble_eq_true rfl) rfl dX10_copy_65 rfl ?_
            obtain rfl := Option.some.inj hf
            exact sw_iret cx hr hQ dX10_copy_68
        · replace hf := it_p c8 hf
          exact sw_lv [0] rfl (B39 fnd shts lent hf)
    · replace hf := it_p c4 hf
      exact sw_lv [0] rfl (B14 fnd shts lent hf)
abbrev rm_X10_lays : Room := ({ frames := 2, cells := 0, slots := 0, locals := 42 } : Room)
set_option maxRecDepth 100000 in
set_option maxHeartbeats 4000000 in
theorem k_X10_lays (l : Launch) (D : sf_D) (h : Nat → Nat) (cI cJ cK cS : ClassId) (row : Nat → Int32) (att : Int32) (fnd : Nat → Int32) (tape : Nat → Int32) (tmany : Int32) (sort : Int32) (begs : Int32) (tends : Int32) (word : Int64) (valu : Int32) (good : Int32) (bits : Nat → Int32) (size : Nat → Int32) (shts : Nat → Int64) (lent : Nat → Int64) (imag : Nat → Int32) (befo : Nat → Int32) (kept : Int32) (a0 : Int32) (res : Int32 × (Nat → Int32) × (Nat → Int32)) (hf : f_X10_lays row fnd bits size shts a0 = some res) : sf_Ct l yX10_lays cX10_lays 6 (some .int) rm_X10_lays D (sf_ty cI cJ cK cS) [.ref (h 0), .int a0] (mo_W h cI cJ row att fnd tape tmany sort begs tends word valu good bits size shts lent imag befo kept) (some (.int res.1)) (mo_W h cI cJ res.2.1 att res.2.2 tape tmany sort begs tends word valu good bits size shts lent imag befo kept) := by
  refine sf_met (lv := [(0, .ref (h 0)), (1, .int a0)]) (by decide) (Nat.le_of_ble_eq_true rfl) rfl ?_
  intro p e s m args below meth c A Q cx hr hQ
  have cx : sf_Cx p m meth c cX10_lays 6 s args RX10 D (sf_ty cI cJ cK cS) A := cx
  have B94 : ∀ (kk : (Nat → Int32) → (Nat → Int32) → Int32 → Int32 → Int32 → Option (Int32 × (Nat → Int32) × (Nat → Int32))), (∀ (row : Nat → Int32) (fnd : Nat → Int32) (x1 : Int32) (x2 : Int32) (x3 : Int32), kk row fnd x1 x2 x3 = some res → sf_W p l e rm_X10_lays s m args below meth c 0 0 Q 6 D A (mo_W h cI cJ row att fnd tape tmany sort begs tends word valu good bits size shts lent imag befo kept) [(0, .ref (h 0)), (1, .int x1), (2, .int x2), (3, .int x3)] 35 []) → ∀ (row : Nat → Int32) (fnd : Nat → Int32) (x1 : Int32) (x2 : Int32) (x3 : Int32), f_X10_lays_b94 bits size shts kk row fnd x1 x2 x3 = some res → sf_W p l e rm_X10_lays s m args below meth c 0 0 Q 6 D A (mo_W h cI cJ row att fnd tape tmany sort begs tends word valu good bits size shts lent imag befo kept) [(0, .ref (h 0)), (1, .int x1), (2, .int x2), (3, .int x3)] 94 [] := by
    intro kk hkk row fnd x1 x2 x3 hf
    unfold f_X10_lays_b94 at hf
    refine sw_iinc (pc' := 97) (v := (x3 + (1 : Int32))) (lv' := [(3, .int (x3 + (1 : Int32))), (0, .ref (h 0)), (1, .int x1), (2, .int x2)]) cx dX10_lays_94 3 rfl rfl (Nat.le_of_ble_eq_true rfl) rfl rfl ?_
    refine sw_goto (tgt := 35) cx dX10_lays_97 (by decide) ?_
    exact sw_lv [1, 2, 3, 0] rfl (hkk row fnd x1 x2 (x3 + (1 : Int32)) hf)
  have B35 : ∀ (n : Nat), ∀ (row : Nat → Int32) (fnd : Nat → Int32) (x1 : Int32) (x2 : Int32) (x3 : Int32), f_X10_lays_b35 bits size shts n row fnd x1 x2 x3 = some res → sf_W p l e rm_X10_lays s m args below meth c 0 0 Q 6 D A (mo_W h cI cJ row att fnd tape tmany sort begs tends word valu good bits size shts lent imag befo kept) [(0, .ref (h 0)), (1, .int x1), (2, .int x2), (3, .int x3)] 35 [] := by
    intro n
    induction n with
    | zero => intro row fnd x1 x2 x3 hf; rw [f_X10_lays_b35] at hf; cases hf
    | succ n ih =>
      intro row fnd x1 x2 x3 hf
      rw [f_X10_lays_b35] at hf
      refine sw_iload_n (pc' := 36) (i := 3) cx dX10_lays_35 rfl 3 rfl rfl ?_
      refine sw_bipush (pc' := 38) (v := 40) cx dX10_lays_36 bipush_40 rfl ?_
      refine sw_icmp_ge (pc' := 41) (tgt := 100) cx dX10_lays_38 (by decide) rfl (fun c7 => ?_) (fun c7 => ?_)
      · replace hf := it_p c7 hf
        refine sw_iload_n (pc' := 101) (i := 2) cx dX10_lays_100 rfl 2 rfl rfl ?_
        obtain rfl := Option.some.inj hf
        exact sw_iret cx hr hQ dX10_lays_101
      · replace hf := it_n c7 hf
        refine sw_iload_n (pc' := 42) (i := 3) cx dX10_lays_41 rfl 3 rfl rfl ?_
        refine sw_aload_n (pc' := 43) (i := 0) cx dX10_lays_42 rfl 0 rfl rfl ?_
        refine sw_get (pc' := 46) cx in_X10 0 rfl rfl 12 (Nat.le_of_ble_eq_true rfl) fl_RX10_22 rfl dX10_lays_43 rfl ?_
        refine sw_iload_n (pc' := 47) (i := 1) cx dX10_lays_46 rfl 1 rfl rfl ?_
        obtain ⟨h8, hf⟩ := gx_s hf
        refine sw_iald (pc' := 48) cx 5 0 rfl rfl h8 dX10_lays_47 rfl ?_
        refine sw_icmp_ge (pc' := 51) (tgt := 100) cx dX10_lays_48 (by decide) rfl (fun c9 => ?_) (fun c9 => ?_)
        · replace hf := it_p c9 hf
          refine sw_iload_n (pc' := 101) (i := 2) cx dX10_lays_100 rfl 2 rfl rfl ?_
          obtain rfl := Option.some.inj hf
          exact sw_iret cx hr hQ dX10_lays_101
        · replace hf := it_n c9 hf
          refine sw_aload_n (pc' := 52) (i := 0) cx dX10_lays_51 rfl 0 rfl rfl ?_
          refine sw_get (pc' := 55) cx in_X10 0 rfl rfl 13 (Nat.le_of_ble_eq_true rfl) fl_RX10_25 rfl dX10_lays_52 rfl ?_
          refine sw_bipush (pc' := 57) (v := 40) cx dX10_lays_55 bipush_40 rfl ?_
          refine sw_iload_n (pc' := 58) (i := 1) cx dX10_lays_57 rfl 1 rfl rfl ?_
          refine sw_imul (pc' := 59) cx dX10_lays_58 rfl ?_
          refine sw_iload_n (pc' := 60) (i := 3) cx dX10_lays_59 rfl 3 rfl rfl ?_
          refine sw_iadd (pc' := 61) cx dX10_lays_60 rfl ?_
          obtain ⟨h10, hf⟩ := gx_s hf
          refine sw_lald (pc' := 62) cx 6 1 rfl rfl h10 dX10_lays_61 rfl ?_
          refine sw_lstore (pc' := 64) (i := 4) (lv' := [(4, .long (shts ((((40 : Int32) * x1) + x3)).toNatClampNeg)), (0, .ref (h 0)), (1, .int x1), (2, .int x2), (3, .int x3)]) cx dX10_lays_62 (Nat.le_of_ble_eq_true rfl) rfl rfl ?_
          refine sw_lload (pc' := 66) (i := 4) cx dX10_lays_64 0 rfl rfl ?_
          refine sw_lconst (pc' := 67) (v := 1) cx dX10_lays_66 rfl rfl ?_
          refine sw_lcmp (pc' := 68) cx dX10_lays_67 rfl ?_
          refine sw_if_lt (pc' := 71) (tgt := 94) cx dX10_lays_68 (by decide) rfl (fun c11 => ?_) (fun c11 => ?_)
          · replace hf := it_p c11 hf
            exact sw_lv [1, 2, 3, 4] rfl (B94 _ ih row fnd x1 x2 x3 hf)
          · replace hf := it_n c11 hf
            refine sw_lload (pc' := 73) (i := 4) cx dX10_lays_71 0 rfl rfl ?_
            refine sw_ldc2_w (pc' := 76) cx cl_RX10_267 dX10_lays_73 rfl ?_
            refine sw_lcmp (pc' := 77) cx dX10_lays_76 rfl ?_
            refine sw_if_gt (pc' := 80) (tgt := 94) cx dX10_lays_77 (by decide) rfl (fun c12 => ?_) (fun c12 => ?_)
            · replace hf := it_p c12 hf
              exact sw_lv [1, 2, 3, 4] rfl (B94 _ ih row fnd x1 x2 x3 hf)
            · replace hf := it_n c12 hf
              refine sw_aload_n (pc' := 81) (i := 0) cx dX10_lays_80 rfl 1 rfl rfl ?_
              refine sw_get (pc' := 84) cx in_X10 0 rfl rfl 0 (Nat.le_of_ble_eq_true rfl) fl_RX10_7 rfl dX10_lays_81 rfl ?_
              refine sw_iconst (pc' := 85) (v := 5) cx dX10_lays_84 iconst_5 rfl ?_
              refine sw_iload_n (pc' := 86) (i := 3) cx dX10_lays_85 rfl 4 rfl rfl ?_
              refine sw_iadd (pc' := 87) cx dX10_lays_86 rfl ?_
              refine sw_lload (pc' := 89) (i := 4) cx dX10_lays_87 0 rfl rfl ?_
              refine sw_l2i (pc' := 90) cx dX10_lays_89 rfl ?_
              obtain ⟨h13, hf⟩ := gx_s hf
              refine sw_iast (pc' := 91) (ws' := (mo_W h cI cJ (upd row (((5 : Int32) + x3)).toNatClampNeg (((shts ((((40 : Int32) * x1) + x3)).toNatClampNeg)).toInt32)) att fnd tape tmany sort begs tends word valu good bits size shts lent imag befo kept)) cx 1 0 rfl rfl h13 dX10_lays_90 rfl rfl ?_
              refine sw_iinc (pc' := 94) (v := (x2 + (1 : Int32))) (lv' := [(2, .int (x2 + (1 : Int32))), (4, .long (shts ((((40 : Int32) * x1) + x3)).toNatClampNeg)), (0, .ref (h 0)), (1, .int x1), (3, .int x3)]) cx dX10_lays_91 3 rfl rfl (Nat.le_of_ble_eq_true rfl) rfl rfl ?_
              exact sw_lv [2, 3, 0, 4] rfl (B94 _ ih (upd row (((5 : Int32) + x3)).toNatClampNeg (((shts ((((40 : Int32) * x1) + x3)).toNatClampNeg)).toInt32)) fnd x1 (x2 + (1 : Int32)) x3 hf)
  unfold f_X10_lays at hf
  refine sw_iload_n (pc' := 1) (i := 1) cx dX10_lays_0 rfl 1 rfl rfl ?_
  obtain ⟨r1, hr1, hf⟩ := bd_s hf
  refine sw_callS (pc' := 4) (As := [.int a0]) (rest := []) cx (k_X10_isSheet l D h cI cJ cK cS a0 r1 hr1) pk_yX10_isSheet ml_RX10_256 ⟨rfl, rfl⟩ ⟨(Nat.le_of_ble_eq_true rfl), (Nat.le_of_ble_eq_true rfl)⟩ ⟨(Nat.le_of_ble_eq_true rfl), (Nat.le_of_ble_eq_true rfl)⟩ [] rfl rfl rfl (wn := (mo_W h cI cJ row att fnd tape tmany sort begs tends word valu good bits size shts lent imag befo kept)) rfl rfl (Nat.le_of_ble_eq_true rfl) rfl dX10_lays_1 rfl ?_
  refine sw_if_ne (pc' := 7) (tgt := 14) cx dX10_lays_4 (by decide) rfl (fun c2 => ?_) (fun c2 => ?_)
  · replace hf := it_n c2 hf
    refine sw_aload_n (pc' := 15) (i := 0) cx dX10_lays_14 rfl 0 rfl rfl ?_
    refine sw_get (pc' := 18) cx in_X10 0 rfl rfl 11 (Nat.le_of_ble_eq_true rfl) fl_RX10_19 rfl dX10_lays_15 rfl ?_
    refine sw_iload_n (pc' := 19) (i := 1) cx dX10_lays_18 rfl 1 rfl rfl ?_
    obtain ⟨h3, hf⟩ := gx_s hf
    refine sw_iald (pc' := 20) cx 4 0 rfl rfl h3 dX10_lays_19 rfl ?_
    refine sw_if_ne (pc' := 23) (tgt := 31) cx dX10_lays_20 (by decide) rfl (fun c4 => ?_) (fun c4 => ?_)
    · replace hf := it_n c4 hf
      refine sw_iconst (pc' := 32) (v := 0) cx dX10_lays_31 iconst_0 rfl ?_
      refine sw_istore_n (pc' := 33) (i := 2) (lv' := [(2, .int (0 : Int32)), (0, .ref (h 0)), (1, .int a0)]) cx dX10_lays_32 rfl (Nat.le_of_ble_eq_true rfl) rfl rfl ?_
      refine sw_iconst (pc' := 34) (v := 0) cx dX10_lays_33 iconst_0 rfl ?_
      refine sw_istore_n (pc' := 35) (i := 3) (lv' := [(3, .int (0 : Int32)), (2, .int (0 : Int32)), (0, .ref (h 0)), (1, .int a0)]) cx dX10_lays_34 rfl (Nat.le_of_ble_eq_true rfl) rfl rfl ?_
      exact sw_lv [2, 3, 1, 0] rfl (B35 1000 row fnd a0 (0 : Int32) (0 : Int32) hf)
    · replace hf := it_p c4 hf
      refine sw_aload_n (pc' := 24) (i := 0) cx dX10_lays_23 rfl 0 rfl rfl ?_
      refine sw_ldc_w (pc' := 27) cx ct_RX10_260 dX10_lays_24 rfl ?_
      obtain ⟨r5, hr5, hf⟩ := bd_s hf
      refine sw_callVw (pc' := 30) (As := [.int (-1000000006 : Int32)]) (rest := []) (w' := (mo_W h cI cJ row att r5.2 tape tmany sort begs tends word valu good bits size shts lent imag befo kept)) cx (k_X10_finds l D h cI cJ cK cS row att fnd tape tmany sort begs tends word valu good bits size shts lent imag befo kept (-1000000006 : Int32) r5 hr5) pk_yX10_finds ml_RX10_63 ⟨rfl, rfl⟩ ⟨(Nat.le_of_ble_eq_true rfl), (Nat.le_of_ble_eq_true rfl)⟩ ⟨(Nat.le_of_ble_eq_true rfl), (Nat.le_of_ble_eq_true rfl)⟩ 0 rfl rfl rfl rfl (Nat.le_of_ble_eq_true rfl) rfl dX10_lays_27 rfl ?_
      obtain rfl := Option.some.inj hf
      exact sw_iret cx hr hQ dX10_lays_30
  · replace hf := it_p c2 hf
    refine sw_aload_n (pc' := 8) (i := 0) cx dX10_lays_7 rfl 0 rfl rfl ?_
    refine sw_ldc (pc' := 10) cx ct_RX10_38 dX10_lays_8 rfl ?_
    obtain ⟨r6, hr6, hf⟩ := bd_s hf
    refine sw_callVw (pc' := 13) (As := [.int (-1000000001 : Int32)]) (rest := []) (w' := (mo_W h cI cJ row att r6.2 tape tmany sort begs tends word valu good bits size shts lent imag befo kept)) cx (k_X10_finds l D h cI cJ cK cS row att fnd tape tmany sort begs tends word valu good bits size shts lent imag befo kept (-1000000001 : Int32) r6 hr6) pk_yX10_finds ml_RX10_63 ⟨rfl, rfl⟩ ⟨(Nat.le_of_ble_eq_true rfl), (Nat.le_of_ble_eq_true rfl)⟩ ⟨(Nat.le_of_ble_eq_true rfl), (Nat.le_of_ble_eq_true rfl)⟩ 0 rfl rfl rfl rfl (Nat.le_of_ble_eq_true rfl) rfl dX10_lays_10 rfl ?_
    obtain rfl := Option.some.inj hf
    exact sw_iret cx hr hQ dX10_lays_13
abbrev rm_X10_stair : Room := ({ frames := 6, cells := 0, slots := 0, locals := 132 } : Room)
set_option maxRecDepth 100000 in
set_option maxHeartbeats 4000000 in
theorem k_X10_stair (l : Launch) (D : sf_D) (h : Nat → Nat) (cI cJ cK cS : ClassId) (row : Nat → Int32) (att : Int32) (fnd : Nat → Int32) (tape : Nat → Int32) (tmany : Int32) (sort : Int32) (begs : Int32) (tends : Int32) (word : Int64) (valu : Int32) (good : Int32) (bits : Nat → Int32) (size : Nat → Int32) (shts : Nat → Int64) (lent : Nat → Int64) (imag : Nat → Int32) (befo : Nat → Int32) (kept : Int32) (a0 : Int32) (a1 : Int32) (res : Int32 × (Nat → Int32) × Int32 × (Nat → Int32) × (Nat → Int64)) (hf : f_X10_stair row att fnd bits size shts a0 a1 = some res) : sf_Ct l yX10_stair cX10_stair 5 (some .int) rm_X10_stair D (sf_ty cI cJ cK cS) [.ref (h 0), .int a0, .int a1] (mo_W h cI cJ row att fnd tape tmany sort begs tends word valu good bits size shts lent imag befo kept) (some (.int res.1)) (mo_W h cI cJ res.2.1 res.2.2.1 res.2.2.2.1 tape tmany sort begs tends word valu good bits size res.2.2.2.2 lent imag befo kept) := by
  refine sf_met (lv := [(0, .ref (h 0)), (1, .int a0), (2, .int a1)]) (by decide) (Nat.le_of_ble_eq_true rfl) rfl ?_
  intro p e s m args below meth c A Q cx hr hQ
  have cx : sf_Cx p m meth c cX10_stair 5 s args RX10 D (sf_ty cI cJ cK cS) A := cx
  have B128 : ∀ (kk : (Nat → Int32) → Int32 → (Nat → Int32) → (Nat → Int64) → Int32 → Int32 → Option (Int32 × (Nat → Int32) × Int32 × (Nat → Int32) × (Nat → Int64))), (∀ (row : Nat → Int32) (att : Int32) (fnd : Nat → Int32) (shts : Nat → Int64) (x1 : Int32) (x4 : Int32), kk row att fnd shts x1 x4 = some res → sf_W p l e rm_X10_stair s m args below meth c 0 0 Q 5 D A (mo_W h cI cJ row att fnd tape tmany sort begs tends word valu good bits size shts lent imag befo kept) [(0, .ref (h 0)), (1, .int x1), (4, .int x4)] 76 []) → ∀ (row : Nat → Int32) (att : Int32) (fnd : Nat → Int32) (shts : Nat → Int64) (x1 : Int32) (x4 : Int32) (s0 : Int64) (s1 : Int32), f_X10_stair_b128 bits size kk row att fnd shts x1 x4 s0 s1 = some res → sf_W p l e rm_X10_stair s m args below meth c 0 0 Q 5 D A (mo_W h cI cJ row att fnd tape tmany sort begs tends word valu good bits size shts lent imag befo kept) [(0, .ref (h 0)), (1, .int x1), (4, .int x4)] 128 [.long s0, .int s1, .ref (h 6)] := by
    intro kk hkk row att fnd shts x1 x4 s0 s1 hf
    unfold f_X10_stair_b128 at hf
    obtain ⟨h19, hf⟩ := gx_s hf
    refine sw_last (pc' := 129) (ws' := (mo_W h cI cJ row att fnd tape tmany sort begs tends word valu good bits size (vp_updL shts (s1).toNatClampNeg s0) lent imag befo kept)) cx 6 1 rfl rfl h19 dX10_stair_128 rfl rfl ?_
    refine sw_iinc (pc' := 132) (v := (x4 + (1 : Int32))) (lv' := [(4, .int (x4 + (1 : Int32))), (0, .ref (h 0)), (1, .int x1)]) cx dX10_stair_129 2 rfl rfl (Nat.le_of_ble_eq_true rfl) rfl rfl ?_
    refine sw_goto (tgt := 76) cx dX10_stair_132 (by decide) ?_
    exact sw_lv [1, 2, 0] rfl (hkk row att fnd (vp_updL shts (s1).toNatClampNeg s0) x1 (x4 + (1 : Int32)) hf)
  have B135 : ∀ (row : Nat → Int32) (att : Int32) (fnd : Nat → Int32) (shts : Nat → Int64) (x4 : Int32), f_X10_stair_b135 bits size row att fnd shts x4 = some res → sf_W p l e rm_X10_stair s m args below meth c 0 0 Q 5 D A (mo_W h cI cJ row att fnd tape tmany sort begs tends word valu good bits size shts lent imag befo kept) [(0, .ref (h 0)), (4, .int x4)] 135 [] := by
    intro row att fnd shts x4 hf
    unfold f_X10_stair_b135 at hf
    refine sw_aload_n (pc' := 136) (i := 0) cx dX10_stair_135 rfl 0 rfl rfl ?_
    refine sw_iconst (pc' := 137) (v := 0) cx dX10_stair_136 iconst_0 rfl ?_
    refine sw_put (pc' := 140) (ws' := (mo_W h cI cJ row (0 : Int32) fnd tape tmany sort begs tends word valu good bits size shts lent imag befo kept)) cx in_X10 tyX10 tyX10_ok nmX10 0 rfl rfl 1 (Nat.le_of_ble_eq_true rfl) fl_RX10_39 rfl rfl rfl (Nat.le_of_ble_eq_true rfl) dX10_stair_137 rfl rfl ?_
    refine sw_iload (pc' := 142) (i := 4) cx dX10_stair_140 1 rfl rfl ?_
    obtain rfl := Option.some.inj hf
    exact sw_iret cx hr hQ dX10_stair_142
  have B76 : ∀ (n : Nat), ∀ (row : Nat → Int32) (att : Int32) (fnd : Nat → Int32) (shts : Nat → Int64) (x1 : Int32) (x4 : Int32), f_X10_stair_b76 bits size n row att fnd shts x1 x4 = some res → sf_W p l e rm_X10_stair s m args below meth c 0 0 Q 5 D A (mo_W h cI cJ row att fnd tape tmany sort begs tends word valu good bits size shts lent imag befo kept) [(0, .ref (h 0)), (1, .int x1), (4, .int x4)] 76 [] := by
    intro n
    induction n with
    | zero => intro row att fnd shts x1 x4 hf; rw [f_X10_stair_b76] at hf; cases hf
    | succ n ih =>
      intro row att fnd shts x1 x4 hf
      rw [f_X10_stair_b76] at hf
      refine sw_iload (pc' := 78) (i := 4) cx dX10_stair_76 2 rfl rfl ?_
      refine sw_bipush (pc' := 80) (v := 40) cx dX10_stair_78 bipush_40 rfl ?_
      refine sw_icmp_ge (pc' := 83) (tgt := 135) cx dX10_stair_80 (by decide) rfl (fun c13 => ?_) (fun c13 => ?_)
      · replace hf := it_p c13 hf
        exact sw_lv [0, 2] rfl (B135 row att fnd shts x4 hf)
      · replace hf := it_n c13 hf
        refine sw_iload (pc' := 85) (i := 4) cx dX10_stair_83 2 rfl rfl ?_
        refine sw_aload_n (pc' := 86) (i := 0) cx dX10_stair_85 rfl 0 rfl rfl ?_
        refine sw_get (pc' := 89) cx in_X10 0 rfl rfl 12 (Nat.le_of_ble_eq_true rfl) fl_RX10_22 rfl dX10_stair_86 rfl ?_
        refine sw_iload_n (pc' := 90) (i := 1) cx dX10_stair_89 rfl 1 rfl rfl ?_
        obtain ⟨h14, hf⟩ := gx_s hf
        refine sw_iald (pc' := 91) cx 5 0 rfl rfl h14 dX10_stair_90 rfl ?_
        refine sw_icmp_ge (pc' := 94) (tgt := 135) cx dX10_stair_91 (by decide) rfl (fun c15 => ?_) (fun c15 => ?_)
        · replace hf := it_p c15 hf
          exact sw_lv [0, 2] rfl (B135 row att fnd shts x4 hf)
        · replace hf := it_n c15 hf
          refine sw_aload_n (pc' := 95) (i := 0) cx dX10_stair_94 rfl 0 rfl rfl ?_
          refine sw_get (pc' := 98) cx in_X10 0 rfl rfl 13 (Nat.le_of_ble_eq_true rfl) fl_RX10_25 rfl dX10_stair_95 rfl ?_
          refine sw_bipush (pc' := 100) (v := 40) cx dX10_stair_98 bipush_40 rfl ?_
          refine sw_iload_n (pc' := 101) (i := 1) cx dX10_stair_100 rfl 1 rfl rfl ?_
          refine sw_imul (pc' := 102) cx dX10_stair_101 rfl ?_
          refine sw_iload (pc' := 104) (i := 4) cx dX10_stair_102 2 rfl rfl ?_
          refine sw_iadd (pc' := 105) cx dX10_stair_104 rfl ?_
          refine sw_aload_n (pc' := 106) (i := 0) cx dX10_stair_105 rfl 0 rfl rfl ?_
          refine sw_iload (pc' := 108) (i := 4) cx dX10_stair_106 2 rfl rfl ?_
          obtain ⟨r16, hr16, hf⟩ := bd_s hf
          refine sw_callVw (pc' := 111) (As := [.int x4]) (rest := [.int (((40 : Int32) * x1) + x4), .ref (h 6)]) (w' := (mo_W h cI cJ row att fnd tape tmany sort begs tends word valu good bits size shts lent imag befo kept)) cx (k_X10_isWhole l D h cI cJ cK cS row att fnd tape tmany sort begs tends word valu good bits size shts lent imag befo kept x4 r16 hr16) pk_yX10_isWhole ml_RX10_78 ⟨rfl, rfl⟩ ⟨(Nat.le_of_ble_eq_true rfl), (Nat.le_of_ble_eq_true rfl)⟩ ⟨(Nat.le_of_ble_eq_true rfl), (Nat.le_of_ble_eq_true rfl)⟩ 0 rfl rfl rfl rfl (Nat.le_of_ble_eq_true rfl) rfl dX10_stair_108 rfl ?_
          refine sw_if_eq (pc' := 114) (tgt := 127) cx dX10_stair_111 (by decide) rfl (fun c17 => ?_) (fun c17 => ?_)
          · replace hf := it_p c17 hf
            refine sw_lconst (pc' := 128) (v := 0) cx dX10_stair_127 rfl rfl ?_
            exact sw_lv [0, 1, 2] rfl (B128 _ ih row att fnd shts x1 x4 (0 : Int64) (((40 : Int32) * x1) + x4) hf)
          · replace hf := it_n c17 hf
            refine sw_aload_n (pc' := 115) (i := 0) cx dX10_stair_114 rfl 0 rfl rfl ?_
            refine sw_bipush (pc' := 117) (v := 85) cx dX10_stair_115 bipush_85 rfl ?_
            refine sw_iload (pc' := 119) (i := 4) cx dX10_stair_117 2 rfl rfl ?_
            refine sw_iadd (pc' := 120) cx dX10_stair_119 rfl ?_
            obtain ⟨r18, hr18, hf⟩ := bd_s hf
            refine sw_callVw (pc' := 123) (As := [.int ((85 : Int32) + x4)]) (rest := [.int (((40 : Int32) * x1) + x4), .ref (h 6)]) (w' := (mo_W h cI cJ row att fnd tape tmany sort begs tends word valu good bits size shts lent imag befo kept)) cx (k_X10_its l D h cI cJ cK cS row att fnd tape tmany sort begs tends word valu good bits size shts lent imag befo kept ((85 : Int32) + x4) r18 hr18) pk_yX10_its ml_RX10_43 ⟨rfl, rfl⟩ ⟨(Nat.le_of_ble_eq_true rfl), (Nat.le_of_ble_eq_true rfl)⟩ ⟨(Nat.le_of_ble_eq_true rfl), (Nat.le_of_ble_eq_true rfl)⟩ 0 rfl rfl rfl rfl (Nat.le_of_ble_eq_true rfl) rfl dX10_stair_120 rfl ?_
            refine sw_i2l (pc' := 124) cx dX10_stair_123 rfl ?_
            refine sw_goto (tgt := 128) cx dX10_stair_124 (by decide) ?_
            exact sw_lv [0, 1, 2] rfl (B128 _ ih row att fnd shts x1 x4 ((r18).toInt64) (((40 : Int32) * x1) + x4) hf)
  have B53 : ∀ (row : Nat → Int32) (att : Int32) (fnd : Nat → Int32) (shts : Nat → Int64) (x1 : Int32) (x2 : Int32) (s0 : Int32), f_X10_stair_b53 bits size row att fnd shts x1 x2 s0 = some res → sf_W p l e rm_X10_stair s m args below meth c 0 0 Q 5 D A (mo_W h cI cJ row att fnd tape tmany sort begs tends word valu good bits size shts lent imag befo kept) [(0, .ref (h 0)), (1, .int x1), (2, .int x2)] 53 [.int s0] := by
    intro row att fnd shts x1 x2 s0 hf
    unfold f_X10_stair_b53 at hf
    refine sw_istore_n (pc' := 54) (i := 3) (lv' := [(3, .int s0), (0, .ref (h 0)), (1, .int x1), (2, .int x2)]) cx dX10_stair_53 rfl (Nat.le_of_ble_eq_true rfl) rfl rfl ?_
    refine sw_iload_n (pc' := 55) (i := 3) cx dX10_stair_54 rfl 0 rfl rfl ?_
    refine sw_if_eq (pc' := 58) (tgt := 64) cx dX10_stair_55 (by decide) rfl (fun c9 => ?_) (fun c9 => ?_)
    · replace hf := it_p c9 hf
      refine sw_aload_n (pc' := 65) (i := 0) cx dX10_stair_64 rfl 1 rfl rfl ?_
      obtain ⟨r10, hr10, hf⟩ := bd_s hf
      refine sw_callVw (pc' := 68) (As := []) (rest := []) (w' := (mo_W h cI cJ r10.1 r10.2 fnd tape tmany sort begs tends word valu good bits size shts lent imag befo kept)) cx (k_X10_lends l D h cI cJ cK cS row att fnd tape tmany sort begs tends word valu good bits size shts lent imag befo kept  r10 hr10) pk_yX10_lends ml_RX10_144 ⟨rfl, rfl⟩ ⟨(Nat.le_of_ble_eq_true rfl), (Nat.le_of_ble_eq_true rfl)⟩ ⟨(Nat.le_of_ble_eq_true rfl), (Nat.le_of_ble_eq_true rfl)⟩ 0 rfl rfl rfl rfl (Nat.le_of_ble_eq_true rfl) rfl dX10_stair_65 rfl ?_
      refine sw_aload_n (pc' := 69) (i := 0) cx dX10_stair_68 rfl 1 rfl rfl ?_
      refine sw_iload_n (pc' := 70) (i := 2) cx dX10_stair_69 rfl 3 rfl rfl ?_
      obtain ⟨r11, hr11, hf⟩ := bd_s hf
      refine sw_callVw (pc' := 73) (As := [.int x2]) (rest := []) (w' := (mo_W h cI cJ r11 r10.2 fnd tape tmany sort begs tends word valu good bits size shts lent imag befo kept)) cx (k_X10_go l D h cI cJ cK cS r10.1 r10.2 fnd tape tmany sort begs tends word valu good bits size shts lent imag befo kept x2 r11 hr11) pk_yX10_go ml_RX10_138 ⟨rfl, rfl⟩ ⟨(Nat.le_of_ble_eq_true rfl), (Nat.le_of_ble_eq_true rfl)⟩ ⟨(Nat.le_of_ble_eq_true rfl), (Nat.le_of_ble_eq_true rfl)⟩ 0 rfl rfl rfl rfl (Nat.le_of_ble_eq_true rfl) rfl dX10_stair_70 rfl ?_
      refine sw_iconst (pc' := 74) (v := 0) cx dX10_stair_73 iconst_0 rfl ?_
      refine sw_istore (pc' := 76) (i := 4) (lv' := [(4, .int (0 : Int32)), (3, .int s0), (0, .ref (h 0)), (1, .int x1), (2, .int x2)]) cx dX10_stair_74 (Nat.le_of_ble_eq_true rfl) rfl rfl ?_
      exact sw_lv [2, 3, 0] rfl (B76 1000 r11 r10.2 fnd shts x1 (0 : Int32) hf)
    · replace hf := it_n c9 hf
      refine sw_aload_n (pc' := 59) (i := 0) cx dX10_stair_58 rfl 1 rfl rfl ?_
      refine sw_iload_n (pc' := 60) (i := 3) cx dX10_stair_59 rfl 0 rfl rfl ?_
      obtain ⟨r12, hr12, hf⟩ := bd_s hf
      refine sw_callVw (pc' := 63) (As := [.int s0]) (rest := []) (w' := (mo_W h cI cJ row att r12.2 tape tmany sort begs tends word valu good bits size shts lent imag befo kept)) cx (k_X10_finds l D h cI cJ cK cS row att fnd tape tmany sort begs tends word valu good bits size shts lent imag befo kept s0 r12 hr12) pk_yX10_finds ml_RX10_63 ⟨rfl, rfl⟩ ⟨(Nat.le_of_ble_eq_true rfl), (Nat.le_of_ble_eq_true rfl)⟩ ⟨(Nat.le_of_ble_eq_true rfl), (Nat.le_of_ble_eq_true rfl)⟩ 0 rfl rfl rfl rfl (Nat.le_of_ble_eq_true rfl) rfl dX10_stair_60 rfl ?_
      obtain rfl := Option.some.inj hf
      exact sw_iret cx hr hQ dX10_stair_63
  unfold f_X10_stair at hf
  refine sw_iload_n (pc' := 1) (i := 1) cx dX10_stair_0 rfl 1 rfl rfl ?_
  obtain ⟨r1, hr1, hf⟩ := bd_s hf
  refine sw_callS (pc' := 4) (As := [.int a0]) (rest := []) cx (k_X10_isSheet l D h cI cJ cK cS a0 r1 hr1) pk_yX10_isSheet ml_RX10_256 ⟨rfl, rfl⟩ ⟨(Nat.le_of_ble_eq_true rfl), (Nat.le_of_ble_eq_true rfl)⟩ ⟨(Nat.le_of_ble_eq_true rfl), (Nat.le_of_ble_eq_true rfl)⟩ [] rfl rfl rfl (wn := (mo_W h cI cJ row att fnd tape tmany sort begs tends word valu good bits size shts lent imag befo kept)) rfl rfl (Nat.le_of_ble_eq_true rfl) rfl dX10_stair_1 rfl ?_
  refine sw_if_ne (pc' := 7) (tgt := 12) cx dX10_stair_4 (by decide) rfl (fun c2 => ?_) (fun c2 => ?_)
  · replace hf := it_n c2 hf
    refine sw_aload_n (pc' := 13) (i := 0) cx dX10_stair_12 rfl 0 rfl rfl ?_
    refine sw_get (pc' := 16) cx in_X10 0 rfl rfl 11 (Nat.le_of_ble_eq_true rfl) fl_RX10_19 rfl dX10_stair_13 rfl ?_
    refine sw_iload_n (pc' := 17) (i := 1) cx dX10_stair_16 rfl 1 rfl rfl ?_
    obtain ⟨h3, hf⟩ := gx_s hf
    refine sw_iald (pc' := 18) cx 4 0 rfl rfl h3 dX10_stair_17 rfl ?_
    refine sw_if_ne (pc' := 21) (tgt := 27) cx dX10_stair_18 (by decide) rfl (fun c4 => ?_) (fun c4 => ?_)
    · replace hf := it_n c4 hf
      refine sw_iload_n (pc' := 28) (i := 2) cx dX10_stair_27 rfl 2 rfl rfl ?_
      obtain ⟨r5, hr5, hf⟩ := bd_s hf
      refine sw_callS (pc' := 31) (As := [.int a1]) (rest := []) cx (k_X10_isLong l D h cI cJ cK cS a1 r5 hr5) pk_yX10_isLong ml_RX10_141 ⟨rfl, rfl⟩ ⟨(Nat.le_of_ble_eq_true rfl), (Nat.le_of_ble_eq_true rfl)⟩ ⟨(Nat.le_of_ble_eq_true rfl), (Nat.le_of_ble_eq_true rfl)⟩ [] rfl rfl rfl (wn := (mo_W h cI cJ row att fnd tape tmany sort begs tends word valu good bits size shts lent imag befo kept)) rfl rfl (Nat.le_of_ble_eq_true rfl) rfl dX10_stair_28 rfl ?_
      refine sw_if_ne (pc' := 34) (tgt := 39) cx dX10_stair_31 (by decide) rfl (fun c6 => ?_) (fun c6 => ?_)
      · replace hf := it_n c6 hf
        refine sw_aload_n (pc' := 40) (i := 0) cx dX10_stair_39 rfl 0 rfl rfl ?_
        refine sw_iload_n (pc' := 41) (i := 2) cx dX10_stair_40 rfl 2 rfl rfl ?_
        obtain ⟨r7, hr7, hf⟩ := bd_s hf
        refine sw_callVw (pc' := 44) (As := [.int a1]) (rest := []) (w' := (mo_W h cI cJ row att fnd tape tmany sort begs tends word valu good bits size shts lent imag befo kept)) cx (k_X10_isLate l D h cI cJ cK cS row att fnd tape tmany sort begs tends word valu good bits size shts lent imag befo kept a1 r7 hr7) pk_yX10_isLate ml_RX10_135 ⟨rfl, rfl⟩ ⟨(Nat.le_of_ble_eq_true rfl), (Nat.le_of_ble_eq_true rfl)⟩ ⟨(Nat.le_of_ble_eq_true rfl), (Nat.le_of_ble_eq_true rfl)⟩ 0 rfl rfl rfl rfl (Nat.le_of_ble_eq_true rfl) rfl dX10_stair_41 rfl ?_
        refine sw_if_eq (pc' := 47) (tgt := 52) cx dX10_stair_44 (by decide) rfl (fun c8 => ?_) (fun c8 => ?_)
        · replace hf := it_p c8 hf
          refine sw_iconst (pc' := 53) (v := 0) cx dX10_stair_52 iconst_0 rfl ?_
          exact sw_lv [0, 1, 2] rfl (B53 row att fnd shts a0 a1 (0 : Int32) hf)
        · replace hf := it_n c8 hf
          refine sw_ldc (pc' := 49) cx ct_RX10_101 dX10_stair_47 rfl ?_
          refine sw_goto (tgt := 53) cx dX10_stair_49 (by decide) ?_
          exact sw_lv [0, 1, 2] rfl (B53 row att fnd shts a0 a1 (-1000000005 : Int32) hf)
      · replace hf := it_p c6 hf
        refine sw_ldc (pc' := 36) cx ct_RX10_38 dX10_stair_34 rfl ?_
        refine sw_goto (tgt := 53) cx dX10_stair_36 (by decide) ?_
        exact sw_lv [0, 1, 2] rfl (B53 row att fnd shts a0 a1 (-1000000001 : Int32) hf)
    · replace hf := it_p c4 hf
      refine sw_ldc_w (pc' := 24) cx ct_RX10_260 dX10_stair_21 rfl ?_
      refine sw_goto (tgt := 53) cx dX10_stair_24 (by decide) ?_
      exact sw_lv [0, 1, 2] rfl (B53 row att fnd shts a0 a1 (-1000000006 : Int32) hf)
  · replace hf := it_p c2 hf
    refine sw_ldc (pc' := 9) cx ct_RX10_38 dX10_stair_7 rfl ?_
    refine sw_goto (tgt := 53) cx dX10_stair_9 (by decide) ?_
    exact sw_lv [0, 1, 2] rfl (B53 row att fnd shts a0 a1 (-1000000001 : Int32) hf)
abbrev rm_X10_read : Room := ({ frames := 5, cells := 0, slots := 0, locals := 110 } : Room)
set_option maxRecDepth 100000 in
set_option maxHeartbeats 4000000 in
theorem k_X10_read (l : Launch) (D : sf_D) (h : Nat → Nat) (cI cJ cK cS : ClassId) (row : Nat → Int32) (att : Int32) (fnd : Nat → Int32) (tape : Nat → Int32) (tmany : Int32) (sort : Int32) (begs : Int32) (tends : Int32) (word : Int64) (valu : Int32) (good : Int32) (bits : Nat → Int32) (size : Nat → Int32) (shts : Nat → Int64) (lent : Nat → Int64) (imag : Nat → Int32) (befo : Nat → Int32) (kept : Int32) (a0 : Int32) (res : Int32 × (Nat → Int32) × Int32 × (Nat → Int32)) (hf : f_X10_read row att fnd bits size shts a0 = some res) : sf_Ct l yX10_read cX10_read 5 (some .int) rm_X10_read D (sf_ty cI cJ cK cS) [.ref (h 0), .int a0] (mo_W h cI cJ row att fnd tape tmany sort begs tends word valu good bits size shts lent imag befo kept) (some (.int res.1)) (mo_W h cI cJ res.2.1 res.2.2.1 res.2.2.2 tape tmany sort begs tends word valu good bits size shts lent imag befo kept) := by
  refine sf_met (lv := [(0, .ref (h 0)), (1, .int a0)]) (by decide) (Nat.le_of_ble_eq_true rfl) rfl ?_
  intro p e s m args below meth c A Q cx hr hQ
  have cx : sf_Cx p m meth c cX10_read 5 s args RX10 D (sf_ty cI cJ cK cS) A := cx
  have B106 : ∀ (kk : (Nat → Int32) → Int32 → (Nat → Int32) → Int32 → Int32 → Int32 → Option (Int32 × (Nat → Int32) × Int32 × (Nat → Int32))), (∀ (row : Nat → Int32) (att : Int32) (fnd : Nat → Int32) (x1 : Int32) (x3 : Int32) (x4 : Int32), kk row att fnd x1 x3 x4 = some res → sf_W p l e rm_X10_read s m args below meth c 0 0 Q 5 D A (mo_W h cI cJ row att fnd tape tmany sort begs tends word valu good bits size shts lent imag befo kept) [(0, .ref (h 0)), (1, .int x1), (3, .int x3), (4, .int x4)] 62 []) → ∀ (row : Nat → Int32) (att : Int32) (fnd : Nat → Int32) (x1 : Int32) (x4 : Int32) (s0 : Int32), f_X10_read_b106 bits size shts kk row att fnd x1 x4 s0 = some res → sf_W p l e rm_X10_read s m args below meth c 0 0 Q 5 D A (mo_W h cI cJ row att fnd tape tmany sort begs tends word valu good bits size shts lent imag befo kept) [(0, .ref (h 0)), (1, .int x1), (4, .int x4)] 106 [.int s0] := by
    intro kk hkk row att fnd x1 x4 s0 hf
    unfold f_X10_read_b106 at hf
    refine sw_istore_n (pc' := 107) (i := 3) (lv' := [(3, .int s0), (0, .ref (h 0)), (1, .int x1), (4, .int x4)]) cx dX10_read_106 rfl (Nat.le_of_ble_eq_true rfl) rfl rfl ?_
    refine sw_aload_n (pc' := 108) (i := 0) cx dX10_read_107 rfl 1 rfl rfl ?_
    obtain ⟨r16, hr16, hf⟩ := bd_s hf
    refine sw_callVw (pc' := 111) (As := []) (rest := []) (w' := (mo_W h cI cJ r16 att fnd tape tmany sort begs tends word valu good bits size shts lent imag befo kept)) cx (k_X10_yearGoes l D h cI cJ cK cS row att fnd tape tmany sort begs tends word valu good bits size shts lent imag befo kept  r16 hr16) pk_yX10_yearGoes ml_RX10_132 ⟨rfl, rfl⟩ ⟨(Nat.le_of_ble_eq_true rfl), (Nat.le_of_ble_eq_true rfl)⟩ ⟨(Nat.le_of_ble_eq_true rfl), (Nat.le_of_ble_eq_true rfl)⟩ 0 rfl rfl rfl rfl (Nat.le_of_ble_eq_true rfl) rfl dX10_read_108 rfl ?_
    refine sw_iinc (pc' := 114) (v := (x4 + (1 : Int32))) (lv' := [(4, .int (x4 + (1 : Int32))), (3, .int s0), (0, .ref (h 0)), (1, .int x1)]) cx dX10_read_111 3 rfl rfl (Nat.le_of_ble_eq_true rfl) rfl rfl ?_
    refine sw_goto (tgt := 62) cx dX10_read_114 (by decide) ?_
    exact sw_lv [2, 3, 1, 0] rfl (hkk r16 att fnd x1 s0 (x4 + (1 : Int32)) hf)
  have B117 : ∀ (row : Nat → Int32) (att : Int32) (fnd : Nat → Int32) (x3 : Int32), f_X10_read_b117 bits size shts row att fnd x3 = some res → sf_W p l e rm_X10_read s m args below meth c 0 0 Q 5 D A (mo_W h cI cJ row att fnd tape tmany sort begs tends word valu good bits size shts lent imag befo kept) [(0, .ref (h 0)), (3, .int x3)] 117 [] := by
    intro row att fnd x3 hf
    unfold f_X10_read_b117 at hf
    refine sw_aload_n (pc' := 118) (i := 0) cx dX10_read_117 rfl 0 rfl rfl ?_
    refine sw_iconst (pc' := 119) (v := 0) cx dX10_read_118 iconst_0 rfl ?_
    refine sw_put (pc' := 122) (ws' := (mo_W h cI cJ row (0 : Int32) fnd tape tmany sort begs tends word valu good bits size shts lent imag befo kept)) cx in_X10 tyX10 tyX10_ok nmX10 0 rfl rfl 1 (Nat.le_of_ble_eq_true rfl) fl_RX10_39 rfl rfl rfl (Nat.le_of_ble_eq_true rfl) dX10_read_119 rfl rfl ?_
    refine sw_iload_n (pc' := 123) (i := 3) cx dX10_read_122 rfl 1 rfl rfl ?_
    obtain rfl := Option.some.inj hf
    exact sw_iret cx hr hQ dX10_read_123
  have B62 : ∀ (n : Nat), ∀ (row : Nat → Int32) (att : Int32) (fnd : Nat → Int32) (x1 : Int32) (x3 : Int32) (x4 : Int32), f_X10_read_b62 bits size shts n row att fnd x1 x3 x4 = some res → sf_W p l e rm_X10_read s m args below meth c 0 0 Q 5 D A (mo_W h cI cJ row att fnd tape tmany sort begs tends word valu good bits size shts lent imag befo kept) [(0, .ref (h 0)), (1, .int x1), (3, .int x3), (4, .int x4)] 62 [] := by
    intro n
    induction n with
    | zero => intro row att fnd x1 x3 x4 hf; rw [f_X10_read_b62] at hf; cases hf
    | succ n ih =>
      intro row att fnd x1 x3 x4 hf
      rw [f_X10_read_b62] at hf
      refine sw_iload (pc' := 64) (i := 4) cx dX10_read_62 3 rfl rfl ?_
      refine sw_aload_n (pc' := 65) (i := 0) cx dX10_read_64 rfl 0 rfl rfl ?_
      refine sw_get (pc' := 68) cx in_X10 0 rfl rfl 12 (Nat.le_of_ble_eq_true rfl) fl_RX10_22 rfl dX10_read_65 rfl ?_
      refine sw_iload_n (pc' := 69) (i := 1) cx dX10_read_68 rfl 1 rfl rfl ?_
      obtain ⟨h10, hf⟩ := gx_s hf
      refine sw_iald (pc' := 70) cx 5 0 rfl rfl h10 dX10_read_69 rfl ?_
      refine sw_icmp_ge (pc' := 73) (tgt := 117) cx dX10_read_70 (by decide) rfl (fun c11 => ?_) (fun c11 => ?_)
      · replace hf := it_p c11 hf
        exact sw_lv [0, 2] rfl (B117 row att fnd x3 hf)
      · replace hf := it_n c11 hf
        refine sw_iload_n (pc' := 74) (i := 3) cx dX10_read_73 rfl 2 rfl rfl ?_
        refine sw_if_ne (pc' := 77) (tgt := 117) cx dX10_read_74 (by decide) rfl (fun c12 => ?_) (fun c12 => ?_)
        · replace hf := it_n c12 hf
          exact sw_lv [0, 2] rfl (B117 row att fnd x3 hf)
        · replace hf := it_p c12 hf
          refine sw_aload_n (pc' := 78) (i := 0) cx dX10_read_77 rfl 0 rfl rfl ?_
          refine sw_get (pc' := 81) cx in_X10 0 rfl rfl 13 (Nat.le_of_ble_eq_true rfl) fl_RX10_25 rfl dX10_read_78 rfl ?_
          refine sw_bipush (pc' := 83) (v := 40) cx dX10_read_81 bipush_40 rfl ?_
          refine sw_iload_n (pc' := 84) (i := 1) cx dX10_read_83 rfl 1 rfl rfl ?_
          refine sw_imul (pc' := 85) cx dX10_read_84 rfl ?_
          refine sw_iload (pc' := 87) (i := 4) cx dX10_read_85 3 rfl rfl ?_
          refine sw_iadd (pc' := 88) cx dX10_read_87 rfl ?_
          obtain ⟨h13, hf⟩ := gx_s hf
          refine sw_lald (pc' := 89) cx 6 1 rfl rfl h13 dX10_read_88 rfl ?_
          refine sw_aload_n (pc' := 90) (i := 0) cx dX10_read_89 rfl 0 rfl rfl ?_
          obtain ⟨r14, hr14, hf⟩ := bd_s hf
          refine sw_callVw (pc' := 93) (As := []) (rest := [.long (shts ((((40 : Int32) * x1) + x4)).toNatClampNeg)]) (w' := (mo_W h cI cJ row att fnd tape tmany sort begs tends word valu good bits size shts lent imag befo kept)) cx (k_X10_reachNow l D h cI cJ cK cS row att fnd tape tmany sort begs tends word valu good bits size shts lent imag befo kept  r14 hr14) pk_yX10_reachNow ml_RX10_119 ⟨rfl, rfl⟩ ⟨(Nat.le_of_ble_eq_true rfl), (Nat.le_of_ble_eq_true rfl)⟩ ⟨(Nat.le_of_ble_eq_true rfl), (Nat.le_of_ble_eq_true rfl)⟩ 0 rfl rfl rfl rfl (Nat.le_of_ble_eq_true rfl) rfl dX10_read_90 rfl ?_
          refine sw_i2l (pc' := 94) cx dX10_read_93 rfl ?_
          refine sw_lcmp (pc' := 95) cx dX10_read_94 rfl ?_
          refine sw_if_ne (pc' := 98) (tgt := 102) cx dX10_read_95 (by decide) rfl (fun c15 => ?_) (fun c15 => ?_)
          · replace hf := it_n c15 hf
            refine sw_iload (pc' := 104) (i := 4) cx dX10_read_102 3 rfl rfl ?_
            refine sw_iconst (pc' := 105) (v := 1) cx dX10_read_104 iconst_1 rfl ?_
            refine sw_iadd (pc' := 106) cx dX10_read_105 rfl ?_
            exact sw_lv [0, 1, 3] rfl (B106 _ ih row att fnd x1 x4 (x4 + (1 : Int32)) hf)
          · replace hf := it_p c15 hf
            refine sw_iconst (pc' := 99) (v := 0) cx dX10_read_98 iconst_0 rfl ?_
            refine sw_goto (tgt := 106) cx dX10_read_99 (by decide) ?_
            exact sw_lv [0, 1, 3] rfl (B106 _ ih row att fnd x1 x4 (0 : Int32) hf)
  have B42 : ∀ (row : Nat → Int32) (att : Int32) (fnd : Nat → Int32) (x1 : Int32) (s0 : Int32), f_X10_read_b42 bits size shts row att fnd x1 s0 = some res → sf_W p l e rm_X10_read s m args below meth c 0 0 Q 5 D A (mo_W h cI cJ row att fnd tape tmany sort begs tends word valu good bits size shts lent imag befo kept) [(0, .ref (h 0)), (1, .int x1)] 42 [.int s0] := by
    intro row att fnd x1 s0 hf
    unfold f_X10_read_b42 at hf
    refine sw_istore_n (pc' := 43) (i := 2) (lv' := [(2, .int s0), (0, .ref (h 0)), (1, .int x1)]) cx dX10_read_42 rfl (Nat.le_of_ble_eq_true rfl) rfl rfl ?_
    refine sw_iload_n (pc' := 44) (i := 2) cx dX10_read_43 rfl 0 rfl rfl ?_
    refine sw_if_eq (pc' := 47) (tgt := 53) cx dX10_read_44 (by decide) rfl (fun c7 => ?_) (fun c7 => ?_)
    · replace hf := it_p c7 hf
      refine sw_aload_n (pc' := 54) (i := 0) cx dX10_read_53 rfl 1 rfl rfl ?_
      obtain ⟨r8, hr8, hf⟩ := bd_s hf
      refine sw_callVw (pc' := 57) (As := []) (rest := []) (w' := (mo_W h cI cJ r8.1 r8.2 fnd tape tmany sort begs tends word valu good bits size shts lent imag befo kept)) cx (k_X10_lends l D h cI cJ cK cS row att fnd tape tmany sort begs tends word valu good bits size shts lent imag befo kept  r8 hr8) pk_yX10_lends ml_RX10_144 ⟨rfl, rfl⟩ ⟨(Nat.le_of_ble_eq_true rfl), (Nat.le_of_ble_eq_true rfl)⟩ ⟨(Nat.le_of_ble_eq_true rfl), (Nat.le_of_ble_eq_true rfl)⟩ 0 rfl rfl rfl rfl (Nat.le_of_ble_eq_true rfl) rfl dX10_read_54 rfl ?_
      refine sw_iconst (pc' := 58) (v := 0) cx dX10_read_57 iconst_0 rfl ?_
      refine sw_istore_n (pc' := 59) (i := 3) (lv' := [(3, .int (0 : Int32)), (2, .int s0), (0, .ref (h 0)), (1, .int x1)]) cx dX10_read_58 rfl (Nat.le_of_ble_eq_true rfl) rfl rfl ?_
      refine sw_iconst (pc' := 60) (v := 0) cx dX10_read_59 iconst_0 rfl ?_
      refine sw_istore (pc' := 62) (i := 4) (lv' := [(4, .int (0 : Int32)), (3, .int (0 : Int32)), (2, .int s0), (0, .ref (h 0)), (1, .int x1)]) cx dX10_read_60 (Nat.le_of_ble_eq_true rfl) rfl rfl ?_
      exact sw_lv [3, 4, 1, 0] rfl (B62 1000 r8.1 r8.2 fnd x1 (0 : Int32) (0 : Int32) hf)
    · replace hf := it_n c7 hf
      refine sw_aload_n (pc' := 48) (i := 0) cx dX10_read_47 rfl 1 rfl rfl ?_
      refine sw_iload_n (pc' := 49) (i := 2) cx dX10_read_48 rfl 0 rfl rfl ?_
      obtain ⟨r9, hr9, hf⟩ := bd_s hf
      refine sw_callVw (pc' := 52) (As := [.int s0]) (rest := []) (w' := (mo_W h cI cJ row att r9.2 tape tmany sort begs tends word valu good bits size shts lent imag befo kept)) cx (k_X10_finds l D h cI cJ cK cS row att fnd tape tmany sort begs tends word valu good bits size shts lent imag befo kept s0 r9 hr9) pk_yX10_finds ml_RX10_63 ⟨rfl, rfl⟩ ⟨(Nat.le_of_ble_eq_true rfl), (Nat.le_of_ble_eq_true rfl)⟩ ⟨(Nat.le_of_ble_eq_true rfl), (Nat.le_of_ble_eq_true rfl)⟩ 0 rfl rfl rfl rfl (Nat.le_of_ble_eq_true rfl) rfl dX10_read_49 rfl ?_
      obtain rfl := Option.some.inj hf
      exact sw_iret cx hr hQ dX10_read_52
  unfold f_X10_read at hf
  refine sw_iload_n (pc' := 1) (i := 1) cx dX10_read_0 rfl 1 rfl rfl ?_
  obtain ⟨r1, hr1, hf⟩ := bd_s hf
  refine sw_callS (pc' := 4) (As := [.int a0]) (rest := []) cx (k_X10_isSheet l D h cI cJ cK cS a0 r1 hr1) pk_yX10_isSheet ml_RX10_256 ⟨rfl, rfl⟩ ⟨(Nat.le_of_ble_eq_true rfl), (Nat.le_of_ble_eq_true rfl)⟩ ⟨(Nat.le_of_ble_eq_true rfl), (Nat.le_of_ble_eq_true rfl)⟩ [] rfl rfl rfl (wn := (mo_W h cI cJ row att fnd tape tmany sort begs tends word valu good bits size shts lent imag befo kept)) rfl rfl (Nat.le_of_ble_eq_true rfl) rfl dX10_read_1 rfl ?_
  refine sw_if_ne (pc' := 7) (tgt := 12) cx dX10_read_4 (by decide) rfl (fun c2 => ?_) (fun c2 => ?_)
  · replace hf := it_n c2 hf
    refine sw_aload_n (pc' := 13) (i := 0) cx dX10_read_12 rfl 0 rfl rfl ?_
    refine sw_get (pc' := 16) cx in_X10 0 rfl rfl 11 (Nat.le_of_ble_eq_true rfl) fl_RX10_19 rfl dX10_read_13 rfl ?_
    refine sw_iload_n (pc' := 17) (i := 1) cx dX10_read_16 rfl 1 rfl rfl ?_
    obtain ⟨h3, hf⟩ := gx_s hf
    refine sw_iald (pc' := 18) cx 4 0 rfl rfl h3 dX10_read_17 rfl ?_
    refine sw_if_ne (pc' := 21) (tgt := 27) cx dX10_read_18 (by decide) rfl (fun c4 => ?_) (fun c4 => ?_)
    · replace hf := it_n c4 hf
      refine sw_aload_n (pc' := 28) (i := 0) cx dX10_read_27 rfl 0 rfl rfl ?_
      refine sw_bipush (pc' := 30) (v := 40) cx dX10_read_28 bipush_40 rfl ?_
      obtain ⟨r5, hr5, hf⟩ := bd_s hf
      refine sw_callVw (pc' := 33) (As := [.int (40 : Int32)]) (rest := []) (w' := (mo_W h cI cJ row att fnd tape tmany sort begs tends word valu good bits size shts lent imag befo kept)) cx (k_X10_isLate l D h cI cJ cK cS row att fnd tape tmany sort begs tends word valu good bits size shts lent imag befo kept (40 : Int32) r5 hr5) pk_yX10_isLate ml_RX10_135 ⟨rfl, rfl⟩ ⟨(Nat.le_of_ble_eq_true rfl), (Nat.le_of_ble_eq_true rfl)⟩ ⟨(Nat.le_of_ble_eq_true rfl), (Nat.le_of_ble_eq_true rfl)⟩ 0 rfl rfl rfl rfl (Nat.le_of_ble_eq_true rfl) rfl dX10_read_30 rfl ?_
      refine sw_if_eq (pc' := 36) (tgt := 41) cx dX10_read_33 (by decide) rfl (fun c6 => ?_) (fun c6 => ?_)
      · replace hf := it_p c6 hf
        refine sw_iconst (pc' := 42) (v := 0) cx dX10_read_41 iconst_0 rfl ?_
        exact sw_lv [0, 1] rfl (B42 row att fnd a0 (0 : Int32) hf)
      · replace hf := it_n c6 hf
        refine sw_ldc (pc' := 38) cx ct_RX10_101 dX10_read_36 rfl ?_
        refine sw_goto (tgt := 42) cx dX10_read_38 (by decide) ?_
        exact sw_lv [0, 1] rfl (B42 row att fnd a0 (-1000000005 : Int32) hf)
    · replace hf := it_p c4 hf
      refine sw_ldc_w (pc' := 24) cx ct_RX10_260 dX10_read_21 rfl ?_
      refine sw_goto (tgt := 42) cx dX10_read_24 (by decide) ?_
      exact sw_lv [0, 1] rfl (B42 row att fnd a0 (-1000000006 : Int32) hf)
  · replace hf := it_p c2 hf
    refine sw_ldc (pc' := 9) cx ct_RX10_38 dX10_read_7 rfl ?_
    refine sw_goto (tgt := 42) cx dX10_read_9 (by decide) ?_
    exact sw_lv [0, 1] rfl (B42 row att fnd a0 (-1000000001 : Int32) hf)
abbrev rm_X10_image : Room := ({ frames := 1, cells := 0, slots := 0, locals := 23 } : Room)
set_option maxRecDepth 100000 in
set_option maxHeartbeats 4000000 in
theorem k_X10_image (l : Launch) (D : sf_D) (h : Nat → Nat) (cI cJ cK cS : ClassId) (row : Nat → Int32) (att : Int32) (fnd : Nat → Int32) (tape : Nat → Int32) (tmany : Int32) (sort : Int32) (begs : Int32) (tends : Int32) (word : Int64) (valu : Int32) (good : Int32) (bits : Nat → Int32) (size : Nat → Int32) (shts : Nat → Int64) (lent : Nat → Int64) (imag : Nat → Int32) (befo : Nat → Int32) (kept : Int32)  (res : Int32 × (Nat → Int32) × (Nat → Int32) × Int32) (hf : f_X10_image row imag kept = some res) : sf_Ct l yX10_image cX10_image 1 (some .int) rm_X10_image D (sf_ty cI cJ cK cS) [.ref (h 0)] (mo_W h cI cJ row att fnd tape tmany sort begs tends word valu good bits size shts lent imag befo kept) (some (.int res.1)) (mo_W h cI cJ res.2.1 att fnd tape tmany sort begs tends word valu good bits size shts lent res.2.2.1 befo res.2.2.2) := by
  refine sf_met (lv := [(0, .ref (h 0))]) (by decide) (Nat.le_of_ble_eq_true rfl) rfl ?_
  intro p e s m args below meth c A Q cx hr hQ
  have cx : sf_Cx p m meth c cX10_image 1 s args RX10 D (sf_ty cI cJ cK cS) A := cx
  unfold f_X10_image at hf
  refine sw_aload_n (pc' := 1) (i := 0) cx dX10_image_0 rfl 0 rfl rfl ?_
  refine sw_iconst (pc' := 2) (v := 1) cx dX10_image_1 iconst_1 rfl ?_
  refine sw_aload_n (pc' := 3) (i := 0) cx dX10_image_2 rfl 0 rfl rfl ?_
  refine sw_get (pc' := 6) cx in_X10 0 rfl rfl 15 (Nat.le_of_ble_eq_true rfl) fl_RX10_32 rfl dX10_image_3 rfl ?_
  obtain ⟨r1, hr1, hf⟩ := bd_s hf
  refine sw_callVw (pc' := 9) (As := [.int (1 : Int32), .ref (h 8)]) (rest := []) (w' := (mo_W h cI cJ r1.1 att fnd tape tmany sort begs tends word valu good bits size shts lent r1.2 befo kept)) cx (k_X10_moveAll_imag l D h cI cJ cK cS row att fnd tape tmany sort begs tends word valu good bits size shts lent imag befo kept (1 : Int32) r1 hr1) pk_yX10_moveAll ml_RX10_249 ⟨rfl, rfl⟩ ⟨(Nat.le_of_ble_eq_true rfl), (Nat.le_of_ble_eq_true rfl)⟩ ⟨(Nat.le_of_ble_eq_true rfl), (Nat.le_of_ble_eq_true rfl)⟩ 0 rfl rfl rfl rfl (Nat.le_of_ble_eq_true rfl) rfl dX10_image_6 rfl ?_
  refine sw_aload_n (pc' := 10) (i := 0) cx dX10_image_9 rfl 0 rfl rfl ?_
  refine sw_iconst (pc' := 11) (v := 1) cx dX10_image_10 iconst_1 rfl ?_
  refine sw_put (pc' := 14) (ws' := (mo_W h cI cJ r1.1 att fnd tape tmany sort begs tends word valu good bits size shts lent r1.2 befo (1 : Int32))) cx in_X10 tyX10 tyX10_ok nmX10 0 rfl rfl 17 (Nat.le_of_ble_eq_true rfl) fl_RX10_269 rfl (by decide +kernel) (by decide +kernel) (Nat.le_of_ble_eq_true rfl) dX10_image_11 rfl rfl ?_
  refine sw_iconst (pc' := 15) (v := 1) cx dX10_image_14 iconst_1 rfl ?_
  obtain rfl := Option.some.inj hf
  exact sw_iret cx hr hQ dX10_image_15
abbrev rm_X10_undo : Room := ({ frames := 1, cells := 0, slots := 0, locals := 23 } : Room)
set_option maxRecDepth 100000 in
set_option maxHeartbeats 4000000 in
theorem k_X10_undo (l : Launch) (D : sf_D) (h : Nat → Nat) (cI cJ cK cS : ClassId) (row : Nat → Int32) (att : Int32) (fnd : Nat → Int32) (tape : Nat → Int32) (tmany : Int32) (sort : Int32) (begs : Int32) (tends : Int32) (word : Int64) (valu : Int32) (good : Int32) (bits : Nat → Int32) (size : Nat → Int32) (shts : Nat → Int64) (lent : Nat → Int64) (imag : Nat → Int32) (befo : Nat → Int32) (kept : Int32)  (res : Int32 × (Nat → Int32) × (Nat → Int32) × (Nat → Int32)) (hf : f_X10_undo row fnd imag kept = some res) : sf_Ct l yX10_undo cX10_undo 1 (some .int) rm_X10_undo D (sf_ty cI cJ cK cS) [.ref (h 0)] (mo_W h cI cJ row att fnd tape tmany sort begs tends word valu good bits size shts lent imag befo kept) (some (.int res.1)) (mo_W h cI cJ res.2.1 att res.2.2.1 tape tmany sort begs tends word valu good bits size shts lent res.2.2.2 befo kept) := by
  refine sf_met (lv := [(0, .ref (h 0))]) (by decide) (Nat.le_of_ble_eq_true rfl) rfl ?_
  intro p e s m args below meth c A Q cx hr hQ
  have cx : sf_Cx p m meth c cX10_undo 1 s args RX10 D (sf_ty cI cJ cK cS) A := cx
  unfold f_X10_undo at hf
  refine sw_aload_n (pc' := 1) (i := 0) cx dX10_undo_0 rfl 0 rfl rfl ?_
  refine sw_get (pc' := 4) cx in_X10 0 rfl rfl 17 (Nat.le_of_ble_eq_true rfl) fl_RX10_269 rfl dX10_undo_1 rfl ?_
  refine sw_if_ne (pc' := 7) (tgt := 14) cx dX10_undo_4 (by decide) rfl (fun c1 => ?_) (fun c1 => ?_)
  · replace hf := it_n c1 hf
    refine sw_aload_n (pc' := 15) (i := 0) cx dX10_undo_14 rfl 0 rfl rfl ?_
    refine sw_iconst (pc' := 16) (v := 0) cx dX10_undo_15 iconst_0 rfl ?_
    refine sw_aload_n (pc' := 17) (i := 0) cx dX10_undo_16 rfl 0 rfl rfl ?_
    refine sw_get (pc' := 20) cx in_X10 0 rfl rfl 15 (Nat.le_of_ble_eq_true rfl) fl_RX10_32 rfl dX10_undo_17 rfl ?_
    obtain ⟨r2, hr2, hf⟩ := bd_s hf
    refine sw_callVw (pc' := 23) (As := [.int (0 : Int32), .ref (h 8)]) (rest := []) (w' := (mo_W h cI cJ r2.1 att fnd tape tmany sort begs tends word valu good bits size shts lent r2.2 befo kept)) cx (k_X10_moveAll_imag l D h cI cJ cK cS row att fnd tape tmany sort begs tends word valu good bits size shts lent imag befo kept (0 : Int32) r2 hr2) pk_yX10_moveAll ml_RX10_249 ⟨rfl, rfl⟩ ⟨(Nat.le_of_ble_eq_true rfl), (Nat.le_of_ble_eq_true rfl)⟩ ⟨(Nat.le_of_ble_eq_true rfl), (Nat.le_of_ble_eq_true rfl)⟩ 0 rfl rfl rfl rfl (Nat.le_of_ble_eq_true rfl) rfl dX10_undo_20 rfl ?_
    refine sw_aload_n (pc' := 24) (i := 0) cx dX10_undo_23 rfl 0 rfl rfl ?_
    refine sw_get (pc' := 27) cx in_X10 0 rfl rfl 0 (Nat.le_of_ble_eq_true rfl) fl_RX10_7 rfl dX10_undo_24 rfl ?_
    refine sw_iconst (pc' := 28) (v := 4) cx dX10_undo_27 iconst_4 rfl ?_
    refine sw_iald (pc' := 29) cx 1 0 rfl rfl vi_4_510 dX10_undo_28 rfl ?_
    obtain rfl := Option.some.inj hf
    exact sw_iret cx hr hQ dX10_undo_29
  · replace hf := it_p c1 hf
    refine sw_aload_n (pc' := 8) (i := 0) cx dX10_undo_7 rfl 0 rfl rfl ?_
    refine sw_ldc (pc' := 10) cx ct_RX10_147 dX10_undo_8 rfl ?_
    obtain ⟨r3, hr3, hf⟩ := bd_s hf
    refine sw_callVw (pc' := 13) (As := [.int (-1000000004 : Int32)]) (rest := []) (w' := (mo_W h cI cJ row att r3.2 tape tmany sort begs tends word valu good bits size shts lent imag befo kept)) cx (k_X10_finds l D h cI cJ cK cS row att fnd tape tmany sort begs tends word valu good bits size shts lent imag befo kept (-1000000004 : Int32) r3 hr3) pk_yX10_finds ml_RX10_63 ⟨rfl, rfl⟩ ⟨(Nat.le_of_ble_eq_true rfl), (Nat.le_of_ble_eq_true rfl)⟩ ⟨(Nat.le_of_ble_eq_true rfl), (Nat.le_of_ble_eq_true rfl)⟩ 0 rfl rfl rfl rfl (Nat.le_of_ble_eq_true rfl) rfl dX10_undo_10 rfl ?_
    obtain rfl := Option.some.inj hf
    exact sw_iret cx hr hQ dX10_undo_13
abbrev rm_X10_tear : Room := ({ frames := 0, cells := 0, slots := 0, locals := 0 } : Room)
set_option maxRecDepth 100000 in
set_option maxHeartbeats 4000000 in
theorem k_X10_tear (l : Launch) (D : sf_D) (h : Nat → Nat) (cI cJ cK cS : ClassId) (row : Nat → Int32) (att : Int32) (fnd : Nat → Int32) (tape : Nat → Int32) (tmany : Int32) (sort : Int32) (begs : Int32) (tends : Int32) (word : Int64) (valu : Int32) (good : Int32) (bits : Nat → Int32) (size : Nat → Int32) (shts : Nat → Int64) (lent : Nat → Int64) (imag : Nat → Int32) (befo : Nat → Int32) (kept : Int32)  (res : Int32 × Int32) (hf : f_X10_tear kept = some res) : sf_Ct l yX10_tear cX10_tear 2 (some .int) rm_X10_tear D (sf_ty cI cJ cK cS) [.ref (h 0)] (mo_W h cI cJ row att fnd tape tmany sort begs tends word valu good bits size shts lent imag befo kept) (some (.int res.1)) (mo_W h cI cJ row att fnd tape tmany sort begs tends word valu good bits size shts lent imag befo res.2) := by
  refine sf_met (lv := [(0, .ref (h 0))]) (by decide) (Nat.le_of_ble_eq_true rfl) rfl ?_
  intro p e s m args below meth c A Q cx hr hQ
  have cx : sf_Cx p m meth c cX10_tear 2 s args RX10 D (sf_ty cI cJ cK cS) A := cx
  have B12 : ∀ (kept : Int32) (s0 : Int32), f_X10_tear_b12 kept s0 = some res → sf_W p l e rm_X10_tear s m args below meth c 0 0 Q 2 D A (mo_W h cI cJ row att fnd tape tmany sort begs tends word valu good bits size shts lent imag befo kept) [(0, .ref (h 0))] 12 [.int s0] := by
    intro kept s0 hf
    unfold f_X10_tear_b12 at hf
    refine sw_istore_n (pc' := 13) (i := 1) (lv' := [(1, .int s0), (0, .ref (h 0))]) cx dX10_tear_12 rfl (Nat.le_of_ble_eq_true rfl) rfl rfl ?_
    refine sw_aload_n (pc' := 14) (i := 0) cx dX10_tear_13 rfl 1 rfl rfl ?_
    refine sw_iconst (pc' := 15) (v := 0) cx dX10_tear_14 iconst_0 rfl ?_
    refine sw_put (pc' := 18) (ws' := (mo_W h cI cJ row att fnd tape tmany sort begs tends word valu good bits size shts lent imag befo (0 : Int32))) cx in_X10 tyX10 tyX10_ok nmX10 0 rfl rfl 17 (Nat.le_of_ble_eq_true rfl) fl_RX10_269 rfl (by decide +kernel) (by decide +kernel) (Nat.le_of_ble_eq_true rfl) dX10_tear_15 rfl rfl ?_
    refine sw_iload_n (pc' := 19) (i := 1) cx dX10_tear_18 rfl 0 rfl rfl ?_
    obtain rfl := Option.some.inj hf
    exact sw_iret cx hr hQ dX10_tear_19
  unfold f_X10_tear at hf
  refine sw_aload_n (pc' := 1) (i := 0) cx dX10_tear_0 rfl 0 rfl rfl ?_
  refine sw_get (pc' := 4) cx in_X10 0 rfl rfl 17 (Nat.le_of_ble_eq_true rfl) fl_RX10_269 rfl dX10_tear_1 rfl ?_
  refine sw_if_eq (pc' := 7) (tgt := 11) cx dX10_tear_4 (by decide) rfl (fun c1 => ?_) (fun c1 => ?_)
  · replace hf := it_p c1 hf
    refine sw_iconst (pc' := 12) (v := 0) cx dX10_tear_11 iconst_0 rfl ?_
    exact sw_lv [0] rfl (B12 kept (0 : Int32) hf)
  · replace hf := it_n c1 hf
    refine sw_iconst (pc' := 8) (v := 1) cx dX10_tear_7 iconst_1 rfl ?_
    refine sw_goto (tgt := 12) cx dX10_tear_8 (by decide) ?_
    exact sw_lv [0] rfl (B12 kept (1 : Int32) hf)
abbrev rm_X10_count : Room := ({ frames := 2, cells := 0, slots := 0, locals := 42 } : Room)
set_option maxRecDepth 100000 in
set_option maxHeartbeats 4000000 in
theorem k_X10_count (l : Launch) (D : sf_D) (h : Nat → Nat) (cI cJ cK cS : ClassId) (row : Nat → Int32) (att : Int32) (fnd : Nat → Int32) (tape : Nat → Int32) (tmany : Int32) (sort : Int32) (begs : Int32) (tends : Int32) (word : Int64) (valu : Int32) (good : Int32) (bits : Nat → Int32) (size : Nat → Int32) (shts : Nat → Int64) (lent : Nat → Int64) (imag : Nat → Int32) (befo : Nat → Int32) (kept : Int32) (a0 : Int32) (res : Int32 × (Nat → Int32)) (hf : f_X10_count row att fnd tmany a0 = some res) : sf_Ct l yX10_count cX10_count 4 (some .int) rm_X10_count D (sf_ty cI cJ cK cS) [.ref (h 0), .int a0] (mo_W h cI cJ row att fnd tape tmany sort begs tends word valu good bits size shts lent imag befo kept) (some (.int res.1)) (mo_W h cI cJ row att res.2 tape tmany sort begs tends word valu good bits size shts lent imag befo kept) := by
  refine sf_met (lv := [(0, .ref (h 0)), (1, .int a0)]) (by decide) (Nat.le_of_ble_eq_true rfl) rfl ?_
  intro p e s m args below meth c A Q cx hr hQ
  have cx : sf_Cx p m meth c cX10_count 4 s args RX10 D (sf_ty cI cJ cK cS) A := cx
  have B74 : ∀ (kk : (Nat → Int32) → Int32 → Int32 → Option (Int32 × (Nat → Int32))), (∀ (fnd : Nat → Int32) (x2 : Int32) (x3 : Int32), kk fnd x2 x3 = some res → sf_W p l e rm_X10_count s m args below meth c 0 0 Q 4 D A (mo_W h cI cJ row att fnd tape tmany sort begs tends word valu good bits size shts lent imag befo kept) [(0, .ref (h 0)), (2, .int x2), (3, .int x3)] 46 []) → ∀ (fnd : Nat → Int32) (x3 : Int32) (s0 : Int32) (s1 : Int32), f_X10_count_b74 row att tmany kk fnd x3 s0 s1 = some res → sf_W p l e rm_X10_count s m args below meth c 0 0 Q 4 D A (mo_W h cI cJ row att fnd tape tmany sort begs tends word valu good bits size shts lent imag befo kept) [(0, .ref (h 0)), (3, .int x3)] 74 [.int s0, .int s1] := by
    intro kk hkk fnd x3 s0 s1 hf
    unfold f_X10_count_b74 at hf
    refine sw_iadd (pc' := 75) cx dX10_count_74 rfl ?_
    refine sw_istore_n (pc' := 76) (i := 2) (lv' := [(2, .int (s1 + s0)), (0, .ref (h 0)), (3, .int x3)]) cx dX10_count_75 rfl (Nat.le_of_ble_eq_true rfl) rfl rfl ?_
    refine sw_iinc (pc' := 79) (v := (x3 + (1 : Int32))) (lv' := [(3, .int (x3 + (1 : Int32))), (2, .int (s1 + s0)), (0, .ref (h 0))]) cx dX10_count_76 2 rfl rfl (Nat.le_of_ble_eq_true rfl) rfl rfl ?_
    refine sw_goto (tgt := 46) cx dX10_count_79 (by decide) ?_
    exact sw_lv [2, 1, 0] rfl (hkk fnd (s1 + s0) (x3 + (1 : Int32)) hf)
  have B46 : ∀ (n : Nat), ∀ (fnd : Nat → Int32) (x2 : Int32) (x3 : Int32), f_X10_count_b46 row att tmany n fnd x2 x3 = some res → sf_W p l e rm_X10_count s m args below meth c 0 0 Q 4 D A (mo_W h cI cJ row att fnd tape tmany sort begs tends word valu good bits size shts lent imag befo kept) [(0, .ref (h 0)), (2, .int x2), (3, .int x3)] 46 [] := by
    intro n
    induction n with
    | zero => intro fnd x2 x3 hf; rw [f_X10_count_b46] at hf; cases hf
    | succ n ih =>
      intro fnd x2 x3 hf
      rw [f_X10_count_b46] at hf
      refine sw_iload_n (pc' := 47) (i := 3) cx dX10_count_46 rfl 2 rfl rfl ?_
      refine sw_bipush (pc' := 49) (v := 40) cx dX10_count_47 bipush_40 rfl ?_
      refine sw_icmp_ge (pc' := 52) (tgt := 82) cx dX10_count_49 (by decide) rfl (fun c6 => ?_) (fun c6 => ?_)
      · replace hf := it_p c6 hf
        refine sw_iload_n (pc' := 83) (i := 2) cx dX10_count_82 rfl 1 rfl rfl ?_
        obtain rfl := Option.some.inj hf
        exact sw_iret cx hr hQ dX10_count_83
      · replace hf := it_n c6 hf
        refine sw_iload_n (pc' := 53) (i := 2) cx dX10_count_52 rfl 1 rfl rfl ?_
        refine sw_aload_n (pc' := 54) (i := 0) cx dX10_count_53 rfl 0 rfl rfl ?_
        refine sw_iload_n (pc' := 55) (i := 3) cx dX10_count_54 rfl 2 rfl rfl ?_
        obtain ⟨r7, hr7, hf⟩ := bd_s hf
        refine sw_callVw (pc' := 58) (As := [.int x3]) (rest := [.int x2]) (w' := (mo_W h cI cJ row att fnd tape tmany sort begs tends word valu good bits size shts lent imag befo kept)) cx (k_X10_isWhole l D h cI cJ cK cS row att fnd tape tmany sort begs tends word valu good bits size shts lent imag befo kept x3 r7 hr7) pk_yX10_isWhole ml_RX10_78 ⟨rfl, rfl⟩ ⟨(Nat.le_of_ble_eq_true rfl), (Nat.le_of_ble_eq_true rfl)⟩ ⟨(Nat.le_of_ble_eq_true rfl), (Nat.le_of_ble_eq_true rfl)⟩ 0 rfl rfl rfl rfl (Nat.le_of_ble_eq_true rfl) rfl dX10_count_55 rfl ?_
        refine sw_if_eq (pc' := 61) (tgt := 73) cx dX10_count_58 (by decide) rfl (fun c8 => ?_) (fun c8 => ?_)
        · replace hf := it_p c8 hf
          refine sw_iconst (pc' := 74) (v := 0) cx dX10_count_73 iconst_0 rfl ?_
          exact sw_lv [0, 2] rfl (B74 _ ih fnd x3 (0 : Int32) x2 hf)
        · replace hf := it_n c8 hf
          refine sw_aload_n (pc' := 62) (i := 0) cx dX10_count_61 rfl 0 rfl rfl ?_
          refine sw_get (pc' := 65) cx in_X10 0 rfl rfl 0 (Nat.le_of_ble_eq_true rfl) fl_RX10_7 rfl dX10_count_62 rfl ?_
          refine sw_bipush (pc' := 67) (v := 85) cx dX10_count_65 bipush_85 rfl ?_
          refine sw_iload_n (pc' := 68) (i := 3) cx dX10_count_67 rfl 2 rfl rfl ?_
          refine sw_iadd (pc' := 69) cx dX10_count_68 rfl ?_
          obtain ⟨h9, hf⟩ := gx_s hf
          refine sw_iald (pc' := 70) cx 1 0 rfl rfl h9 dX10_count_69 rfl ?_
          refine sw_goto (tgt := 74) cx dX10_count_70 (by decide) ?_
          exact sw_lv [0, 2] rfl (B74 _ ih fnd x3 (row (((85 : Int32) + x3)).toNatClampNeg) x2 hf)
  unfold f_X10_count at hf
  refine sw_iconst (pc' := 1) (v := 0) cx dX10_count_0 iconst_0 rfl ?_
  refine sw_istore_n (pc' := 2) (i := 2) (lv' := [(2, .int (0 : Int32)), (0, .ref (h 0)), (1, .int a0)]) cx dX10_count_1 rfl (Nat.le_of_ble_eq_true rfl) rfl rfl ?_
  refine sw_iload_n (pc' := 3) (i := 1) cx dX10_count_2 rfl 2 rfl rfl ?_
  by_cases c1 : a0 = (0 : Int32)
  · replace hf := it_p c1 hf
    refine sw_tableEq (tgt := 32) cx c1 dX10_count_3 (by decide +kernel) (by decide +kernel) rfl (by decide) ?_
    refine sw_aload_n (pc' := 33) (i := 0) cx dX10_count_32 rfl 1 rfl rfl ?_
    refine sw_get (pc' := 36) cx in_X10 0 rfl rfl 0 (Nat.le_of_ble_eq_true rfl) fl_RX10_7 rfl dX10_count_33 rfl ?_
    refine sw_iconst (pc' := 37) (v := 4) cx dX10_count_36 iconst_4 rfl ?_
    refine sw_iald (pc' := 38) cx 1 0 rfl rfl vi_4_510 dX10_count_37 rfl ?_
    obtain rfl := Option.some.inj hf
    exact sw_iret cx hr hQ dX10_count_38
  replace hf := it_n c1 hf
  by_cases c2 : a0 = (1 : Int32)
  · replace hf := it_p c2 hf
    refine sw_tableEq (tgt := 39) cx c2 dX10_count_3 (by decide +kernel) (by decide +kernel) rfl (by decide) ?_
    refine sw_aload_n (pc' := 40) (i := 0) cx dX10_count_39 rfl 1 rfl rfl ?_
    refine sw_get (pc' := 43) cx in_X10 0 rfl rfl 4 (Nat.le_of_ble_eq_true rfl) fl_RX10_154 rfl dX10_count_40 rfl ?_
    obtain rfl := Option.some.inj hf
    exact sw_iret cx hr hQ dX10_count_43
  replace hf := it_n c2 hf
  by_cases c3 : a0 = (2 : Int32)
  · replace hf := it_p c3 hf
    refine sw_tableEq (tgt := 44) cx c3 dX10_count_3 (by decide +kernel) (by decide +kernel) rfl (by decide) ?_
    refine sw_iconst (pc' := 45) (v := 0) cx dX10_count_44 iconst_0 rfl ?_
    refine sw_istore_n (pc' := 46) (i := 3) (lv' := [(3, .int (0 : Int32)), (2, .int (0 : Int32)), (0, .ref (h 0)), (1, .int a0)]) cx dX10_count_45 rfl (Nat.le_of_ble_eq_true rfl) rfl rfl ?_
    exact sw_lv [2, 1, 0] rfl (B46 1000 fnd (0 : Int32) (0 : Int32) hf)
  replace hf := it_n c3 hf
  by_cases c4 : a0 = (3 : Int32)
  · replace hf := it_p c4 hf
    refine sw_tableEq (tgt := 84) cx c4 dX10_count_3 (by decide +kernel) (by decide +kernel) rfl (by decide) ?_
    refine sw_aload_n (pc' := 85) (i := 0) cx dX10_count_84 rfl 1 rfl rfl ?_
    refine sw_get (pc' := 88) cx in_X10 0 rfl rfl 0 (Nat.le_of_ble_eq_true rfl) fl_RX10_7 rfl dX10_count_85 rfl ?_
    refine sw_iconst (pc' := 89) (v := 3) cx dX10_count_88 iconst_3 rfl ?_
    refine sw_iald (pc' := 90) cx 1 0 rfl rfl vi_3_510 dX10_count_89 rfl ?_
    obtain rfl := Option.some.inj hf
    exact sw_iret cx hr hQ dX10_count_90
  replace hf := it_n c4 hf
  refine sw_tableOut (tgt := 91) cx dX10_count_3 (by have := sf_ne (k := 0) c1 (by decide +kernel); have := sf_ne (k := 1) c2 (by decide +kernel); have := sf_ne (k := 2) c3 (by decide +kernel); have := sf_ne (k := 3) c4 (by decide +kernel); omega) (by decide) ?_
  refine sw_aload_n (pc' := 92) (i := 0) cx dX10_count_91 rfl 1 rfl rfl ?_
  refine sw_ldc (pc' := 94) cx ct_RX10_38 dX10_count_92 rfl ?_
  obtain ⟨r5, hr5, hf⟩ := bd_s hf
  refine sw_callVw (pc' := 97) (As := [.int (-1000000001 : Int32)]) (rest := []) (w' := (mo_W h cI cJ row att r5.2 tape tmany sort begs tends word valu good bits size shts lent imag befo kept)) cx (k_X10_finds l D h cI cJ cK cS row att fnd tape tmany sort begs tends word valu good bits size shts lent imag befo kept (-1000000001 : Int32) r5 hr5) pk_yX10_finds ml_RX10_63 ⟨rfl, rfl⟩ ⟨(Nat.le_of_ble_eq_true rfl), (Nat.le_of_ble_eq_true rfl)⟩ ⟨(Nat.le_of_ble_eq_true rfl), (Nat.le_of_ble_eq_true rfl)⟩ 0 rfl rfl rfl rfl (Nat.le_of_ble_eq_true rfl) rfl dX10_count_94 rfl ?_
  obtain rfl := Option.some.inj hf
  exact sw_iret cx hr hQ dX10_count_97
abbrev rm_X10_status : Room := ({ frames := 1, cells := 0, slots := 0, locals := 22 } : Room)
set_option maxRecDepth 100000 in
set_option maxHeartbeats 4000000 in
theorem k_X10_status (l : Launch) (D : sf_D) (h : Nat → Nat) (cI cJ cK cS : ClassId) (row : Nat → Int32) (att : Int32) (fnd : Nat → Int32) (tape : Nat → Int32) (tmany : Int32) (sort : Int32) (begs : Int32) (tends : Int32) (word : Int64) (valu : Int32) (good : Int32) (bits : Nat → Int32) (size : Nat → Int32) (shts : Nat → Int64) (lent : Nat → Int64) (imag : Nat → Int32) (befo : Nat → Int32) (kept : Int32) (a0 : Int32) (res : Int32 × (Nat → Int32)) (hf : f_X10_status fnd a0 = some res) : sf_Ct l yX10_status cX10_status 4 (some .int) rm_X10_status D (sf_ty cI cJ cK cS) [.ref (h 0), .int a0] (mo_W h cI cJ row att fnd tape tmany sort begs tends word valu good bits size shts lent imag befo kept) (some (.int res.1)) (mo_W h cI cJ row att res.2 tape tmany sort begs tends word valu good bits size shts lent imag befo kept) := by
  refine sf_met (lv := [(0, .ref (h 0)), (1, .int a0)]) (by decide) (Nat.le_of_ble_eq_true rfl) rfl ?_
  intro p e s m args below meth c A Q cx hr hQ
  have cx : sf_Cx p m meth c cX10_status 4 s args RX10 D (sf_ty cI cJ cK cS) A := cx
  have B63 : ∀ (fnd : Nat → Int32) (s0 : Int32), f_X10_status_b63 fnd s0 = some res → sf_W p l e rm_X10_status s m args below meth c 0 0 Q 4 D A (mo_W h cI cJ row att fnd tape tmany sort begs tends word valu good bits size shts lent imag befo kept) [] 63 [.int s0, .ref (h 2)] := by
    intro fnd s0 hf
    unfold f_X10_status_b63 at hf
    obtain ⟨h8, hf⟩ := gx_s hf
    refine sw_iald (pc' := 64) cx 2 0 rfl rfl h8 dX10_status_63 rfl ?_
    obtain rfl := Option.some.inj hf
    exact sw_iret cx hr hQ dX10_status_64
  have B21 : ∀ (n : Nat), ∀ (fnd : Nat → Int32) (x1 : Int32) (x2 : Int32) (x3 : Int32), f_X10_status_b21 n fnd x1 x2 x3 = some res → sf_W p l e rm_X10_status s m args below meth c 0 0 Q 4 D A (mo_W h cI cJ row att fnd tape tmany sort begs tends word valu good bits size shts lent imag befo kept) [(0, .ref (h 0)), (1, .int x1), (2, .int x2), (3, .int x3)] 21 [] := by
    intro n
    induction n with
    | zero => intro fnd x1 x2 x3 hf; rw [f_X10_status_b21] at hf; cases hf
    | succ n ih =>
      intro fnd x1 x2 x3 hf
      rw [f_X10_status_b21] at hf
      refine sw_iload_n (pc' := 22) (i := 3) cx dX10_status_21 rfl 3 rfl rfl ?_
      refine sw_bipush (pc' := 24) (v := 7) cx dX10_status_22 bipush_7 rfl ?_
      refine sw_icmp_ge (pc' := 27) (tgt := 42) cx dX10_status_24 (by decide) rfl (fun c4 => ?_) (fun c4 => ?_)
      · replace hf := it_p c4 hf
        refine sw_iload_n (pc' := 43) (i := 1) cx dX10_status_42 rfl 1 rfl rfl ?_
        refine sw_if_ge (pc' := 46) (tgt := 50) cx dX10_status_43 (by decide) rfl (fun c5 => ?_) (fun c5 => ?_)
        · replace hf := it_p c5 hf
          refine sw_aload_n (pc' := 51) (i := 0) cx dX10_status_50 rfl 0 rfl rfl ?_
          refine sw_get (pc' := 54) cx in_X10 0 rfl rfl 2 (Nat.le_of_ble_eq_true rfl) fl_RX10_13 rfl dX10_status_51 rfl ?_
          refine sw_iload_n (pc' := 55) (i := 1) cx dX10_status_54 rfl 1 rfl rfl ?_
          refine sw_if_ge (pc' := 58) (tgt := 62) cx dX10_status_55 (by decide) rfl (fun c6 => ?_) (fun c6 => ?_)
          · replace hf := it_p c6 hf
            refine sw_iload_n (pc' := 63) (i := 1) cx dX10_status_62 rfl 1 rfl rfl ?_
            exact sw_lv [] rfl (B63 fnd x1 hf)
          · replace hf := it_n c6 hf
            refine sw_iconst (pc' := 59) (v := 0) cx dX10_status_58 iconst_0 rfl ?_
            refine sw_goto (tgt := 63) cx dX10_status_59 (by decide) ?_
            exact sw_lv [] rfl (B63 fnd (0 : Int32) hf)
        · replace hf := it_n c5 hf
          refine sw_iload_n (pc' := 47) (i := 2) cx dX10_status_46 rfl 2 rfl rfl ?_
          refine sw_goto (tgt := 64) cx dX10_status_47 (by decide) ?_
          obtain rfl := Option.some.inj hf
          exact sw_iret cx hr hQ dX10_status_64
      · replace hf := it_n c4 hf
        refine sw_iload_n (pc' := 28) (i := 2) cx dX10_status_27 rfl 2 rfl rfl ?_
        refine sw_aload_n (pc' := 29) (i := 0) cx dX10_status_28 rfl 0 rfl rfl ?_
        refine sw_get (pc' := 32) cx in_X10 0 rfl rfl 2 (Nat.le_of_ble_eq_true rfl) fl_RX10_13 rfl dX10_status_29 rfl ?_
        refine sw_iload_n (pc' := 33) (i := 3) cx dX10_status_32 rfl 3 rfl rfl ?_
        obtain ⟨h7, hf⟩ := gx_s hf
        refine sw_iald (pc' := 34) cx 2 0 rfl rfl h7 dX10_status_33 rfl ?_
        refine sw_iadd (pc' := 35) cx dX10_status_34 rfl ?_
        refine sw_istore_n (pc' := 36) (i := 2) (lv' := [(2, .int (x2 + (fnd (x3).toNatClampNeg))), (0, .ref (h 0)), (1, .int x1), (3, .int x3)]) cx dX10_status_35 rfl (Nat.le_of_ble_eq_true rfl) rfl rfl ?_
        refine sw_iinc (pc' := 39) (v := (x3 + (1 : Int32))) (lv' := [(3, .int (x3 + (1 : Int32))), (2, .int (x2 + (fnd (x3).toNatClampNeg))), (0, .ref (h 0)), (1, .int x1)]) cx dX10_status_36 3 rfl rfl (Nat.le_of_ble_eq_true rfl) rfl rfl ?_
        refine sw_goto (tgt := 21) cx dX10_status_39 (by decide) ?_
        exact sw_lv [2, 3, 1, 0] rfl (ih fnd x1 (x2 + (fnd (x3).toNatClampNeg)) (x3 + (1 : Int32)) hf)
  unfold f_X10_status at hf
  refine sw_iload_n (pc' := 1) (i := 1) cx dX10_status_0 rfl 1 rfl rfl ?_
  refine sw_iconst (pc' := 2) (v := -1) cx dX10_status_1 iconst_m1 rfl ?_
  refine sw_bipush (pc' := 4) (v := 6) cx dX10_status_2 bipush_6 rfl ?_
  obtain ⟨r1, hr1, hf⟩ := bd_s hf
  refine sw_callS (pc' := 7) (As := [.int a0, .int (-1 : Int32), .int (6 : Int32)]) (rest := []) cx (k_X10_in l D h cI cJ cK cS a0 (-1 : Int32) (6 : Int32) r1 hr1) pk_yX10_in ml_RX10_47 ⟨rfl, rfl⟩ ⟨(Nat.le_of_ble_eq_true rfl), (Nat.le_of_ble_eq_true rfl)⟩ ⟨(Nat.le_of_ble_eq_true rfl), (Nat.le_of_ble_eq_true rfl)⟩ [] rfl rfl rfl (wn := (mo_W h cI cJ row att fnd tape tmany sort begs tends word valu good bits size shts lent imag befo kept)) rfl rfl (Nat.le_of_ble_eq_true rfl) rfl dX10_status_4 rfl ?_
  refine sw_if_ne (pc' := 10) (tgt := 17) cx dX10_status_7 (by decide) rfl (fun c2 => ?_) (fun c2 => ?_)
  · replace hf := it_n c2 hf
    refine sw_iconst (pc' := 18) (v := 0) cx dX10_status_17 iconst_0 rfl ?_
    refine sw_istore_n (pc' := 19) (i := 2) (lv' := [(2, .int (0 : Int32)), (0, .ref (h 0)), (1, .int a0)]) cx dX10_status_18 rfl (Nat.le_of_ble_eq_true rfl) rfl rfl ?_
    refine sw_iconst (pc' := 20) (v := 0) cx dX10_status_19 iconst_0 rfl ?_
    refine sw_istore_n (pc' := 21) (i := 3) (lv' := [(3, .int (0 : Int32)), (2, .int (0 : Int32)), (0, .ref (h 0)), (1, .int a0)]) cx dX10_status_20 rfl (Nat.le_of_ble_eq_true rfl) rfl rfl ?_
    exact sw_lv [2, 3, 1, 0] rfl (B21 1000 fnd a0 (0 : Int32) (0 : Int32) hf)
  · replace hf := it_p c2 hf
    refine sw_aload_n (pc' := 11) (i := 0) cx dX10_status_10 rfl 0 rfl rfl ?_
    refine sw_ldc (pc' := 13) cx ct_RX10_38 dX10_status_11 rfl ?_
    obtain ⟨r3, hr3, hf⟩ := bd_s hf
    refine sw_callVw (pc' := 16) (As := [.int (-1000000001 : Int32)]) (rest := []) (w' := (mo_W h cI cJ row att r3.2 tape tmany sort begs tends word valu good bits size shts lent imag befo kept)) cx (k_X10_finds l D h cI cJ cK cS row att fnd tape tmany sort begs tends word valu good bits size shts lent imag befo kept (-1000000001 : Int32) r3 hr3) pk_yX10_finds ml_RX10_63 ⟨rfl, rfl⟩ ⟨(Nat.le_of_ble_eq_true rfl), (Nat.le_of_ble_eq_true rfl)⟩ ⟨(Nat.le_of_ble_eq_true rfl), (Nat.le_of_ble_eq_true rfl)⟩ 0 rfl rfl rfl rfl (Nat.le_of_ble_eq_true rfl) rfl dX10_status_13 rfl ?_
    obtain rfl := Option.some.inj hf
    exact sw_iret cx hr hQ dX10_status_16
