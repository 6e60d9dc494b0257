abbrev rm_X10_whose : Room := ({ frames := 2, cells := 0, slots := 0, locals := 45 } : Room)
set_option maxRecDepth 100000 in
set_option maxHeartbeats 4000000 in
theorem k_X10_whose (l : Launch) (D : sf_D) (h : Nat → Nat) (cI cJ cK cS : ClassId) (row : Nat → Int32) (att : Int32) (fnd : Nat → Int32) (tape : Nat → Int32) (tmany : Int32) (sort : Int32) (begs : Int32) (tends : Int32) (word : Int64) (valu : Int32) (good : Int32) (bits : Nat → Int32) (size : Nat → Int32) (shts : Nat → Int64) (lent : Nat → Int64) (imag : Nat → Int32) (befo : Nat → Int32) (kept : Int32) (a0 : Int32) (a1 : Int32) (res : Int32 × (Nat → Int32)) (hf : f_X10_whose row att fnd a0 a1 = some res) : sf_Ct l yX10_whose cX10_whose 5 (some .int) rm_X10_whose D (sf_ty cI cJ cK cS) [.ref (h 0), .int a0, .int a1] (mo_W h cI cJ row att fnd tape tmany sort begs tends word valu good bits size shts lent imag befo kept) (some (.int res.1)) (mo_W h cI cJ row att res.2 tape tmany sort begs tends word valu good bits size shts lent imag befo kept) := by
  refine sf_met (lv := [(0, .ref (h 0)), (1, .int a0), (2, .int a1)]) (by decide) (Nat.le_of_ble_eq_true rfl) rfl ?_
  intro p e s m args below meth c A Q cx hr hQ
  have cx : sf_Cx p m meth c cX10_whose 5 s args RX10 D (sf_ty cI cJ cK cS) A := cx
  have B17 : ∀ (fnd : Nat → Int32), f_X10_whose_b17 row att fnd = some res → sf_W p l e rm_X10_whose s m args below meth c 0 0 Q 5 D A (mo_W h cI cJ row att fnd tape tmany sort begs tends word valu good bits size shts lent imag befo kept) [(0, .ref (h 0))] 17 [] := by
    intro fnd hf
    unfold f_X10_whose_b17 at hf
    refine sw_aload_n (pc' := 18) (i := 0) cx dX10_whose_17 rfl 0 rfl rfl ?_
    refine sw_ldc (pc' := 20) cx ct_RX10_38 dX10_whose_18 rfl ?_
    obtain ⟨r5, hr5, hf⟩ := bd_s hf
    refine sw_callVw (pc' := 23) (As := [.int (-1000000001 : Int32)]) (rest := []) (w' := (mo_W h cI cJ row att r5.2 tape tmany sort begs tends word valu good bits size shts lent imag befo kept)) cx (k_X10_finds l D h cI cJ cK cS row att fnd tape tmany sort begs tends word valu good bits size shts lent imag befo kept (-1000000001 : Int32) r5 hr5) pk_yX10_finds ml_RX10_63 ⟨rfl, rfl⟩ ⟨(Nat.le_of_ble_eq_true rfl), (Nat.le_of_ble_eq_true rfl)⟩ ⟨(Nat.le_of_ble_eq_true rfl), (Nat.le_of_ble_eq_true rfl)⟩ 0 rfl rfl rfl rfl (Nat.le_of_ble_eq_true rfl) rfl dX10_whose_20 rfl ?_
    obtain rfl := Option.some.inj hf
    exact sw_iret cx hr hQ dX10_whose_23
  have B60 : ∀ (kk : (Nat → Int32) → Int32 → Int32 → Int32 → Int32 → Option (Int32 × (Nat → Int32))), (∀ (fnd : Nat → Int32) (x1 : Int32) (x2 : Int32) (x3 : Int32) (x4 : Int32), kk fnd x1 x2 x3 x4 = some res → sf_W p l e rm_X10_whose s m args below meth c 0 0 Q 5 D A (mo_W h cI cJ row att fnd tape tmany sort begs tends word valu good bits size shts lent imag befo kept) [(0, .ref (h 0)), (1, .int x1), (2, .int x2), (3, .int x3), (4, .int x4)] 29 []) → ∀ (fnd : Nat → Int32) (x1 : Int32) (x2 : Int32) (x4 : Int32) (s0 : Int32) (s1 : Int32), f_X10_whose_b60 row att kk fnd x1 x2 x4 s0 s1 = some res → sf_W p l e rm_X10_whose s m args below meth c 0 0 Q 5 D A (mo_W h cI cJ row att fnd tape tmany sort begs tends word valu good bits size shts lent imag befo kept) [(0, .ref (h 0)), (1, .int x1), (2, .int x2), (4, .int x4)] 60 [.int s0, .int s1] := by
    intro kk hkk fnd x1 x2 x4 s0 s1 hf
    unfold f_X10_whose_b60 at hf
    refine sw_ior (pc' := 61) cx dX10_whose_60 rfl ?_
    refine sw_istore_n (pc' := 62) (i := 3) (lv' := [(3, .int (s1 ||| s0)), (0, .ref (h 0)), (1, .int x1), (2, .int x2), (4, .int x4)]) cx dX10_whose_61 rfl (Nat.le_of_ble_eq_true rfl) rfl rfl ?_
    refine sw_iinc (pc' := 65) (v := (x4 + (1 : Int32))) (lv' := [(4, .int (x4 + (1 : Int32))), (3, .int (s1 ||| s0)), (0, .ref (h 0)), (1, .int x1), (2, .int x2)]) cx dX10_whose_62 4 rfl rfl (Nat.le_of_ble_eq_true rfl) rfl rfl ?_
    refine sw_goto (tgt := 29) cx dX10_whose_65 (by decide) ?_
    exact sw_lv [2, 3, 4, 1, 0] rfl (hkk fnd x1 x2 (s1 ||| s0) (x4 + (1 : Int32)) hf)
  have B29 : ∀ (n : Nat), ∀ (fnd : Nat → Int32) (x1 : Int32) (x2 : Int32) (x3 : Int32) (x4 : Int32), f_X10_whose_b29 row att n fnd x1 x2 x3 x4 = some res → sf_W p l e rm_X10_whose s m args below meth c 0 0 Q 5 D A (mo_W h cI cJ row att fnd tape tmany sort begs tends word valu good bits size shts lent imag befo kept) [(0, .ref (h 0)), (1, .int x1), (2, .int x2), (3, .int x3), (4, .int x4)] 29 [] := by
    intro n
    induction n with
    | zero => intro fnd x1 x2 x3 x4 hf; rw [f_X10_whose_b29] at hf; cases hf
    | succ n ih =>
      intro fnd x1 x2 x3 x4 hf
      rw [f_X10_whose_b29] at hf
      refine sw_iload (pc' := 31) (i := 4) cx dX10_whose_29 4 rfl rfl ?_
      refine sw_aload_n (pc' := 32) (i := 0) cx dX10_whose_31 rfl 0 rfl rfl ?_
      refine sw_get (pc' := 35) cx in_X10 0 rfl rfl 0 (Nat.le_of_ble_eq_true rfl) fl_RX10_7 rfl dX10_whose_32 rfl ?_
      refine sw_iconst (pc' := 36) (v := 4) cx dX10_whose_35 iconst_4 rfl ?_
      refine sw_iald (pc' := 37) cx 1 0 rfl rfl vi_4_510 dX10_whose_36 rfl ?_
      refine sw_icmp_ge (pc' := 40) (tgt := 68) cx dX10_whose_37 (by decide) rfl (fun c6 => ?_) (fun c6 => ?_)
      · replace hf := it_p c6 hf
        refine sw_iload_n (pc' := 69) (i := 3) cx dX10_whose_68 rfl 3 rfl rfl ?_
        obtain rfl := Option.some.inj hf
        exact sw_iret cx hr hQ dX10_whose_69
      · replace hf := it_n c6 hf
        refine sw_iload_n (pc' := 41) (i := 3) cx dX10_whose_40 rfl 3 rfl rfl ?_
        refine sw_aload_n (pc' := 42) (i := 0) cx dX10_whose_41 rfl 0 rfl rfl ?_
        refine sw_iload (pc' := 44) (i := 4) cx dX10_whose_42 4 rfl rfl ?_
        refine sw_iload_n (pc' := 45) (i := 1) cx dX10_whose_44 rfl 1 rfl rfl ?_
        obtain ⟨r7, hr7, hf⟩ := bd_s hf
        refine sw_callVw (pc' := 48) (As := [.int x4, .int x1]) (rest := [.int x3]) (w' := (mo_W h cI cJ row att fnd tape tmany sort begs tends word valu good bits size shts lent imag befo kept)) cx (k_X10_highAt l D h cI cJ cK cS row att fnd tape tmany sort begs tends word valu good bits size shts lent imag befo kept x4 x1 r7 hr7) pk_yX10_highAt ml_RX10_87 ⟨rfl, rfl⟩ ⟨(Nat.le_of_ble_eq_true rfl), (Nat.le_of_ble_eq_true rfl)⟩ ⟨(Nat.le_of_ble_eq_true rfl), (Nat.le_of_ble_eq_true rfl)⟩ 0 rfl rfl rfl rfl (Nat.le_of_ble_eq_true rfl) rfl dX10_whose_45 rfl ?_
        refine sw_iload_n (pc' := 49) (i := 2) cx dX10_whose_48 rfl 2 rfl rfl ?_
        refine sw_icmp_ne (pc' := 52) (tgt := 59) cx dX10_whose_49 (by decide) rfl (fun c8 => ?_) (fun c8 => ?_)
        · replace hf := it_n c8 hf
          refine sw_iconst (pc' := 60) (v := 0) cx dX10_whose_59 iconst_0 rfl ?_
          exact sw_lv [0, 1, 2, 4] rfl (B60 _ ih fnd x1 x2 x4 (0 : Int32) x3 hf)
        · replace hf := it_p c8 hf
          refine sw_iconst (pc' := 53) (v := 1) cx dX10_whose_52 iconst_1 rfl ?_
          refine sw_iload (pc' := 55) (i := 4) cx dX10_whose_53 4 rfl rfl ?_
          refine sw_ishl (pc' := 56) cx dX10_whose_55 rfl ?_
          refine sw_goto (tgt := 60) cx dX10_whose_56 (by decide) ?_
          exact sw_lv [0, 1, 2, 4] rfl (B60 _ ih fnd x1 x2 x4 ((1 : Int32) <<< (x4 &&& 31)) x3 hf)
  unfold f_X10_whose at hf
  refine sw_iload_n (pc' := 1) (i := 1) cx dX10_whose_0 rfl 1 rfl rfl ?_
  obtain ⟨r1, hr1, hf⟩ := bd_s hf
  refine sw_callS (pc' := 4) (As := [.int a0]) (rest := []) cx (k_X10_isPlace l D h cI cJ cK cS a0 r1 hr1) pk_yX10_isPlace ml_RX10_59 ⟨rfl, rfl⟩ ⟨(Nat.le_of_ble_eq_true rfl), (Nat.le_of_ble_eq_true rfl)⟩ ⟨(Nat.le_of_ble_eq_true rfl), (Nat.le_of_ble_eq_true rfl)⟩ [] rfl rfl rfl (wn := (mo_W h cI cJ row att fnd tape tmany sort begs tends word valu good bits size shts lent imag befo kept)) rfl rfl (Nat.le_of_ble_eq_true rfl) rfl dX10_whose_1 rfl ?_
  refine sw_if_eq (pc' := 7) (tgt := 17) cx dX10_whose_4 (by decide) rfl (fun c2 => ?_) (fun c2 => ?_)
  · replace hf := it_p c2 hf
    exact sw_lv [0] rfl (B17 fnd hf)
  · replace hf := it_n c2 hf
    refine sw_iload_n (pc' := 8) (i := 2) cx dX10_whose_7 rfl 2 rfl rfl ?_
    refine sw_iconst (pc' := 9) (v := 0) cx dX10_whose_8 iconst_0 rfl ?_
    refine sw_bipush (pc' := 11) (v := 40) cx dX10_whose_9 bipush_40 rfl ?_
    obtain ⟨r3, hr3, hf⟩ := bd_s hf
    refine sw_callS (pc' := 14) (As := [.int a1, .int (0 : Int32), .int (40 : Int32)]) (rest := []) cx (k_X10_in l D h cI cJ cK cS a1 (0 : Int32) (40 : Int32) r3 hr3) pk_yX10_in ml_RX10_47 ⟨rfl, rfl⟩ ⟨(Nat.le_of_ble_eq_true rfl), (Nat.le_of_ble_eq_true rfl)⟩ ⟨(Nat.le_of_ble_eq_true rfl), (Nat.le_of_ble_eq_true rfl)⟩ [] rfl rfl rfl (wn := (mo_W h cI cJ row att fnd tape tmany sort begs tends word valu good bits size shts lent imag befo kept)) rfl rfl (Nat.le_of_ble_eq_true rfl) rfl dX10_whose_11 rfl ?_
    refine sw_if_ne (pc' := 17) (tgt := 24) cx dX10_whose_14 (by decide) rfl (fun c4 => ?_) (fun c4 => ?_)
    · replace hf := it_n c4 hf
      refine sw_iconst (pc' := 25) (v := 0) cx dX10_whose_24 iconst_0 rfl ?_
      refine sw_istore_n (pc' := 26) (i := 3) (lv' := [(3, .int (0 : Int32)), (0, .ref (h 0)), (1, .int a0), (2, .int a1)]) cx dX10_whose_25 rfl (Nat.le_of_ble_eq_true rfl) rfl rfl ?_
      refine sw_iconst (pc' := 27) (v := 0) cx dX10_whose_26 iconst_0 rfl ?_
      refine sw_istore (pc' := 29) (i := 4) (lv' := [(4, .int (0 : Int32)), (3, .int (0 : Int32)), (0, .ref (h 0)), (1, .int a0), (2, .int a1)]) cx dX10_whose_27 (Nat.le_of_ble_eq_true rfl) rfl rfl ?_
      exact sw_lv [2, 3, 4, 1, 0] rfl (B29 1000 fnd a0 a1 (0 : Int32) (0 : Int32) hf)
    · replace hf := it_p c4 hf
      exact sw_lv [0] rfl (B17 fnd hf)
abbrev rm_X10_bears : Room := ({ frames := 7, cells := 0, slots := 0, locals := 154 } : Room)
set_option maxRecDepth 100000 in
set_option maxHeartbeats 4000000 in
theorem k_X10_bears (l : Launch) (D : sf_D) (h : Nat → Nat) (cI cJ cK cS : ClassId) (row : Nat → Int32) (att : Int32) (fnd : Nat → Int32) (tape : Nat → Int32) (tmany : Int32) (sort : Int32) (begs : Int32) (tends : Int32) (word : Int64) (valu : Int32) (good : Int32) (bits : Nat → Int32) (size : Nat → Int32) (shts : Nat → Int64) (lent : Nat → Int64) (imag : Nat → Int32) (befo : Nat → Int32) (kept : Int32) (a0 : Int32) (res : Int32 × (Nat → Int32) × Int32 × (Nat → Int32)) (hf : f_X10_bears row att fnd a0 = some res) : sf_Ct l yX10_bears cX10_bears 4 (some .int) rm_X10_bears D (sf_ty cI cJ cK cS) [.ref (h 0), .int a0] (mo_W h cI cJ row att fnd tape tmany sort begs tends word valu good bits size shts lent imag befo kept) (some (.int res.1)) (mo_W h cI cJ res.2.1 res.2.2.1 res.2.2.2 tape tmany sort begs tends word valu good bits size shts lent imag befo kept) := by
  refine sf_met (lv := [(0, .ref (h 0)), (1, .int a0)]) (by decide) (Nat.le_of_ble_eq_true rfl) rfl ?_
  intro p e s m args below meth c A Q cx hr hQ
  have cx : sf_Cx p m meth c cX10_bears 4 s args RX10 D (sf_ty cI cJ cK cS) A := cx
  have B74 : ∀ (kk : (Nat → Int32) → Int32 → (Nat → Int32) → Int32 → Int32 → Int32 → Option (Int32 × (Nat → Int32) × Int32 × (Nat → Int32))), (∀ (row : Nat → Int32) (att : Int32) (fnd : Nat → Int32) (x1 : Int32) (x2 : Int32) (x3 : Int32), kk row att fnd x1 x2 x3 = some res → sf_W p l e rm_X10_bears s m args below meth c 0 0 Q 4 D A (mo_W h cI cJ row att fnd tape tmany sort begs tends word valu good bits size shts lent imag befo kept) [(0, .ref (h 0)), (1, .int x1), (2, .int x2), (3, .int x3)] 37 []) → ∀ (row : Nat → Int32) (att : Int32) (fnd : Nat → Int32) (x1 : Int32) (x3 : Int32) (s0 : Int32), f_X10_bears_b74 kk row att fnd x1 x3 s0 = some res → sf_W p l e rm_X10_bears s m args below meth c 0 0 Q 4 D A (mo_W h cI cJ row att fnd tape tmany sort begs tends word valu good bits size shts lent imag befo kept) [(0, .ref (h 0)), (1, .int x1), (3, .int x3)] 74 [.int s0] := by
    intro kk hkk row att fnd x1 x3 s0 hf
    unfold f_X10_bears_b74 at hf
    refine sw_istore_n (pc' := 75) (i := 2) (lv' := [(2, .int s0), (0, .ref (h 0)), (1, .int x1), (3, .int x3)]) cx dX10_bears_74 rfl (Nat.le_of_ble_eq_true rfl) rfl rfl ?_
    refine sw_iinc (pc' := 78) (v := (x3 + (1 : Int32))) (lv' := [(3, .int (x3 + (1 : Int32))), (2, .int s0), (0, .ref (h 0)), (1, .int x1)]) cx dX10_bears_75 3 rfl rfl (Nat.le_of_ble_eq_true rfl) rfl rfl ?_
    refine sw_goto (tgt := 37) cx dX10_bears_78 (by decide) ?_
    exact sw_lv [2, 3, 1, 0] rfl (hkk row att fnd x1 s0 (x3 + (1 : Int32)) hf)
  have B37 : ∀ (n : Nat), ∀ (row : Nat → Int32) (att : Int32) (fnd : Nat → Int32) (x1 : Int32) (x2 : Int32) (x3 : Int32), f_X10_bears_b37 n row att fnd x1 x2 x3 = some res → sf_W p l e rm_X10_bears s m args below meth c 0 0 Q 4 D A (mo_W h cI cJ row att fnd tape tmany sort begs tends word valu good bits size shts lent imag befo kept) [(0, .ref (h 0)), (1, .int x1), (2, .int x2), (3, .int x3)] 37 [] := by
    intro n
    induction n with
    | zero => intro row att fnd x1 x2 x3 hf; rw [f_X10_bears_b37] at hf; cases hf
    | succ n ih =>
      intro row att fnd x1 x2 x3 hf
      rw [f_X10_bears_b37] at hf
      refine sw_iload_n (pc' := 38) (i := 3) cx dX10_bears_37 rfl 3 rfl rfl ?_
      refine sw_bipush (pc' := 40) (v := 10) cx dX10_bears_38 bipush_10 rfl ?_
      refine sw_icmp_ge (pc' := 43) (tgt := 81) cx dX10_bears_40 (by decide) rfl (fun c7 => ?_) (fun c7 => ?_)
      · replace hf := it_p c7 hf
        refine sw_iload_n (pc' := 82) (i := 2) cx dX10_bears_81 rfl 2 rfl rfl ?_
        refine sw_if_ge (pc' := 85) (tgt := 94) cx dX10_bears_82 (by decide) rfl (fun c8 => ?_) (fun c8 => ?_)
        · replace hf := it_p c8 hf
          refine sw_iload_n (pc' := 95) (i := 2) cx dX10_bears_94 rfl 2 rfl rfl ?_
          obtain rfl := Option.some.inj hf
          exact sw_iret cx hr hQ dX10_bears_95
        · replace hf := it_n c8 hf
          refine sw_aload_n (pc' := 86) (i := 0) cx dX10_bears_85 rfl 0 rfl rfl ?_
          refine sw_ldc (pc' := 88) cx ct_RX10_147 dX10_bears_86 rfl ?_
          obtain ⟨r9, hr9, hf⟩ := bd_s hf
          refine sw_callVw (pc' := 91) (As := [.int (-1000000004 : Int32)]) (rest := []) (w' := (mo_W h cI cJ row att r9.2 tape tmany sort begs tends word valu good bits size shts lent imag befo kept)) cx (k_X10_finds l D h cI cJ cK cS row att fnd tape tmany sort begs tends word valu good bits size shts lent imag befo kept (-1000000004 : Int32) r9 hr9) pk_yX10_finds ml_RX10_63 ⟨rfl, rfl⟩ ⟨(Nat.le_of_ble_eq_true rfl), (Nat.le_of_ble_eq_true rfl)⟩ ⟨(Nat.le_of_ble_eq_true rfl), (Nat.le_of_ble_eq_true rfl)⟩ 0 rfl rfl rfl rfl (Nat.le_of_ble_eq_true rfl) rfl dX10_bears_88 rfl ?_
          refine sw_goto (tgt := 95) cx dX10_bears_91 (by decide) ?_
          obtain rfl := Option.some.inj hf
          exact sw_iret cx hr hQ dX10_bears_95
      · replace hf := it_n c7 hf
        refine sw_aload_n (pc' := 44) (i := 0) cx dX10_bears_43 rfl 0 rfl rfl ?_
        obtain ⟨r10, hr10, hf⟩ := bd_s hf
        refine sw_callVw (pc' := 47) (As := []) (rest := []) (w' := (mo_W h cI cJ r10.1 r10.2 fnd tape tmany sort begs tends word valu good bits size shts lent imag befo kept)) cx (k_X10_lends l D h cI cJ cK cS row att fnd tape tmany sort begs tends word valu good bits size shts lent imag befo kept  r10 hr10) pk_yX10_lends ml_RX10_144 ⟨rfl, rfl⟩ ⟨(Nat.le_of_ble_eq_true rfl), (Nat.le_of_ble_eq_true rfl)⟩ ⟨(Nat.le_of_ble_eq_true rfl), (Nat.le_of_ble_eq_true rfl)⟩ 0 rfl rfl rfl rfl (Nat.le_of_ble_eq_true rfl) rfl dX10_bears_44 rfl ?_
        refine sw_aload_n (pc' := 48) (i := 0) cx dX10_bears_47 rfl 0 rfl rfl ?_
        refine sw_get (pc' := 51) cx in_X10 0 rfl rfl 0 (Nat.le_of_ble_eq_true rfl) fl_RX10_7 rfl dX10_bears_48 rfl ?_
        refine sw_aload_n (pc' := 52) (i := 0) cx dX10_bears_51 rfl 0 rfl rfl ?_
        refine sw_get (pc' := 55) cx in_X10 0 rfl rfl 1 (Nat.le_of_ble_eq_true rfl) fl_RX10_39 rfl dX10_bears_52 rfl ?_
        refine sw_iconst (pc' := 56) (v := 1) cx dX10_bears_55 iconst_1 rfl ?_
        refine sw_iadd (pc' := 57) cx dX10_bears_56 rfl ?_
        refine sw_iload_n (pc' := 58) (i := 3) cx dX10_bears_57 rfl 3 rfl rfl ?_
        obtain ⟨h11, hf⟩ := gx_s hf
        refine sw_iast (pc' := 59) (ws' := (mo_W h cI cJ (upd r10.1 ((r10.2 + (1 : Int32))).toNatClampNeg x3) r10.2 fnd tape tmany sort begs tends word valu good bits size shts lent imag befo kept)) cx 1 0 rfl rfl h11 dX10_bears_58 rfl rfl ?_
        refine sw_aload_n (pc' := 60) (i := 0) cx dX10_bears_59 rfl 0 rfl rfl ?_
        refine sw_iload_n (pc' := 61) (i := 1) cx dX10_bears_60 rfl 1 rfl rfl ?_
        obtain ⟨r12, hr12, hf⟩ := bd_s hf
        refine sw_callVw (pc' := 64) (As := [.int x1]) (rest := []) (w' := (mo_W h cI cJ r12.2.1 r12.2.2 fnd tape tmany sort begs tends word valu good bits size shts lent imag befo kept)) cx (k_X10_reachThen l D h cI cJ cK cS (upd r10.1 ((r10.2 + (1 : Int32))).toNatClampNeg x3) r10.2 fnd tape tmany sort begs tends word valu good bits size shts lent imag befo kept x1 r12 hr12) pk_yX10_reachThen ml_RX10_151 ⟨rfl, rfl⟩ ⟨(Nat.le_of_ble_eq_true rfl), (Nat.le_of_ble_eq_true rfl)⟩ ⟨(Nat.le_of_ble_eq_true rfl), (Nat.le_of_ble_eq_true rfl)⟩ 0 rfl rfl rfl rfl (Nat.le_of_ble_eq_true rfl) rfl dX10_bears_61 rfl ?_
        refine sw_bipush (pc' := 66) (v := 40) cx dX10_bears_64 bipush_40 rfl ?_
        refine sw_icmp_ne (pc' := 69) (tgt := 73) cx dX10_bears_66 (by decide) rfl (fun c13 => ?_) (fun c13 => ?_)
        · replace hf := it_n c13 hf
          refine sw_iload_n (pc' := 74) (i := 2) cx dX10_bears_73 rfl 2 rfl rfl ?_
          exact sw_lv [0, 1, 3] rfl (B74 _ ih r12.2.1 r12.2.2 fnd x1 x3 x2 hf)
        · replace hf := it_p c13 hf
          refine sw_iload_n (pc' := 70) (i := 3) cx dX10_bears_69 rfl 3 rfl rfl ?_
          refine sw_goto (tgt := 74) cx dX10_bears_70 (by decide) ?_
          exact sw_lv [0, 1, 3] rfl (B74 _ ih r12.2.1 r12.2.2 fnd x1 x3 x3 hf)
  unfold f_X10_bears at hf
  refine sw_iload_n (pc' := 1) (i := 1) cx dX10_bears_0 rfl 1 rfl rfl ?_
  refine sw_iconst (pc' := 2) (v := 1) cx dX10_bears_1 iconst_1 rfl ?_
  refine sw_sipush (pc' := 5) (v := 200) cx dX10_bears_2 sipush_200 rfl ?_
  obtain ⟨r1, hr1, hf⟩ := bd_s hf
  refine sw_callS (pc' := 8) (As := [.int a0, .int (1 : Int32), .int (200 : Int32)]) (rest := []) cx (k_X10_in l D h cI cJ cK cS a0 (1 : Int32) (200 : Int32) r1 hr1) pk_yX10_in ml_RX10_47 ⟨rfl, rfl⟩ ⟨(Nat.le_of_ble_eq_true rfl), (Nat.le_of_ble_eq_true rfl)⟩ ⟨(Nat.le_of_ble_eq_true rfl), (Nat.le_of_ble_eq_true rfl)⟩ [] rfl rfl rfl (wn := (mo_W h cI cJ row att fnd tape tmany sort begs tends word valu good bits size shts lent imag befo kept)) rfl rfl (Nat.le_of_ble_eq_true rfl) rfl dX10_bears_5 rfl ?_
  refine sw_if_ne (pc' := 11) (tgt := 18) cx dX10_bears_8 (by decide) rfl (fun c2 => ?_) (fun c2 => ?_)
  · replace hf := it_n c2 hf
    refine sw_aload_n (pc' := 19) (i := 0) cx dX10_bears_18 rfl 0 rfl rfl ?_
    refine sw_iload_n (pc' := 20) (i := 1) cx dX10_bears_19 rfl 1 rfl rfl ?_
    obtain ⟨r3, hr3, hf⟩ := bd_s hf
    refine sw_callVw (pc' := 23) (As := [.int a0]) (rest := []) (w' := (mo_W h cI cJ row att fnd tape tmany sort begs tends word valu good bits size shts lent imag befo kept)) cx (k_X10_isLate l D h cI cJ cK cS row att fnd tape tmany sort begs tends word valu good bits size shts lent imag befo kept a0 r3 hr3) pk_yX10_isLate ml_RX10_135 ⟨rfl, rfl⟩ ⟨(Nat.le_of_ble_eq_true rfl), (Nat.le_of_ble_eq_true rfl)⟩ ⟨(Nat.le_of_ble_eq_true rfl), (Nat.le_of_ble_eq_true rfl)⟩ 0 rfl rfl rfl rfl (Nat.le_of_ble_eq_true rfl) rfl dX10_bears_20 rfl ?_
    refine sw_if_eq (pc' := 26) (tgt := 33) cx dX10_bears_23 (by decide) rfl (fun c4 => ?_) (fun c4 => ?_)
    · replace hf := it_p c4 hf
      refine sw_iconst (pc' := 34) (v := -1) cx dX10_bears_33 iconst_m1 rfl ?_
      refine sw_istore_n (pc' := 35) (i := 2) (lv' := [(2, .int (-1 : Int32)), (0, .ref (h 0)), (1, .int a0)]) cx dX10_bears_34 rfl (Nat.le_of_ble_eq_true rfl) rfl rfl ?_
      refine sw_iconst (pc' := 36) (v := 0) cx dX10_bears_35 iconst_0 rfl ?_
      refine sw_istore_n (pc' := 37) (i := 3) (lv' := [(3, .int (0 : Int32)), (2, .int (-1 : Int32)), (0, .ref (h 0)), (1, .int a0)]) cx dX10_bears_36 rfl (Nat.le_of_ble_eq_true rfl) rfl rfl ?_
      exact sw_lv [2, 3, 1, 0] rfl (B37 1000 row att fnd a0 (-1 : Int32) (0 : Int32) hf)
    · replace hf := it_n c4 hf
      refine sw_aload_n (pc' := 27) (i := 0) cx dX10_bears_26 rfl 0 rfl rfl ?_
      refine sw_ldc (pc' := 29) cx ct_RX10_101 dX10_bears_27 rfl ?_
      obtain ⟨r5, hr5, hf⟩ := bd_s hf
      refine sw_callVw (pc' := 32) (As := [.int (-1000000005 : Int32)]) (rest := []) (w' := (mo_W h cI cJ row att r5.2 tape tmany sort begs tends word valu good bits size shts lent imag befo kept)) cx (k_X10_finds l D h cI cJ cK cS row att fnd tape tmany sort begs tends word valu good bits size shts lent imag befo kept (-1000000005 : Int32) r5 hr5) pk_yX10_finds ml_RX10_63 ⟨rfl, rfl⟩ ⟨(Nat.le_of_ble_eq_true rfl), (Nat.le_of_ble_eq_true rfl)⟩ ⟨(Nat.le_of_ble_eq_true rfl), (Nat.le_of_ble_eq_true rfl)⟩ 0 rfl rfl rfl rfl (Nat.le_of_ble_eq_true rfl) rfl dX10_bears_29 rfl ?_
      obtain rfl := Option.some.inj hf
      exact sw_iret cx hr hQ dX10_bears_32
  · replace hf := it_p c2 hf
    refine sw_aload_n (pc' := 12) (i := 0) cx dX10_bears_11 rfl 0 rfl rfl ?_
    refine sw_ldc (pc' := 14) cx ct_RX10_38 dX10_bears_12 rfl ?_
    obtain ⟨r6, hr6, hf⟩ := bd_s hf
    refine sw_callVw (pc' := 17) (As := [.int (-1000000001 : Int32)]) (rest := []) (w' := (mo_W h cI cJ row att r6.2 tape tmany sort begs tends word valu good bits size shts lent imag befo kept)) cx (k_X10_finds l D h cI cJ cK cS row att fnd tape tmany sort begs tends word valu good bits size shts lent imag befo kept (-1000000001 : Int32) r6 hr6) pk_yX10_finds ml_RX10_63 ⟨rfl, rfl⟩ ⟨(Nat.le_of_ble_eq_true rfl), (Nat.le_of_ble_eq_true rfl)⟩ ⟨(Nat.le_of_ble_eq_true rfl), (Nat.le_of_ble_eq_true rfl)⟩ 0 rfl rfl rfl rfl (Nat.le_of_ble_eq_true rfl) rfl dX10_bears_14 rfl ?_
    obtain rfl := Option.some.inj hf
    exact sw_iret cx hr hQ dX10_bears_17
abbrev rm_X10_meetsFor : Room := ({ frames := 4, cells := 0, slots := 0, locals := 84 } : Room)
set_option maxRecDepth 100000 in
set_option maxHeartbeats 4000000 in
theorem k_X10_meetsFor (l : Launch) (D : sf_D) (h : Nat → Nat) (cI cJ cK cS : ClassId) (row : Nat → Int32) (att : Int32) (fnd : Nat → Int32) (tape : Nat → Int32) (tmany : Int32) (sort : Int32) (begs : Int32) (tends : Int32) (word : Int64) (valu : Int32) (good : Int32) (bits : Nat → Int32) (size : Nat → Int32) (shts : Nat → Int64) (lent : Nat → Int64) (imag : Nat → Int32) (befo : Nat → Int32) (kept : Int32) (a0 : Int32) (res : Int32 × (Nat → Int32) × (Nat → Int32)) (hf : f_X10_meetsFor row att fnd a0 = some res) : sf_Ct l yX10_meetsFor cX10_meetsFor 5 (some .int) rm_X10_meetsFor D (sf_ty cI cJ cK cS) [.ref (h 0), .int a0] (mo_W h cI cJ row att fnd tape tmany sort begs tends word valu good bits size shts lent imag befo kept) (some (.int res.1)) (mo_W h cI cJ res.2.1 att res.2.2 tape tmany sort begs tends word valu good bits size shts lent imag befo kept) := by
  refine sf_met (lv := [(0, .ref (h 0)), (1, .int a0)]) (by decide) (Nat.le_of_ble_eq_true rfl) rfl ?_
  intro p e s m args below meth c A Q cx hr hQ
  have cx : sf_Cx p m meth c cX10_meetsFor 5 s args RX10 D (sf_ty cI cJ cK cS) A := cx
  have B74 : ∀ (kk : (Nat → Int32) → (Nat → Int32) → Int32 → Int32 → Int32 → Int32 → Option (Int32 × (Nat → Int32) × (Nat → Int32))), (∀ (row : Nat → Int32) (fnd : Nat → Int32) (x1 : Int32) (x2 : Int32) (x3 : Int32) (x4 : Int32), kk row fnd x1 x2 x3 x4 = some res → sf_W p l e rm_X10_meetsFor s m args below meth c 0 0 Q 5 D A (mo_W h cI cJ row att fnd tape tmany sort begs tends word valu good bits size shts lent imag befo kept) [(0, .ref (h 0)), (1, .int x1), (2, .int x2), (3, .int x3), (4, .int x4)] 29 []) → ∀ (row : Nat → Int32) (fnd : Nat → Int32) (x1 : Int32) (x2 : Int32) (x4 : Int32) (s0 : Int32), f_X10_meetsFor_b74 att kk row fnd x1 x2 x4 s0 = some res → sf_W p l e rm_X10_meetsFor s m args below meth c 0 0 Q 5 D A (mo_W h cI cJ row att fnd tape tmany sort begs tends word valu good bits size shts lent imag befo kept) [(0, .ref (h 0)), (1, .int x1), (2, .int x2), (4, .int x4)] 74 [.int s0] := by
    intro kk hkk row fnd x1 x2 x4 s0 hf
    unfold f_X10_meetsFor_b74 at hf
    refine sw_istore_n (pc' := 75) (i := 3) (lv' := [(3, .int s0), (0, .ref (h 0)), (1, .int x1), (2, .int x2), (4, .int x4)]) cx dX10_meetsFor_74 rfl (Nat.le_of_ble_eq_true rfl) rfl rfl ?_
    refine sw_goto (tgt := 29) cx dX10_meetsFor_75 (by decide) ?_
    exact sw_lv [1, 2, 3, 0, 4] rfl (hkk row fnd x1 x2 s0 x4 hf)
  have B60 : ∀ (kk : (Nat → Int32) → (Nat → Int32) → Int32 → Int32 → Int32 → Int32 → Option (Int32 × (Nat → Int32) × (Nat → Int32))), (∀ (row : Nat → Int32) (fnd : Nat → Int32) (x1 : Int32) (x2 : Int32) (x3 : Int32) (x4 : Int32), kk row fnd x1 x2 x3 x4 = some res → sf_W p l e rm_X10_meetsFor s m args below meth c 0 0 Q 5 D A (mo_W h cI cJ row att fnd tape tmany sort begs tends word valu good bits size shts lent imag befo kept) [(0, .ref (h 0)), (1, .int x1), (2, .int x2), (3, .int x3), (4, .int x4)] 29 []) → ∀ (row : Nat → Int32) (fnd : Nat → Int32) (x1 : Int32) (x2 : Int32) (x3 : Int32) (s0 : Int32), f_X10_meetsFor_b60 att kk row fnd x1 x2 x3 s0 = some res → sf_W p l e rm_X10_meetsFor s m args below meth c 0 0 Q 5 D A (mo_W h cI cJ row att fnd tape tmany sort begs tends word valu good bits size shts lent imag befo kept) [(0, .ref (h 0)), (1, .int x1), (2, .int x2), (3, .int x3)] 60 [.int s0] := by
    intro kk hkk row fnd x1 x2 x3 s0 hf
    unfold f_X10_meetsFor_b60 at hf
    refine sw_istore (pc' := 62) (i := 4) (lv' := [(4, .int s0), (0, .ref (h 0)), (1, .int x1), (2, .int x2), (3, .int x3)]) cx dX10_meetsFor_60 (Nat.le_of_ble_eq_true rfl) rfl rfl ?_
    refine sw_iload (pc' := 64) (i := 4) cx dX10_meetsFor_62 0 rfl rfl ?_
    refine sw_if_eq (pc' := 67) (tgt := 71) cx dX10_meetsFor_64 (by decide) rfl (fun c10 => ?_) (fun c10 => ?_)
    · replace hf := it_p c10 hf
      refine sw_iload_n (pc' := 72) (i := 3) cx dX10_meetsFor_71 rfl 4 rfl rfl ?_
      refine sw_iconst (pc' := 73) (v := 1) cx dX10_meetsFor_72 iconst_1 rfl ?_
      refine sw_iadd (pc' := 74) cx dX10_meetsFor_73 rfl ?_
      exact sw_lv [1, 2, 3, 0] rfl (B74 kk hkk row fnd x1 x2 s0 (x3 + (1 : Int32)) hf)
    · replace hf := it_n c10 hf
      refine sw_iload_n (pc' := 68) (i := 3) cx dX10_meetsFor_67 rfl 4 rfl rfl ?_
      refine sw_goto (tgt := 74) cx dX10_meetsFor_68 (by decide) ?_
      exact sw_lv [1, 2, 3, 0] rfl (B74 kk hkk row fnd x1 x2 s0 x3 hf)
  have B78 : ∀ (row : Nat → Int32) (fnd : Nat → Int32) (x2 : Int32) (x3 : Int32) (x4 : Int32), f_X10_meetsFor_b78 att row fnd x2 x3 x4 = some res → sf_W p l e rm_X10_meetsFor s m args below meth c 0 0 Q 5 D A (mo_W h cI cJ row att fnd tape tmany sort begs tends word valu good bits size shts lent imag befo kept) [(0, .ref (h 0)), (2, .int x2), (3, .int x3), (4, .int x4)] 78 [] := by
    intro row fnd x2 x3 x4 hf
    unfold f_X10_meetsFor_b78 at hf
    refine sw_aload_n (pc' := 79) (i := 0) cx dX10_meetsFor_78 rfl 0 rfl rfl ?_
    refine sw_get (pc' := 82) cx in_X10 0 rfl rfl 0 (Nat.le_of_ble_eq_true rfl) fl_RX10_7 rfl dX10_meetsFor_79 rfl ?_
    refine sw_iconst (pc' := 83) (v := 2) cx dX10_meetsFor_82 iconst_2 rfl ?_
    refine sw_iload_n (pc' := 84) (i := 2) cx dX10_meetsFor_83 rfl 1 rfl rfl ?_
    refine sw_iast (pc' := 85) (ws' := (mo_W h cI cJ (upd row ((2 : Int32)).toNatClampNeg x2) att fnd tape tmany sort begs tends word valu good bits size shts lent imag befo kept)) cx 1 0 rfl rfl vi_2_510 dX10_meetsFor_84 rfl rfl ?_
    refine sw_iload (pc' := 87) (i := 4) cx dX10_meetsFor_85 3 rfl rfl ?_
    refine sw_if_eq (pc' := 90) (tgt := 94) cx dX10_meetsFor_87 (by decide) rfl (fun c8 => ?_) (fun c8 => ?_)
    · replace hf := it_p c8 hf
      refine sw_aload_n (pc' := 95) (i := 0) cx dX10_meetsFor_94 rfl 0 rfl rfl ?_
      refine sw_ldc (pc' := 97) cx ct_RX10_147 dX10_meetsFor_95 rfl ?_
      obtain ⟨r9, hr9, hf⟩ := bd_s hf
      refine sw_callVw (pc' := 100) (As := [.int (-1000000004 : Int32)]) (rest := []) (w' := (mo_W h cI cJ (upd row ((2 : Int32)).toNatClampNeg x2) att r9.2 tape tmany sort begs tends word valu good bits size shts lent imag befo kept)) cx (k_X10_finds l D h cI cJ cK cS (upd row ((2 : Int32)).toNatClampNeg x2) att fnd tape tmany sort begs tends word valu good bits size shts lent imag befo kept (-1000000004 : Int32) r9 hr9) pk_yX10_finds ml_RX10_63 ⟨rfl, rfl⟩ ⟨(Nat.le_of_ble_eq_true rfl), (Nat.le_of_ble_eq_true rfl)⟩ ⟨(Nat.le_of_ble_eq_true rfl), (Nat.le_of_ble_eq_true rfl)⟩ 0 rfl rfl rfl rfl (Nat.le_of_ble_eq_true rfl) rfl dX10_meetsFor_97 rfl ?_
      obtain rfl := Option.some.inj hf
      exact sw_iret cx hr hQ dX10_meetsFor_100
    · replace hf := it_n c8 hf
      refine sw_iload_n (pc' := 91) (i := 3) cx dX10_meetsFor_90 rfl 2 rfl rfl ?_
      refine sw_goto (tgt := 100) cx dX10_meetsFor_91 (by decide) ?_
      obtain rfl := Option.some.inj hf
      exact sw_iret cx hr hQ dX10_meetsFor_100
  have B29 : ∀ (n : Nat), ∀ (row : Nat → Int32) (fnd : Nat → Int32) (x1 : Int32) (x2 : Int32) (x3 : Int32) (x4 : Int32), f_X10_meetsFor_b29 att n row fnd x1 x2 x3 x4 = some res → sf_W p l e rm_X10_meetsFor s m args below meth c 0 0 Q 5 D A (mo_W h cI cJ row att fnd tape tmany sort begs tends word valu good bits size shts lent imag befo kept) [(0, .ref (h 0)), (1, .int x1), (2, .int x2), (3, .int x3), (4, .int x4)] 29 [] := by
    intro n
    induction n with
    | zero => intro row fnd x1 x2 x3 x4 hf; rw [f_X10_meetsFor_b29] at hf; cases hf
    | succ n ih =>
      intro row fnd x1 x2 x3 x4 hf
      rw [f_X10_meetsFor_b29] at hf
      refine sw_iload (pc' := 31) (i := 4) cx dX10_meetsFor_29 4 rfl rfl ?_
      refine sw_if_ne (pc' := 34) (tgt := 78) cx dX10_meetsFor_31 (by decide) rfl (fun c4 => ?_) (fun c4 => ?_)
      · replace hf := it_n c4 hf
        exact sw_lv [0, 2, 3, 4] rfl (B78 row fnd x2 x3 x4 hf)
      · replace hf := it_p c4 hf
        refine sw_iload_n (pc' := 35) (i := 3) cx dX10_meetsFor_34 rfl 3 rfl rfl ?_
        refine sw_bipush (pc' := 37) (v := 20) cx dX10_meetsFor_35 bipush_20 rfl ?_
        refine sw_icmp_gt (pc' := 40) (tgt := 78) cx dX10_meetsFor_37 (by decide) rfl (fun c5 => ?_) (fun c5 => ?_)
        · replace hf := it_p c5 hf
          exact sw_lv [0, 2, 3, 4] rfl (B78 row fnd x2 x3 x4 hf)
        · replace hf := it_n c5 hf
          refine sw_aload_n (pc' := 41) (i := 0) cx dX10_meetsFor_40 rfl 0 rfl rfl ?_
          refine sw_get (pc' := 44) cx in_X10 0 rfl rfl 0 (Nat.le_of_ble_eq_true rfl) fl_RX10_7 rfl dX10_meetsFor_41 rfl ?_
          refine sw_iconst (pc' := 45) (v := 2) cx dX10_meetsFor_44 iconst_2 rfl ?_
          refine sw_iload_n (pc' := 46) (i := 3) cx dX10_meetsFor_45 rfl 3 rfl rfl ?_
          refine sw_iast (pc' := 47) (ws' := (mo_W h cI cJ (upd row ((2 : Int32)).toNatClampNeg x3) att fnd tape tmany sort begs tends word valu good bits size shts lent imag befo kept)) cx 1 0 rfl rfl vi_2_510 dX10_meetsFor_46 rfl rfl ?_
          refine sw_aload_n (pc' := 48) (i := 0) cx dX10_meetsFor_47 rfl 0 rfl rfl ?_
          obtain ⟨r6, hr6, hf⟩ := bd_s hf
          refine sw_callVw (pc' := 51) (As := []) (rest := []) (w' := (mo_W h cI cJ (upd row ((2 : Int32)).toNatClampNeg x3) att fnd tape tmany sort begs tends word valu good bits size shts lent imag befo kept)) cx (k_X10_reachNow l D h cI cJ cK cS (upd row ((2 : Int32)).toNatClampNeg x3) att fnd tape tmany sort begs tends word valu good bits size shts lent imag befo kept  r6 hr6) pk_yX10_reachNow ml_RX10_119 ⟨rfl, rfl⟩ ⟨(Nat.le_of_ble_eq_true rfl), (Nat.le_of_ble_eq_true rfl)⟩ ⟨(Nat.le_of_ble_eq_true rfl), (Nat.le_of_ble_eq_true rfl)⟩ 0 rfl rfl rfl rfl (Nat.le_of_ble_eq_true rfl) rfl dX10_meetsFor_48 rfl ?_
          refine sw_iload_n (pc' := 52) (i := 1) cx dX10_meetsFor_51 rfl 1 rfl rfl ?_
          refine sw_icmp_lt (pc' := 55) (tgt := 59) cx dX10_meetsFor_52 (by decide) rfl (fun c7 => ?_) (fun c7 => ?_)
          · replace hf := it_p c7 hf
            refine sw_iconst (pc' := 60) (v := 0) cx dX10_meetsFor_59 iconst_0 rfl ?_
            exact sw_lv [0, 1, 2, 3] rfl (B60 _ ih (upd row ((2 : Int32)).toNatClampNeg x3) fnd x1 x2 x3 (0 : Int32) hf)
          · replace hf := it_n c7 hf
            refine sw_iconst (pc' := 56) (v := 1) cx dX10_meetsFor_55 iconst_1 rfl ?_
            refine sw_goto (tgt := 60) cx dX10_meetsFor_56 (by decide) ?_
            exact sw_lv [0, 1, 2, 3] rfl (B60 _ ih (upd row ((2 : Int32)).toNatClampNeg x3) fnd x1 x2 x3 (1 : Int32) hf)
  unfold f_X10_meetsFor at hf
  refine sw_iload_n (pc' := 1) (i := 1) cx dX10_meetsFor_0 rfl 1 rfl rfl ?_
  refine sw_iconst (pc' := 2) (v := 0) cx dX10_meetsFor_1 iconst_0 rfl ?_
  refine sw_bipush (pc' := 4) (v := 40) cx dX10_meetsFor_2 bipush_40 rfl ?_
  obtain ⟨r1, hr1, hf⟩ := bd_s hf
  refine sw_callS (pc' := 7) (As := [.int a0, .int (0 : Int32), .int (40 : Int32)]) (rest := []) cx (k_X10_in l D h cI cJ cK cS a0 (0 : Int32) (40 : Int32) r1 hr1) pk_yX10_in ml_RX10_47 ⟨rfl, rfl⟩ ⟨(Nat.le_of_ble_eq_true rfl), (Nat.le_of_ble_eq_true rfl)⟩ ⟨(Nat.le_of_ble_eq_true rfl), (Nat.le_of_ble_eq_true rfl)⟩ [] rfl rfl rfl (wn := (mo_W h cI cJ row att fnd tape tmany sort begs tends word valu good bits size shts lent imag befo kept)) rfl rfl (Nat.le_of_ble_eq_true rfl) rfl dX10_meetsFor_4 rfl ?_
  refine sw_if_ne (pc' := 10) (tgt := 17) cx dX10_meetsFor_7 (by decide) rfl (fun c2 => ?_) (fun c2 => ?_)
  · replace hf := it_n c2 hf
    refine sw_aload_n (pc' := 18) (i := 0) cx dX10_meetsFor_17 rfl 0 rfl rfl ?_
    refine sw_get (pc' := 21) cx in_X10 0 rfl rfl 0 (Nat.le_of_ble_eq_true rfl) fl_RX10_7 rfl dX10_meetsFor_18 rfl ?_
    refine sw_iconst (pc' := 22) (v := 2) cx dX10_meetsFor_21 iconst_2 rfl ?_
    refine sw_iald (pc' := 23) cx 1 0 rfl rfl vi_2_510 dX10_meetsFor_22 rfl ?_
    refine sw_istore_n (pc' := 24) (i := 2) (lv' := [(2, .int (row ((2 : Int32)).toNatClampNeg)), (0, .ref (h 0)), (1, .int a0)]) cx dX10_meetsFor_23 rfl (Nat.le_of_ble_eq_true rfl) rfl rfl ?_
    refine sw_iconst (pc' := 25) (v := 0) cx dX10_meetsFor_24 iconst_0 rfl ?_
    refine sw_istore_n (pc' := 26) (i := 3) (lv' := [(3, .int (0 : Int32)), (2, .int (row ((2 : Int32)).toNatClampNeg)), (0, .ref (h 0)), (1, .int a0)]) cx dX10_meetsFor_25 rfl (Nat.le_of_ble_eq_true rfl) rfl rfl ?_
    refine sw_iconst (pc' := 27) (v := 0) cx dX10_meetsFor_26 iconst_0 rfl ?_
    refine sw_istore (pc' := 29) (i := 4) (lv' := [(4, .int (0 : Int32)), (3, .int (0 : Int32)), (2, .int (row ((2 : Int32)).toNatClampNeg)), (0, .ref (h 0)), (1, .int a0)]) cx dX10_meetsFor_27 (Nat.le_of_ble_eq_true rfl) rfl rfl ?_
    exact sw_lv [3, 4, 2, 1, 0] rfl (B29 1000 row fnd a0 (row ((2 : Int32)).toNatClampNeg) (0 : Int32) (0 : Int32) hf)
  · replace hf := it_p c2 hf
    refine sw_aload_n (pc' := 11) (i := 0) cx dX10_meetsFor_10 rfl 0 rfl rfl ?_
    refine sw_ldc (pc' := 13) cx ct_RX10_38 dX10_meetsFor_11 rfl ?_
    obtain ⟨r3, hr3, hf⟩ := bd_s hf
    refine sw_callVw (pc' := 16) (As := [.int (-1000000001 : Int32)]) (rest := []) (w' := (mo_W h cI cJ row att r3.2 tape tmany sort begs tends word valu good bits size shts lent imag befo kept)) cx (k_X10_finds l D h cI cJ cK cS row att fnd tape tmany sort begs tends word valu good bits size shts lent imag befo kept (-1000000001 : Int32) r3 hr3) pk_yX10_finds ml_RX10_63 ⟨rfl, rfl⟩ ⟨(Nat.le_of_ble_eq_true rfl), (Nat.le_of_ble_eq_true rfl)⟩ ⟨(Nat.le_of_ble_eq_true rfl), (Nat.le_of_ble_eq_true rfl)⟩ 0 rfl rfl rfl rfl (Nat.le_of_ble_eq_true rfl) rfl dX10_meetsFor_13 rfl ?_
    obtain rfl := Option.some.inj hf
    exact sw_iret cx hr hQ dX10_meetsFor_16
abbrev rm_X10_alone : Room := ({ frames := 3, cells := 0, slots := 0, locals := 65 } : Room)
set_option maxRecDepth 100000 in
set_option maxHeartbeats 4000000 in
theorem k_X10_alone (l : Launch) (D : sf_D) (h : Nat → Nat) (cI cJ cK cS : ClassId) (row : Nat → Int32) (att : Int32) (fnd : Nat → Int32) (tape : Nat → Int32) (tmany : Int32) (sort : Int32) (begs : Int32) (tends : Int32) (word : Int64) (valu : Int32) (good : Int32) (bits : Nat → Int32) (size : Nat → Int32) (shts : Nat → Int64) (lent : Nat → Int64) (imag : Nat → Int32) (befo : Nat → Int32) (kept : Int32) (a0 : Int32) (res : Int32 × (Nat → Int32)) (hf : f_X10_alone row att fnd a0 = some res) : sf_Ct l yX10_alone cX10_alone 5 (some .int) rm_X10_alone D (sf_ty cI cJ cK cS) [.ref (h 0), .int a0] (mo_W h cI cJ row att fnd tape tmany sort begs tends word valu good bits size shts lent imag befo kept) (some (.int res.1)) (mo_W h cI cJ row att res.2 tape tmany sort begs tends word valu good bits size shts lent imag befo kept) := by
  refine sf_met (lv := [(0, .ref (h 0)), (1, .int a0)]) (by decide) (Nat.le_of_ble_eq_true rfl) rfl ?_
  intro p e s m args below meth c A Q cx hr hQ
  have cx : sf_Cx p m meth c cX10_alone 5 s args RX10 D (sf_ty cI cJ cK cS) A := cx
  have B62 : ∀ (kk : (Nat → Int32) → Int32 → Int32 → Int32 → Option (Int32 × (Nat → Int32))), (∀ (fnd : Nat → Int32) (x2 : Int32) (x3 : Int32) (x4 : Int32), kk fnd x2 x3 x4 = some res → sf_W p l e rm_X10_alone s m args below meth c 0 0 Q 5 D A (mo_W h cI cJ row att fnd tape tmany sort begs tends word valu good bits size shts lent imag befo kept) [(0, .ref (h 0)), (2, .int x2), (3, .int x3), (4, .int x4)] 26 []) → ∀ (fnd : Nat → Int32) (x2 : Int32) (x4 : Int32) (s0 : Int32) (s1 : Int32), f_X10_alone_b62 row att kk fnd x2 x4 s0 s1 = some res → sf_W p l e rm_X10_alone s m args below meth c 0 0 Q 5 D A (mo_W h cI cJ row att fnd tape tmany sort begs tends word valu good bits size shts lent imag befo kept) [(0, .ref (h 0)), (2, .int x2), (4, .int x4)] 62 [.int s0, .int s1] := by
    intro kk hkk fnd x2 x4 s0 s1 hf
    unfold f_X10_alone_b62 at hf
    refine sw_iadd (pc' := 63) cx dX10_alone_62 rfl ?_
    refine sw_istore_n (pc' := 64) (i := 3) (lv' := [(3, .int (s1 + s0)), (0, .ref (h 0)), (2, .int x2), (4, .int x4)]) cx dX10_alone_63 rfl (Nat.le_of_ble_eq_true rfl) rfl rfl ?_
    refine sw_iinc (pc' := 67) (v := (x4 + (1 : Int32))) (lv' := [(4, .int (x4 + (1 : Int32))), (3, .int (s1 + s0)), (0, .ref (h 0)), (2, .int x2)]) cx dX10_alone_64 3 rfl rfl (Nat.le_of_ble_eq_true rfl) rfl rfl ?_
    refine sw_goto (tgt := 26) cx dX10_alone_67 (by decide) ?_
    exact sw_lv [2, 3, 1, 0] rfl (hkk fnd x2 (s1 + s0) (x4 + (1 : Int32)) hf)
  have B26 : ∀ (n : Nat), ∀ (fnd : Nat → Int32) (x2 : Int32) (x3 : Int32) (x4 : Int32), f_X10_alone_b26 row att n fnd x2 x3 x4 = some res → sf_W p l e rm_X10_alone s m args below meth c 0 0 Q 5 D A (mo_W h cI cJ row att fnd tape tmany sort begs tends word valu good bits size shts lent imag befo kept) [(0, .ref (h 0)), (2, .int x2), (3, .int x3), (4, .int x4)] 26 [] := by
    intro n
    induction n with
    | zero => intro fnd x2 x3 x4 hf; rw [f_X10_alone_b26] at hf; cases hf
    | succ n ih =>
      intro fnd x2 x3 x4 hf
      rw [f_X10_alone_b26] at hf
      refine sw_iload (pc' := 28) (i := 4) cx dX10_alone_26 3 rfl rfl ?_
      refine sw_bipush (pc' := 30) (v := 40) cx dX10_alone_28 bipush_40 rfl ?_
      refine sw_icmp_ge (pc' := 33) (tgt := 70) cx dX10_alone_30 (by decide) rfl (fun c5 => ?_) (fun c5 => ?_)
      · replace hf := it_p c5 hf
        refine sw_iload_n (pc' := 71) (i := 3) cx dX10_alone_70 rfl 2 rfl rfl ?_
        obtain rfl := Option.some.inj hf
        exact sw_iret cx hr hQ dX10_alone_71
      · replace hf := it_n c5 hf
        refine sw_iload_n (pc' := 34) (i := 3) cx dX10_alone_33 rfl 2 rfl rfl ?_
        refine sw_aload_n (pc' := 35) (i := 0) cx dX10_alone_34 rfl 0 rfl rfl ?_
        refine sw_iload (pc' := 37) (i := 4) cx dX10_alone_35 3 rfl rfl ?_
        obtain ⟨r6, hr6, hf⟩ := bd_s hf
        refine sw_callVw (pc' := 40) (As := [.int x4]) (rest := [.int x3]) (w' := (mo_W h cI cJ row att fnd tape tmany sort begs tends word valu good bits size shts lent imag befo kept)) cx (k_X10_isWhole l D h cI cJ cK cS row att fnd tape tmany sort begs tends word valu good bits size shts lent imag befo kept x4 r6 hr6) pk_yX10_isWhole ml_RX10_78 ⟨rfl, rfl⟩ ⟨(Nat.le_of_ble_eq_true rfl), (Nat.le_of_ble_eq_true rfl)⟩ ⟨(Nat.le_of_ble_eq_true rfl), (Nat.le_of_ble_eq_true rfl)⟩ 0 rfl rfl rfl rfl (Nat.le_of_ble_eq_true rfl) rfl dX10_alone_37 rfl ?_
        refine sw_if_eq (pc' := 43) (tgt := 47) cx dX10_alone_40 (by decide) rfl (fun c7 => ?_) (fun c7 => ?_)
        · replace hf := it_p c7 hf
          refine sw_aload_n (pc' := 48) (i := 0) cx dX10_alone_47 rfl 0 rfl rfl ?_
          refine sw_get (pc' := 51) cx in_X10 0 rfl rfl 0 (Nat.le_of_ble_eq_true rfl) fl_RX10_7 rfl dX10_alone_48 rfl ?_
          refine sw_iconst (pc' := 52) (v := 5) cx dX10_alone_51 iconst_5 rfl ?_
          refine sw_iload (pc' := 54) (i := 4) cx dX10_alone_52 3 rfl rfl ?_
          refine sw_iadd (pc' := 55) cx dX10_alone_54 rfl ?_
          obtain ⟨h8, hf⟩ := gx_s hf
          refine sw_iald (pc' := 56) cx 1 0 rfl rfl h8 dX10_alone_55 rfl ?_
          refine sw_iload_n (pc' := 57) (i := 2) cx dX10_alone_56 rfl 1 rfl rfl ?_
          refine sw_iadd (pc' := 58) cx dX10_alone_57 rfl ?_
          refine sw_iconst (pc' := 59) (v := 1) cx dX10_alone_58 iconst_1 rfl ?_
          refine sw_isub (pc' := 60) cx dX10_alone_59 rfl ?_
          refine sw_iload_n (pc' := 61) (i := 2) cx dX10_alone_60 rfl 1 rfl rfl ?_
          obtain ⟨h9, hf⟩ := gz_s hf
          refine sw_idiv (pc' := 62) cx dX10_alone_61 h9 rfl ?_
          exact sw_lv [0, 1, 3] rfl (B62 _ ih fnd x2 x4 ((((row (((5 : Int32) + x4)).toNatClampNeg) + x2) - (1 : Int32)) / x2) x3 hf)
        · replace hf := it_n c7 hf
          refine sw_iconst (pc' := 44) (v := 0) cx dX10_alone_43 iconst_0 rfl ?_
          refine sw_goto (tgt := 62) cx dX10_alone_44 (by decide) ?_
          exact sw_lv [0, 1, 3] rfl (B62 _ ih fnd x2 x4 (0 : Int32) x3 hf)
  unfold f_X10_alone at hf
  refine sw_aload_n (pc' := 1) (i := 0) cx dX10_alone_0 rfl 0 rfl rfl ?_
  refine sw_iload_n (pc' := 2) (i := 1) cx dX10_alone_1 rfl 1 rfl rfl ?_
  obtain ⟨r1, hr1, hf⟩ := bd_s hf
  refine sw_callVw (pc' := 5) (As := [.int a0]) (rest := []) (w' := (mo_W h cI cJ row att fnd tape tmany sort begs tends word valu good bits size shts lent imag befo kept)) cx (k_X10_isFine l D h cI cJ cK cS row att fnd tape tmany sort begs tends word valu good bits size shts lent imag befo kept a0 r1 hr1) pk_yX10_isFine ml_RX10_81 ⟨rfl, rfl⟩ ⟨(Nat.le_of_ble_eq_true rfl), (Nat.le_of_ble_eq_true rfl)⟩ ⟨(Nat.le_of_ble_eq_true rfl), (Nat.le_of_ble_eq_true rfl)⟩ 0 rfl rfl rfl rfl (Nat.le_of_ble_eq_true rfl) rfl dX10_alone_2 rfl ?_
  refine sw_if_ne (pc' := 8) (tgt := 15) cx dX10_alone_5 (by decide) rfl (fun c2 => ?_) (fun c2 => ?_)
  · replace hf := it_n c2 hf
    refine sw_aload_n (pc' := 16) (i := 0) cx dX10_alone_15 rfl 0 rfl rfl ?_
    refine sw_iload_n (pc' := 17) (i := 1) cx dX10_alone_16 rfl 1 rfl rfl ?_
    obtain ⟨r3, hr3, hf⟩ := bd_s hf
    refine sw_callVw (pc' := 20) (As := [.int a0]) (rest := []) (w' := (mo_W h cI cJ row att fnd tape tmany sort begs tends word valu good bits size shts lent imag befo kept)) cx (k_X10_works l D h cI cJ cK cS row att fnd tape tmany sort begs tends word valu good bits size shts lent imag befo kept a0 r3 hr3) pk_yX10_works ml_RX10_84 ⟨rfl, rfl⟩ ⟨(Nat.le_of_ble_eq_true rfl), (Nat.le_of_ble_eq_true rfl)⟩ ⟨(Nat.le_of_ble_eq_true rfl), (Nat.le_of_ble_eq_true rfl)⟩ 0 rfl rfl rfl rfl (Nat.le_of_ble_eq_true rfl) rfl dX10_alone_17 rfl ?_
    refine sw_istore_n (pc' := 21) (i := 2) (lv' := [(2, .int r3), (0, .ref (h 0)), (1, .int a0)]) cx dX10_alone_20 rfl (Nat.le_of_ble_eq_true rfl) rfl rfl ?_
    refine sw_iconst (pc' := 22) (v := 0) cx dX10_alone_21 iconst_0 rfl ?_
    refine sw_istore_n (pc' := 23) (i := 3) (lv' := [(3, .int (0 : Int32)), (2, .int r3), (0, .ref (h 0)), (1, .int a0)]) cx dX10_alone_22 rfl (Nat.le_of_ble_eq_true rfl) rfl rfl ?_
    refine sw_iconst (pc' := 24) (v := 0) cx dX10_alone_23 iconst_0 rfl ?_
    refine sw_istore (pc' := 26) (i := 4) (lv' := [(4, .int (0 : Int32)), (3, .int (0 : Int32)), (2, .int r3), (0, .ref (h 0)), (1, .int a0)]) cx dX10_alone_24 (Nat.le_of_ble_eq_true rfl) rfl rfl ?_
    exact sw_lv [3, 2, 1, 0] rfl (B26 1000 fnd r3 (0 : Int32) (0 : Int32) hf)
  · replace hf := it_p c2 hf
    refine sw_aload_n (pc' := 9) (i := 0) cx dX10_alone_8 rfl 0 rfl rfl ?_
    refine sw_ldc (pc' := 11) cx ct_RX10_38 dX10_alone_9 rfl ?_
    obtain ⟨r4, hr4, hf⟩ := bd_s hf
    refine sw_callVw (pc' := 14) (As := [.int (-1000000001 : Int32)]) (rest := []) (w' := (mo_W h cI cJ row att r4.2 tape tmany sort begs tends word valu good bits size shts lent imag befo kept)) cx (k_X10_finds l D h cI cJ cK cS row att fnd tape tmany sort begs tends word valu good bits size shts lent imag befo kept (-1000000001 : Int32) r4 hr4) pk_yX10_finds ml_RX10_63 ⟨rfl, rfl⟩ ⟨(Nat.le_of_ble_eq_true rfl), (Nat.le_of_ble_eq_true rfl)⟩ ⟨(Nat.le_of_ble_eq_true rfl), (Nat.le_of_ble_eq_true rfl)⟩ 0 rfl rfl rfl rfl (Nat.le_of_ble_eq_true rfl) rfl dX10_alone_11 rfl ?_
    obtain rfl := Option.some.inj hf
    exact sw_iret cx hr hQ dX10_alone_14
abbrev rm_X10_feed : Room := ({ frames := 1, cells := 0, slots := 0, locals := 22 } : Room)
set_option maxRecDepth 100000 in
set_option maxHeartbeats 4000000 in
theorem k_X10_feed (l : Launch) (D : sf_D) (h : Nat → Nat) (cI cJ cK cS : ClassId) (row : Nat → Int32) (att : Int32) (fnd : Nat → Int32) (tape : Nat → Int32) (tmany : Int32) (sort : Int32) (begs : Int32) (tends : Int32) (word : Int64) (valu : Int32) (good : Int32) (bits : Nat → Int32) (size : Nat → Int32) (shts : Nat → Int64) (lent : Nat → Int64) (imag : Nat → Int32) (befo : Nat → Int32) (kept : Int32) (a0 : Int32) (a1 : Int32) (res : Int32 × (Nat → Int32) × (Nat → Int32) × Int32) (hf : f_X10_feed fnd tape tmany a0 a1 = some res) : sf_Ct l yX10_feed cX10_feed 4 (some .int) rm_X10_feed D (sf_ty cI cJ cK cS) [.ref (h 0), .int a0, .int a1] (mo_W h cI cJ row att fnd tape tmany sort begs tends word valu good bits size shts lent imag befo kept) (some (.int res.1)) (mo_W h cI cJ row att res.2.1 res.2.2.1 res.2.2.2 sort begs tends word valu good bits size shts lent imag befo kept) := by
  refine sf_met (lv := [(0, .ref (h 0)), (1, .int a0), (2, .int a1)]) (by decide) (Nat.le_of_ble_eq_true rfl) rfl ?_
  intro p e s m args below meth c A Q cx hr hQ
  have cx : sf_Cx p m meth c cX10_feed 4 s args RX10 D (sf_ty cI cJ cK cS) A := cx
  have B38 : ∀ (n : Nat), ∀ (fnd : Nat → Int32) (tape : Nat → Int32) (tmany : Int32) (x1 : Int32) (x3 : Int32), f_X10_feed_b38 n fnd tape tmany x1 x3 = some res → sf_W p l e rm_X10_feed s m args below meth c 0 0 Q 4 D A (mo_W h cI cJ row att fnd tape tmany sort begs tends word valu good bits size shts lent imag befo kept) [(0, .ref (h 0)), (1, .int x1), (3, .int x3)] 38 [] := by
    intro n
    induction n with
    | zero => intro fnd tape tmany x1 x3 hf; rw [f_X10_feed_b38] at hf; cases hf
    | succ n ih =>
      intro fnd tape tmany x1 x3 hf
      rw [f_X10_feed_b38] at hf
      refine sw_iload_n (pc' := 39) (i := 3) cx dX10_feed_38 rfl 2 rfl rfl ?_
      refine sw_if_lt (pc' := 42) (tgt := 77) cx dX10_feed_39 (by decide) rfl (fun c6 => ?_) (fun c6 => ?_)
      · replace hf := it_p c6 hf
        refine sw_aload_n (pc' := 78) (i := 0) cx dX10_feed_77 rfl 0 rfl rfl ?_
        refine sw_get (pc' := 81) cx in_X10 0 rfl rfl 4 (Nat.le_of_ble_eq_true rfl) fl_RX10_154 rfl dX10_feed_78 rfl ?_
        obtain rfl := Option.some.inj hf
        exact sw_iret cx hr hQ dX10_feed_81
      · replace hf := it_n c6 hf
        refine sw_aload_n (pc' := 43) (i := 0) cx dX10_feed_42 rfl 0 rfl rfl ?_
        refine sw_get (pc' := 46) cx in_X10 0 rfl rfl 3 (Nat.le_of_ble_eq_true rfl) fl_RX10_16 rfl dX10_feed_43 rfl ?_
        refine sw_aload_n (pc' := 47) (i := 0) cx dX10_feed_46 rfl 0 rfl rfl ?_
        refine sw_get (pc' := 50) cx in_X10 0 rfl rfl 4 (Nat.le_of_ble_eq_true rfl) fl_RX10_154 rfl dX10_feed_47 rfl ?_
        refine sw_iload_n (pc' := 51) (i := 1) cx dX10_feed_50 rfl 1 rfl rfl ?_
        refine sw_bipush (pc' := 53) (v := 8) cx dX10_feed_51 bipush_8 rfl ?_
        refine sw_iload_n (pc' := 54) (i := 3) cx dX10_feed_53 rfl 2 rfl rfl ?_
        refine sw_imul (pc' := 55) cx dX10_feed_54 rfl ?_
        refine sw_ishr (pc' := 56) cx dX10_feed_55 rfl ?_
        refine sw_sipush (pc' := 59) (v := 255) cx dX10_feed_56 sipush_255 rfl ?_
        refine sw_iand (pc' := 60) cx dX10_feed_59 rfl ?_
        obtain ⟨h7, hf⟩ := gx_s hf
        refine sw_iast (pc' := 61) (ws' := (mo_W h cI cJ row att fnd (upd tape (tmany).toNatClampNeg ((x1 >>> (((8 : Int32) * x3) &&& 31)) &&& (255 : Int32))) tmany sort begs tends word valu good bits size shts lent imag befo kept)) cx 3 0 rfl rfl h7 dX10_feed_60 rfl rfl ?_
        refine sw_aload_n (pc' := 62) (i := 0) cx dX10_feed_61 rfl 0 rfl rfl ?_
        refine sw_dup (pc' := 63) cx dX10_feed_62 rfl rfl ?_
        refine sw_get (pc' := 66) cx in_X10 0 rfl rfl 4 (Nat.le_of_ble_eq_true rfl) fl_RX10_154 rfl dX10_feed_63 rfl ?_
        refine sw_iconst (pc' := 67) (v := 1) cx dX10_feed_66 iconst_1 rfl ?_
        refine sw_iadd (pc' := 68) cx dX10_feed_67 rfl ?_
        refine sw_put (pc' := 71) (ws' := (mo_W h cI cJ row att fnd (upd tape (tmany).toNatClampNeg ((x1 >>> (((8 : Int32) * x3) &&& 31)) &&& (255 : Int32))) (tmany + (1 : Int32)) sort begs tends word valu good bits size shts lent imag befo kept)) cx in_X10 tyX10 tyX10_ok nmX10 0 rfl rfl 4 (Nat.le_of_ble_eq_true rfl) fl_RX10_154 rfl rfl rfl (Nat.le_of_ble_eq_true rfl) dX10_feed_68 rfl rfl ?_
        refine sw_iinc (pc' := 74) (v := (x3 + (-1 : Int32))) (lv' := [(3, .int (x3 + (-1 : Int32))), (0, .ref (h 0)), (1, .int x1)]) cx dX10_feed_71 2 rfl rfl (Nat.le_of_ble_eq_true rfl) rfl rfl ?_
        refine sw_goto (tgt := 38) cx dX10_feed_74 (by decide) ?_
        exact sw_lv [1, 2, 0] rfl (ih fnd (upd tape (tmany).toNatClampNeg ((x1 >>> (((8 : Int32) * x3) &&& 31)) &&& (255 : Int32))) (tmany + (1 : Int32)) x1 (x3 + (-1 : Int32)) hf)
  unfold f_X10_feed at hf
  refine sw_iload_n (pc' := 1) (i := 2) cx dX10_feed_0 rfl 2 rfl rfl ?_
  refine sw_iconst (pc' := 2) (v := 1) cx dX10_feed_1 iconst_1 rfl ?_
  refine sw_iconst (pc' := 3) (v := 4) cx dX10_feed_2 iconst_4 rfl ?_
  obtain ⟨r1, hr1, hf⟩ := bd_s hf
  refine sw_callS (pc' := 6) (As := [.int a1, .int (1 : Int32), .int (4 : Int32)]) (rest := []) cx (k_X10_in l D h cI cJ cK cS a1 (1 : Int32) (4 : Int32) r1 hr1) pk_yX10_in ml_RX10_47 ⟨rfl, rfl⟩ ⟨(Nat.le_of_ble_eq_true rfl), (Nat.le_of_ble_eq_true rfl)⟩ ⟨(Nat.le_of_ble_eq_true rfl), (Nat.le_of_ble_eq_true rfl)⟩ [] rfl rfl rfl (wn := (mo_W h cI cJ row att fnd tape tmany sort begs tends word valu good bits size shts lent imag befo kept)) rfl rfl (Nat.le_of_ble_eq_true rfl) rfl dX10_feed_3 rfl ?_
  refine sw_if_ne (pc' := 9) (tgt := 16) cx dX10_feed_6 (by decide) rfl (fun c2 => ?_) (fun c2 => ?_)
  · replace hf := it_n c2 hf
    refine sw_aload_n (pc' := 17) (i := 0) cx dX10_feed_16 rfl 0 rfl rfl ?_
    refine sw_get (pc' := 20) cx in_X10 0 rfl rfl 4 (Nat.le_of_ble_eq_true rfl) fl_RX10_154 rfl dX10_feed_17 rfl ?_
    refine sw_iload_n (pc' := 21) (i := 2) cx dX10_feed_20 rfl 2 rfl rfl ?_
    refine sw_iadd (pc' := 22) cx dX10_feed_21 rfl ?_
    refine sw_bipush (pc' := 24) (v := 120) cx dX10_feed_22 bipush_120 rfl ?_
    refine sw_icmp_le (pc' := 27) (tgt := 34) cx dX10_feed_24 (by decide) rfl (fun c3 => ?_) (fun c3 => ?_)
    · replace hf := it_p c3 hf
      refine sw_iload_n (pc' := 35) (i := 2) cx dX10_feed_34 rfl 2 rfl rfl ?_
      refine sw_iconst (pc' := 36) (v := 1) cx dX10_feed_35 iconst_1 rfl ?_
      refine sw_isub (pc' := 37) cx dX10_feed_36 rfl ?_
      refine sw_istore_n (pc' := 38) (i := 3) (lv' := [(3, .int (a1 - (1 : Int32))), (0, .ref (h 0)), (1, .int a0), (2, .int a1)]) cx dX10_feed_37 rfl (Nat.le_of_ble_eq_true rfl) rfl rfl ?_
      exact sw_lv [1, 2, 0] rfl (B38 1000 fnd tape tmany a0 (a1 - (1 : Int32)) hf)
    · replace hf := it_n c3 hf
      refine sw_aload_n (pc' := 28) (i := 0) cx dX10_feed_27 rfl 0 rfl rfl ?_
      refine sw_ldc (pc' := 30) cx ct_RX10_73 dX10_feed_28 rfl ?_
      obtain ⟨r4, hr4, hf⟩ := bd_s hf
      refine sw_callVw (pc' := 33) (As := [.int (-1000000002 : Int32)]) (rest := []) (w' := (mo_W h cI cJ row att r4.2 tape tmany sort begs tends word valu good bits size shts lent imag befo kept)) cx (k_X10_finds l D h cI cJ cK cS row att fnd tape tmany sort begs tends word valu good bits size shts lent imag befo kept (-1000000002 : Int32) r4 hr4) pk_yX10_finds ml_RX10_63 ⟨rfl, rfl⟩ ⟨(Nat.le_of_ble_eq_true rfl), (Nat.le_of_ble_eq_true rfl)⟩ ⟨(Nat.le_of_ble_eq_true rfl), (Nat.le_of_ble_eq_true rfl)⟩ 0 rfl rfl rfl rfl (Nat.le_of_ble_eq_true rfl) rfl dX10_feed_30 rfl ?_
      obtain rfl := Option.some.inj hf
      exact sw_iret cx hr hQ dX10_feed_33
  · replace hf := it_p c2 hf
    refine sw_aload_n (pc' := 10) (i := 0) cx dX10_feed_9 rfl 0 rfl rfl ?_
    refine sw_ldc (pc' := 12) cx ct_RX10_38 dX10_feed_10 rfl ?_
    obtain ⟨r5, hr5, hf⟩ := bd_s hf
    refine sw_callVw (pc' := 15) (As := [.int (-1000000001 : Int32)]) (rest := []) (w' := (mo_W h cI cJ row att r5.2 tape tmany sort begs tends word valu good bits size shts lent imag befo kept)) cx (k_X10_finds l D h cI cJ cK cS row att fnd tape tmany sort begs tends word valu good bits size shts lent imag befo kept (-1000000001 : Int32) r5 hr5) pk_yX10_finds ml_RX10_63 ⟨rfl, rfl⟩ ⟨(Nat.le_of_ble_eq_true rfl), (Nat.le_of_ble_eq_true rfl)⟩ ⟨(Nat.le_of_ble_eq_true rfl), (Nat.le_of_ble_eq_true rfl)⟩ 0 rfl rfl rfl rfl (Nat.le_of_ble_eq_true rfl) rfl dX10_feed_12 rfl ?_
    obtain rfl := Option.some.inj hf
    exact sw_iret cx hr hQ dX10_feed_15
abbrev rm_X10_wipe : Room := ({ frames := 0, cells := 0, slots := 0, locals := 0 } : Room)
set_option maxRecDepth 100000 in
set_option maxHeartbeats 4000000 in
theorem k_X10_wipe (l : Launch) (D : sf_D) (h : Nat → Nat) (cI cJ cK cS : ClassId) (row : Nat → Int32) (att : Int32) (fnd : Nat → Int32) (tape : Nat → Int32) (tmany : Int32) (sort : Int32) (begs : Int32) (tends : Int32) (word : Int64) (valu : Int32) (good : Int32) (bits : Nat → Int32) (size : Nat → Int32) (shts : Nat → Int64) (lent : Nat → Int64) (imag : Nat → Int32) (befo : Nat → Int32) (kept : Int32)  (res : Int32 × Int32) (hf : f_X10_wipe tmany = some res) : sf_Ct l yX10_wipe cX10_wipe 2 (some .int) rm_X10_wipe D (sf_ty cI cJ cK cS) [.ref (h 0)] (mo_W h cI cJ row att fnd tape tmany sort begs tends word valu good bits size shts lent imag befo kept) (some (.int res.1)) (mo_W h cI cJ row att fnd tape res.2 sort begs tends word valu good bits size shts lent imag befo kept) := by
  refine sf_met (lv := [(0, .ref (h 0))]) (by decide) (Nat.le_of_ble_eq_true rfl) rfl ?_
  intro p e s m args below meth c A Q cx hr hQ
  have cx : sf_Cx p m meth c cX10_wipe 2 s args RX10 D (sf_ty cI cJ cK cS) A := cx
  unfold f_X10_wipe at hf
  refine sw_aload_n (pc' := 1) (i := 0) cx dX10_wipe_0 rfl 0 rfl rfl ?_
  refine sw_get (pc' := 4) cx in_X10 0 rfl rfl 4 (Nat.le_of_ble_eq_true rfl) fl_RX10_154 rfl dX10_wipe_1 rfl ?_
  refine sw_istore_n (pc' := 5) (i := 1) (lv' := [(1, .int tmany), (0, .ref (h 0))]) cx dX10_wipe_4 rfl (Nat.le_of_ble_eq_true rfl) rfl rfl ?_
  refine sw_aload_n (pc' := 6) (i := 0) cx dX10_wipe_5 rfl 1 rfl rfl ?_
  refine sw_iconst (pc' := 7) (v := 0) cx dX10_wipe_6 iconst_0 rfl ?_
  refine sw_put (pc' := 10) (ws' := (mo_W h cI cJ row att fnd tape (0 : Int32) sort begs tends word valu good bits size shts lent imag befo kept)) cx in_X10 tyX10 tyX10_ok nmX10 0 rfl rfl 4 (Nat.le_of_ble_eq_true rfl) fl_RX10_154 rfl rfl rfl (Nat.le_of_ble_eq_true rfl) dX10_wipe_7 rfl rfl ?_
  refine sw_iload_n (pc' := 11) (i := 1) cx dX10_wipe_10 rfl 0 rfl rfl ?_
  obtain rfl := Option.some.inj hf
  exact sw_iret cx hr hQ dX10_wipe_11
abbrev rm_X10_byteAt : Room := ({ frames := 0, cells := 0, slots := 0, locals := 0 } : Room)
set_option maxRecDepth 100000 in
set_option maxHeartbeats 4000000 in
theorem k_X10_byteAt (l : Launch) (D : sf_D) (h : Nat → Nat) (cI cJ cK cS : ClassId) (row : Nat → Int32) (att : Int32) (fnd : Nat → Int32) (tape : Nat → Int32) (tmany : Int32) (sort : Int32) (begs : Int32) (tends : Int32) (word : Int64) (valu : Int32) (good : Int32) (bits : Nat → Int32) (size : Nat → Int32) (shts : Nat → Int64) (lent : Nat → Int64) (imag : Nat → Int32) (befo : Nat → Int32) (kept : Int32) (a0 : Int32) (res : Int32) (hf : f_X10_byteAt tape tmany a0 = some res) : sf_Ct l yX10_byteAt cX10_byteAt 2 (some .int) rm_X10_byteAt D (sf_ty cI cJ cK cS) [.ref (h 0), .int a0] (mo_W h cI cJ row att fnd tape tmany sort begs tends word valu good bits size shts lent imag befo kept) (some (.int res)) (mo_W h cI cJ row att fnd tape tmany sort begs tends word valu good bits size shts lent imag befo kept) := by
  refine sf_met (lv := [(0, .ref (h 0)), (1, .int a0)]) (by decide) (Nat.le_of_ble_eq_true rfl) rfl ?_
  intro p e s m args below meth c A Q cx hr hQ
  have cx : sf_Cx p m meth c cX10_byteAt 2 s args RX10 D (sf_ty cI cJ cK cS) A := cx
  unfold f_X10_byteAt at hf
  refine sw_iload_n (pc' := 1) (i := 1) cx dX10_byteAt_0 rfl 1 rfl rfl ?_
  refine sw_aload_n (pc' := 2) (i := 0) cx dX10_byteAt_1 rfl 0 rfl rfl ?_
  refine sw_get (pc' := 5) cx in_X10 0 rfl rfl 4 (Nat.le_of_ble_eq_true rfl) fl_RX10_154 rfl dX10_byteAt_2 rfl ?_
  refine sw_icmp_ge (pc' := 8) (tgt := 17) cx dX10_byteAt_5 (by decide) rfl (fun c1 => ?_) (fun c1 => ?_)
  · replace hf := it_p c1 hf
    refine sw_iconst (pc' := 18) (v := -1) cx dX10_byteAt_17 iconst_m1 rfl ?_
    obtain rfl := Option.some.inj hf
    exact sw_iret cx hr hQ dX10_byteAt_18
  · replace hf := it_n c1 hf
    refine sw_aload_n (pc' := 9) (i := 0) cx dX10_byteAt_8 rfl 0 rfl rfl ?_
    refine sw_get (pc' := 12) cx in_X10 0 rfl rfl 3 (Nat.le_of_ble_eq_true rfl) fl_RX10_16 rfl dX10_byteAt_9 rfl ?_
    refine sw_iload_n (pc' := 13) (i := 1) cx dX10_byteAt_12 rfl 1 rfl rfl ?_
    obtain ⟨h2, hf⟩ := gx_s hf
    refine sw_iald (pc' := 14) cx 3 0 rfl rfl h2 dX10_byteAt_13 rfl ?_
    refine sw_goto (tgt := 18) cx dX10_byteAt_14 (by decide) ?_
    obtain rfl := Option.some.inj hf
    exact sw_iret cx hr hQ dX10_byteAt_18
abbrev rm_X10_isLetter : Room := ({ frames := 1, cells := 0, slots := 0, locals := 22 } : Room)
set_option maxRecDepth 100000 in
set_option maxHeartbeats 4000000 in
theorem k_X10_isLetter (l : Launch) (D : sf_D) (h : Nat → Nat) (cI cJ cK cS : ClassId)  (a0 : Int32) (res : Int32) (hf : f_X10_isLetter a0 = some res) : sf_Ct l yX10_isLetter cX10_isLetter 1 (some .boolean) rm_X10_isLetter D (sf_ty cI cJ cK cS) [.int a0] [] (some (.int res)) [] := by
  refine sf_met (lv := [(0, .int a0)]) (by decide) (Nat.le_of_ble_eq_true rfl) rfl ?_
  intro p e s m args below meth c A Q cx hr hQ
  have cx : sf_Cx p m meth c cX10_isLetter 1 s args RX10 D (sf_ty cI cJ cK cS) A := cx
  unfold f_X10_isLetter at hf
  refine sw_iload_n (pc' := 1) (i := 0) cx dX10_isLetter_0 rfl 0 rfl rfl ?_
  refine sw_bipush (pc' := 3) (v := 97) cx dX10_isLetter_1 bipush_97 rfl ?_
  refine sw_bipush (pc' := 5) (v := 122) cx dX10_isLetter_3 bipush_122 rfl ?_
  obtain ⟨r1, hr1, hf⟩ := bd_s hf
  refine sw_callS (pc' := 8) (As := [.int a0, .int (97 : Int32), .int (122 : Int32)]) (rest := []) cx (k_X10_in l D h cI cJ cK cS a0 (97 : Int32) (122 : Int32) r1 hr1) pk_yX10_in ml_RX10_47 ⟨rfl, rfl⟩ ⟨(Nat.le_of_ble_eq_true rfl), (Nat.le_of_ble_eq_true rfl)⟩ ⟨(Nat.le_of_ble_eq_true rfl), (Nat.le_of_ble_eq_true rfl)⟩ [] rfl rfl rfl (wn := []) rfl rfl (Nat.le_of_ble_eq_true rfl) rfl dX10_isLetter_5 rfl ?_
  obtain ⟨h2, hf⟩ := gb_s hf
  obtain rfl := Option.some.inj hf
  exact sw_zret cx hr h2.1 hQ dX10_isLetter_8
abbrev rm_X10_isDigit : Room := ({ frames := 1, cells := 0, slots := 0, locals := 22 } : Room)
set_option maxRecDepth 100000 in
set_option maxHeartbeats 4000000 in
theorem k_X10_isDigit (l : Launch) (D : sf_D) (h : Nat → Nat) (cI cJ cK cS : ClassId)  (a0 : Int32) (res : Int32) (hf : f_X10_isDigit a0 = some res) : sf_Ct l yX10_isDigit cX10_isDigit 1 (some .boolean) rm_X10_isDigit D (sf_ty cI cJ cK cS) [.int a0] [] (some (.int res)) [] := by
  refine sf_met (lv := [(0, .int a0)]) (by decide) (Nat.le_of_ble_eq_true rfl) rfl ?_
  intro p e s m args below meth c A Q cx hr hQ
  have cx : sf_Cx p m meth c cX10_isDigit 1 s args RX10 D (sf_ty cI cJ cK cS) A := cx
  unfold f_X10_isDigit at hf
  refine sw_iload_n (pc' := 1) (i := 0) cx dX10_isDigit_0 rfl 0 rfl rfl ?_
  refine sw_bipush (pc' := 3) (v := 48) cx dX10_isDigit_1 bipush_48 rfl ?_
  refine sw_bipush (pc' := 5) (v := 57) cx dX10_isDigit_3 bipush_57 rfl ?_
  obtain ⟨r1, hr1, hf⟩ := bd_s hf
  refine sw_callS (pc' := 8) (As := [.int a0, .int (48 : Int32), .int (57 : Int32)]) (rest := []) cx (k_X10_in l D h cI cJ cK cS a0 (48 : Int32) (57 : Int32) r1 hr1) pk_yX10_in ml_RX10_47 ⟨rfl, rfl⟩ ⟨(Nat.le_of_ble_eq_true rfl), (Nat.le_of_ble_eq_true rfl)⟩ ⟨(Nat.le_of_ble_eq_true rfl), (Nat.le_of_ble_eq_true rfl)⟩ [] rfl rfl rfl (wn := []) rfl rfl (Nat.le_of_ble_eq_true rfl) rfl dX10_isDigit_5 rfl ?_
  obtain ⟨h2, hf⟩ := gb_s hf
  obtain rfl := Option.some.inj hf
  exact sw_zret cx hr h2.1 hQ dX10_isDigit_8
abbrev rm_X10_advance : Room := ({ frames := 2, cells := 0, slots := 0, locals := 42 } : Room)
set_option maxRecDepth 100000 in
set_option maxHeartbeats 4000000 in
theorem k_X10_advance (l : Launch) (D : sf_D) (h : Nat → Nat) (cI cJ cK cS : ClassId) (row : Nat → Int32) (att : Int32) (fnd : Nat → Int32) (tape : Nat → Int32) (tmany : Int32) (sort : Int32) (begs : Int32) (tends : Int32) (word : Int64) (valu : Int32) (good : Int32) (bits : Nat → Int32) (size : Nat → Int32) (shts : Nat → Int64) (lent : Nat → Int64) (imag : Nat → Int32) (befo : Nat → Int32) (kept : Int32)  (res : Int32 × Int32 × Int32 × Int64 × Int32) (hf : f_X10_advance tape tmany sort begs tends word valu = some res) : sf_Ct l yX10_advance cX10_advance 2 none rm_X10_advance D (sf_ty cI cJ cK cS) [.ref (h 0)] (mo_W h cI cJ row att fnd tape tmany sort begs tends word valu good bits size shts lent imag befo kept) none (mo_W h cI cJ row att fnd tape tmany res.1 res.2.1 res.2.2.1 res.2.2.2.1 res.2.2.2.2 good bits size shts lent imag befo kept) := by
  refine sf_met (lv := [(0, .ref (h 0))]) (by decide) (Nat.le_of_ble_eq_true rfl) rfl ?_
  intro p e s m args below meth c A Q cx hr hQ
  have cx : sf_Cx p m meth c cX10_advance 2 s args RX10 D (sf_ty cI cJ cK cS) A := cx
  have B191 : ∀ (kk : Int32 → Int32 → Int32 → Int64 → Int32 → Option (Int32 × Int32 × Int32 × Int64 × Int32)), (∀ (sort : Int32) (begs : Int32) (tends : Int32) (word : Int64) (valu : Int32), kk sort begs tends word valu = some res → sf_W p l e rm_X10_advance s m args below meth c 0 0 Q 2 D A (mo_W h cI cJ row att fnd tape tmany sort begs tends word valu good bits size shts lent imag befo kept) [(0, .ref (h 0))] 126 []) → ∀ (sort : Int32) (begs : Int32) (tends : Int32) (word : Int64) (valu : Int32) (s0 : Int64), f_X10_advance_b191 tape tmany kk sort begs tends word valu s0 = some res → sf_W p l e rm_X10_advance s m args below meth c 0 0 Q 2 D A (mo_W h cI cJ row att fnd tape tmany sort begs tends word valu good bits size shts lent imag befo kept) [(0, .ref (h 0))] 191 [.long s0, .ref (h 0)] := by
    intro kk hkk sort begs tends word valu s0 hf
    unfold f_X10_advance_b191 at hf
    refine sw_put (pc' := 194) (ws' := (mo_W h cI cJ row att fnd tape tmany sort begs tends s0 valu good bits size shts lent imag befo kept)) cx in_X10 tyX10 tyX10_ok nmX10 0 rfl rfl 8 (Nat.le_of_ble_eq_true rfl) fl_RX10_175 rfl rfl rfl (Nat.le_of_ble_eq_true rfl) dX10_advance_191 rfl rfl ?_
    refine sw_aload_n (pc' := 195) (i := 0) cx dX10_advance_194 rfl 0 rfl rfl ?_
    refine sw_dup (pc' := 196) cx dX10_advance_195 rfl rfl ?_
    refine sw_get (pc' := 199) cx in_X10 0 rfl rfl 7 (Nat.le_of_ble_eq_true rfl) fl_RX10_157 rfl dX10_advance_196 rfl ?_
    refine sw_iconst (pc' := 200) (v := 1) cx dX10_advance_199 iconst_1 rfl ?_
    refine sw_iadd (pc' := 201) cx dX10_advance_200 rfl ?_
    refine sw_put (pc' := 204) (ws' := (mo_W h cI cJ row att fnd tape tmany sort begs (tends + (1 : Int32)) s0 valu good bits size shts lent imag befo kept)) cx in_X10 tyX10 tyX10_ok nmX10 0 rfl rfl 7 (Nat.le_of_ble_eq_true rfl) fl_RX10_157 rfl rfl rfl (Nat.le_of_ble_eq_true rfl) dX10_advance_201 rfl rfl ?_
    refine sw_goto (tgt := 126) cx dX10_advance_204 (by decide) ?_
    exact sw_lv [0] rfl (hkk sort begs (tends + (1 : Int32)) s0 valu hf)
  have B265 : ∀ (kk : Int32 → Int32 → Int32 → Int64 → Int32 → Option (Int32 × Int32 × Int32 × Int64 × Int32)), (∀ (sort : Int32) (begs : Int32) (tends : Int32) (word : Int64) (valu : Int32), kk sort begs tends word valu = some res → sf_W p l e rm_X10_advance s m args below meth c 0 0 Q 2 D A (mo_W h cI cJ row att fnd tape tmany sort begs tends word valu good bits size shts lent imag befo kept) [(0, .ref (h 0))] 207 []) → ∀ (sort : Int32) (begs : Int32) (tends : Int32) (word : Int64) (valu : Int32) (s0 : Int32), f_X10_advance_b265 tape tmany kk sort begs tends word valu s0 = some res → sf_W p l e rm_X10_advance s m args below meth c 0 0 Q 2 D A (mo_W h cI cJ row att fnd tape tmany sort begs tends word valu good bits size shts lent imag befo kept) [(0, .ref (h 0))] 265 [.int s0, .ref (h 0)] := by
    intro kk hkk sort begs tends word valu s0 hf
    unfold f_X10_advance_b265 at hf
    refine sw_put (pc' := 268) (ws' := (mo_W h cI cJ row att fnd tape tmany sort begs tends word s0 good bits size shts lent imag befo kept)) cx in_X10 tyX10 tyX10_ok nmX10 0 rfl rfl 9 (Nat.le_of_ble_eq_true rfl) fl_RX10_179 rfl rfl rfl (Nat.le_of_ble_eq_true rfl) dX10_advance_265 rfl rfl ?_
    refine sw_aload_n (pc' := 269) (i := 0) cx dX10_advance_268 rfl 0 rfl rfl ?_
    refine sw_dup (pc' := 270) cx dX10_advance_269 rfl rfl ?_
    refine sw_get (pc' := 273) cx in_X10 0 rfl rfl 7 (Nat.le_of_ble_eq_true rfl) fl_RX10_157 rfl dX10_advance_270 rfl ?_
    refine sw_iconst (pc' := 274) (v := 1) cx dX10_advance_273 iconst_1 rfl ?_
    refine sw_iadd (pc' := 275) cx dX10_advance_274 rfl ?_
    refine sw_put (pc' := 278) (ws' := (mo_W h cI cJ row att fnd tape tmany sort begs (tends + (1 : Int32)) word s0 good bits size shts lent imag befo kept)) cx in_X10 tyX10 tyX10_ok nmX10 0 rfl rfl 7 (Nat.le_of_ble_eq_true rfl) fl_RX10_157 rfl rfl rfl (Nat.le_of_ble_eq_true rfl) dX10_advance_275 rfl rfl ?_
    refine sw_goto (tgt := 207) cx dX10_advance_278 (by decide) ?_
    exact sw_lv [0] rfl (hkk sort begs (tends + (1 : Int32)) word s0 hf)
  have B207 : ∀ (n : Nat), ∀ (sort : Int32) (begs : Int32) (tends : Int32) (word : Int64) (valu : Int32), f_X10_advance_b207 tape tmany n sort begs tends word valu = some res → sf_W p l e rm_X10_advance s m args below meth c 0 0 Q 2 D A (mo_W h cI cJ row att fnd tape tmany sort begs tends word valu good bits size shts lent imag befo kept) [(0, .ref (h 0))] 207 [] := by
    intro n
    induction n with
    | zero => intro sort begs tends word valu hf; rw [f_X10_advance_b207] at hf; cases hf
    | succ n ih =>
      intro sort begs tends word valu hf
      rw [f_X10_advance_b207] at hf
      refine sw_aload_n (pc' := 208) (i := 0) cx dX10_advance_207 rfl 0 rfl rfl ?_
      refine sw_get (pc' := 211) cx in_X10 0 rfl rfl 5 (Nat.le_of_ble_eq_true rfl) fl_RX10_172 rfl dX10_advance_208 rfl ?_
      refine sw_iconst (pc' := 212) (v := 2) cx dX10_advance_211 iconst_2 rfl ?_
      refine sw_icmp_ne (pc' := 215) (tgt := 281) cx dX10_advance_212 (by decide) rfl (fun c17 => ?_) (fun c17 => ?_)
      · replace hf := it_n c17 hf
        obtain rfl := Option.some.inj hf
        exact sw_vret cx hr hQ dX10_advance_281
      · replace hf := it_p c17 hf
        refine sw_aload_n (pc' := 216) (i := 0) cx dX10_advance_215 rfl 0 rfl rfl ?_
        refine sw_aload_n (pc' := 217) (i := 0) cx dX10_advance_216 rfl 0 rfl rfl ?_
        refine sw_get (pc' := 220) cx in_X10 0 rfl rfl 7 (Nat.le_of_ble_eq_true rfl) fl_RX10_157 rfl dX10_advance_217 rfl ?_
        obtain ⟨r18, hr18, hf⟩ := bd_s hf
        refine sw_callVw (pc' := 223) (As := [.int tends]) (rest := []) (w' := (mo_W h cI cJ row att fnd tape tmany sort begs tends word valu good bits size shts lent imag befo kept)) cx (k_X10_byteAt l D h cI cJ cK cS row att fnd tape tmany sort begs tends word valu good bits size shts lent imag befo kept tends r18 hr18) pk_yX10_byteAt ml_RX10_163 ⟨rfl, rfl⟩ ⟨(Nat.le_of_ble_eq_true rfl), (Nat.le_of_ble_eq_true rfl)⟩ ⟨(Nat.le_of_ble_eq_true rfl), (Nat.le_of_ble_eq_true rfl)⟩ 0 rfl rfl rfl rfl (Nat.le_of_ble_eq_true rfl) rfl dX10_advance_220 rfl ?_
        obtain ⟨r19, hr19, hf⟩ := bd_s hf
        refine sw_callS (pc' := 226) (As := [.int r18]) (rest := []) cx (k_X10_isDigit l D h cI cJ cK cS r18 r19 hr19) pk_yX10_isDigit ml_RX10_169 ⟨rfl, rfl⟩ ⟨(Nat.le_of_ble_eq_true rfl), (Nat.le_of_ble_eq_true rfl)⟩ ⟨(Nat.le_of_ble_eq_true rfl), (Nat.le_of_ble_eq_true rfl)⟩ [] rfl rfl rfl (wn := (mo_W h cI cJ row att fnd tape tmany sort begs tends word valu good bits size shts lent imag befo kept)) rfl rfl (Nat.le_of_ble_eq_true rfl) rfl dX10_advance_223 rfl ?_
        refine sw_if_eq (pc' := 229) (tgt := 281) cx dX10_advance_226 (by decide) rfl (fun c20 => ?_) (fun c20 => ?_)
        · replace hf := it_p c20 hf
          obtain rfl := Option.some.inj hf
          exact sw_vret cx hr hQ dX10_advance_281
        · replace hf := it_n c20 hf
          refine sw_aload_n (pc' := 230) (i := 0) cx dX10_advance_229 rfl 0 rfl rfl ?_
          refine sw_aload_n (pc' := 231) (i := 0) cx dX10_advance_230 rfl 0 rfl rfl ?_
          refine sw_get (pc' := 234) cx in_X10 0 rfl rfl 9 (Nat.le_of_ble_eq_true rfl) fl_RX10_179 rfl dX10_advance_231 rfl ?_
          refine sw_sipush (pc' := 237) (v := 999) cx dX10_advance_234 sipush_999 rfl ?_
          refine sw_icmp_le (pc' := 240) (tgt := 246) cx dX10_advance_237 (by decide) rfl (fun c21 => ?_) (fun c21 => ?_)
          · replace hf := it_p c21 hf
            refine sw_bipush (pc' := 248) (v := 10) cx dX10_advance_246 bipush_10 rfl ?_
            refine sw_aload_n (pc' := 249) (i := 0) cx dX10_advance_248 rfl 0 rfl rfl ?_
            refine sw_get (pc' := 252) cx in_X10 0 rfl rfl 9 (Nat.le_of_ble_eq_true rfl) fl_RX10_179 rfl dX10_advance_249 rfl ?_
            refine sw_imul (pc' := 253) cx dX10_advance_252 rfl ?_
            refine sw_aload_n (pc' := 254) (i := 0) cx dX10_advance_253 rfl 0 rfl rfl ?_
            refine sw_aload_n (pc' := 255) (i := 0) cx dX10_advance_254 rfl 0 rfl rfl ?_
            refine sw_get (pc' := 258) cx in_X10 0 rfl rfl 7 (Nat.le_of_ble_eq_true rfl) fl_RX10_157 rfl dX10_advance_255 rfl ?_
            obtain ⟨r22, hr22, hf⟩ := bd_s hf
            refine sw_callVw (pc' := 261) (As := [.int tends]) (rest := [.int ((10 : Int32) * valu), .ref (h 0)]) (w' := (mo_W h cI cJ row att fnd tape tmany sort begs tends word valu good bits size shts lent imag befo kept)) cx (k_X10_byteAt l D h cI cJ cK cS row att fnd tape tmany sort begs tends word valu good bits size shts lent imag befo kept tends r22 hr22) pk_yX10_byteAt ml_RX10_163 ⟨rfl, rfl⟩ ⟨(Nat.le_of_ble_eq_true rfl), (Nat.le_of_ble_eq_true rfl)⟩ ⟨(Nat.le_of_ble_eq_true rfl), (Nat.le_of_ble_eq_true rfl)⟩ 0 rfl rfl rfl rfl (Nat.le_of_ble_eq_true rfl) rfl dX10_advance_258 rfl ?_
            refine sw_iadd (pc' := 262) cx dX10_advance_261 rfl ?_
            refine sw_bipush (pc' := 264) (v := 48) cx dX10_advance_262 bipush_48 rfl ?_
            refine sw_isub (pc' := 265) cx dX10_advance_264 rfl ?_
            exact sw_lv [0] rfl (B265 _ ih sort begs tends word valu ((((10 : Int32) * valu) + r22) - (48 : Int32)) hf)
          · replace hf := it_n c21 hf
            refine sw_sipush (pc' := 243) (v := 10000) cx dX10_advance_240 sipush_10000 rfl ?_
            refine sw_goto (tgt := 265) cx dX10_advance_243 (by decide) ?_
            exact sw_lv [0] rfl (B265 _ ih sort begs tends word valu (10000 : Int32) hf)
  have B126 : ∀ (n : Nat), ∀ (sort : Int32) (begs : Int32) (tends : Int32) (word : Int64) (valu : Int32), f_X10_advance_b126 tape tmany n sort begs tends word valu = some res → sf_W p l e rm_X10_advance s m args below meth c 0 0 Q 2 D A (mo_W h cI cJ row att fnd tape tmany sort begs tends word valu good bits size shts lent imag befo kept) [(0, .ref (h 0))] 126 [] := by
    intro n
    induction n with
    | zero => intro sort begs tends word valu hf; rw [f_X10_advance_b126] at hf; cases hf
    | succ n ih =>
      intro sort begs tends word valu hf
      rw [f_X10_advance_b126] at hf
      refine sw_aload_n (pc' := 127) (i := 0) cx dX10_advance_126 rfl 0 rfl rfl ?_
      refine sw_get (pc' := 130) cx in_X10 0 rfl rfl 5 (Nat.le_of_ble_eq_true rfl) fl_RX10_172 rfl dX10_advance_127 rfl ?_
      refine sw_iconst (pc' := 131) (v := 1) cx dX10_advance_130 iconst_1 rfl ?_
      refine sw_icmp_ne (pc' := 134) (tgt := 207) cx dX10_advance_131 (by decide) rfl (fun c11 => ?_) (fun c11 => ?_)
      · replace hf := it_n c11 hf
        exact sw_lv [0] rfl (B207 1000 sort begs tends word valu hf)
      · replace hf := it_p c11 hf
        refine sw_aload_n (pc' := 135) (i := 0) cx dX10_advance_134 rfl 0 rfl rfl ?_
        refine sw_aload_n (pc' := 136) (i := 0) cx dX10_advance_135 rfl 0 rfl rfl ?_
        refine sw_get (pc' := 139) cx in_X10 0 rfl rfl 7 (Nat.le_of_ble_eq_true rfl) fl_RX10_157 rfl dX10_advance_136 rfl ?_
        obtain ⟨r12, hr12, hf⟩ := bd_s hf
        refine sw_callVw (pc' := 142) (As := [.int tends]) (rest := []) (w' := (mo_W h cI cJ row att fnd tape tmany sort begs tends word valu good bits size shts lent imag befo kept)) cx (k_X10_byteAt l D h cI cJ cK cS row att fnd tape tmany sort begs tends word valu good bits size shts lent imag befo kept tends r12 hr12) pk_yX10_byteAt ml_RX10_163 ⟨rfl, rfl⟩ ⟨(Nat.le_of_ble_eq_true rfl), (Nat.le_of_ble_eq_true rfl)⟩ ⟨(Nat.le_of_ble_eq_true rfl), (Nat.le_of_ble_eq_true rfl)⟩ 0 rfl rfl rfl rfl (Nat.le_of_ble_eq_true rfl) rfl dX10_advance_139 rfl ?_
        obtain ⟨r13, hr13, hf⟩ := bd_s hf
        refine sw_callS (pc' := 145) (As := [.int r12]) (rest := []) cx (k_X10_isLetter l D h cI cJ cK cS r12 r13 hr13) pk_yX10_isLetter ml_RX10_166 ⟨rfl, rfl⟩ ⟨(Nat.le_of_ble_eq_true rfl), (Nat.le_of_ble_eq_true rfl)⟩ ⟨(Nat.le_of_ble_eq_true rfl), (Nat.le_of_ble_eq_true rfl)⟩ [] rfl rfl rfl (wn := (mo_W h cI cJ row att fnd tape tmany sort begs tends word valu good bits size shts lent imag befo kept)) rfl rfl (Nat.le_of_ble_eq_true rfl) rfl dX10_advance_142 rfl ?_
        refine sw_if_eq (pc' := 148) (tgt := 207) cx dX10_advance_145 (by decide) rfl (fun c14 => ?_) (fun c14 => ?_)
        · replace hf := it_p c14 hf
          exact sw_lv [0] rfl (B207 1000 sort begs tends word valu hf)
        · replace hf := it_n c14 hf
          refine sw_aload_n (pc' := 149) (i := 0) cx dX10_advance_148 rfl 0 rfl rfl ?_
          refine sw_aload_n (pc' := 150) (i := 0) cx dX10_advance_149 rfl 0 rfl rfl ?_
          refine sw_get (pc' := 153) cx in_X10 0 rfl rfl 7 (Nat.le_of_ble_eq_true rfl) fl_RX10_157 rfl dX10_advance_150 rfl ?_
          refine sw_aload_n (pc' := 154) (i := 0) cx dX10_advance_153 rfl 0 rfl rfl ?_
          refine sw_get (pc' := 157) cx in_X10 0 rfl rfl 6 (Nat.le_of_ble_eq_true rfl) fl_RX10_160 rfl dX10_advance_154 rfl ?_
          refine sw_isub (pc' := 158) cx dX10_advance_157 rfl ?_
          refine sw_bipush (pc' := 160) (v := 12) cx dX10_advance_158 bipush_12 rfl ?_
          refine sw_icmp_ge (pc' := 163) (tgt := 188) cx dX10_advance_160 (by decide) rfl (fun c15 => ?_) (fun c15 => ?_)
          · replace hf := it_p c15 hf
            refine sw_ldc2_w (pc' := 191) cx cl_RX10_186 dX10_advance_188 rfl ?_
            exact sw_lv [0] rfl (B191 _ ih sort begs tends word valu (-1 : Int64) hf)
          · replace hf := it_n c15 hf
            refine sw_ldc2_w (pc' := 166) cx cl_RX10_182 dX10_advance_163 rfl ?_
            refine sw_aload_n (pc' := 167) (i := 0) cx dX10_advance_166 rfl 0 rfl rfl ?_
            refine sw_get (pc' := 170) cx in_X10 0 rfl rfl 8 (Nat.le_of_ble_eq_true rfl) fl_RX10_175 rfl dX10_advance_167 rfl ?_
            refine sw_lmul (pc' := 171) cx dX10_advance_170 rfl ?_
            refine sw_aload_n (pc' := 172) (i := 0) cx dX10_advance_171 rfl 0 rfl rfl ?_
            refine sw_aload_n (pc' := 173) (i := 0) cx dX10_advance_172 rfl 0 rfl rfl ?_
            refine sw_get (pc' := 176) cx in_X10 0 rfl rfl 7 (Nat.le_of_ble_eq_true rfl) fl_RX10_157 rfl dX10_advance_173 rfl ?_
            obtain ⟨r16, hr16, hf⟩ := bd_s hf
            refine sw_callVw (pc' := 179) (As := [.int tends]) (rest := [.long ((27 : Int64) * word), .ref (h 0)]) (w' := (mo_W h cI cJ row att fnd tape tmany sort begs tends word valu good bits size shts lent imag befo kept)) cx (k_X10_byteAt l D h cI cJ cK cS row att fnd tape tmany sort begs tends word valu good bits size shts lent imag befo kept tends r16 hr16) pk_yX10_byteAt ml_RX10_163 ⟨rfl, rfl⟩ ⟨(Nat.le_of_ble_eq_true rfl), (Nat.le_of_ble_eq_true rfl)⟩ ⟨(Nat.le_of_ble_eq_true rfl), (Nat.le_of_ble_eq_true rfl)⟩ 0 rfl rfl rfl rfl (Nat.le_of_ble_eq_true rfl) rfl dX10_advance_176 rfl ?_
            refine sw_i2l (pc' := 180) cx dX10_advance_179 rfl ?_
            refine sw_ladd (pc' := 181) cx dX10_advance_180 rfl ?_
            refine sw_ldc2_w (pc' := 184) cx cl_RX10_184 dX10_advance_181 rfl ?_
            refine sw_lsub (pc' := 185) cx dX10_advance_184 rfl ?_
            refine sw_goto (tgt := 191) cx dX10_advance_185 (by decide) ?_
            exact sw_lv [0] rfl (B191 _ ih sort begs tends word valu ((((27 : Int64) * word) + ((r16).toInt64)) - (96 : Int64)) hf)
  have B105 : ∀ (sort : Int32) (begs : Int32) (tends : Int32) (word : Int64) (valu : Int32) (s0 : Int32), f_X10_advance_b105 tape tmany sort begs tends word valu s0 = some res → sf_W p l e rm_X10_advance s m args below meth c 0 0 Q 2 D A (mo_W h cI cJ row att fnd tape tmany sort begs tends word valu good bits size shts lent imag befo kept) [(0, .ref (h 0))] 105 [.int s0, .ref (h 0)] := by
    intro sort begs tends word valu s0 hf
    unfold f_X10_advance_b105 at hf
    refine sw_put (pc' := 108) (ws' := (mo_W h cI cJ row att fnd tape tmany sort begs tends word s0 good bits size shts lent imag befo kept)) cx in_X10 tyX10 tyX10_ok nmX10 0 rfl rfl 9 (Nat.le_of_ble_eq_true rfl) fl_RX10_179 rfl rfl rfl (Nat.le_of_ble_eq_true rfl) dX10_advance_105 rfl rfl ?_
    refine sw_aload_n (pc' := 109) (i := 0) cx dX10_advance_108 rfl 0 rfl rfl ?_
    refine sw_get (pc' := 112) cx in_X10 0 rfl rfl 5 (Nat.le_of_ble_eq_true rfl) fl_RX10_172 rfl dX10_advance_109 rfl ?_
    refine sw_iconst (pc' := 113) (v := 3) cx dX10_advance_112 iconst_3 rfl ?_
    refine sw_icmp_ne (pc' := 116) (tgt := 126) cx dX10_advance_113 (by decide) rfl (fun c10 => ?_) (fun c10 => ?_)
    · replace hf := it_n c10 hf
      exact sw_lv [0] rfl (B126 1000 sort begs tends word s0 hf)
    · replace hf := it_p c10 hf
      refine sw_aload_n (pc' := 117) (i := 0) cx dX10_advance_116 rfl 0 rfl rfl ?_
      refine sw_dup (pc' := 118) cx dX10_advance_117 rfl rfl ?_
      refine sw_get (pc' := 121) cx in_X10 0 rfl rfl 7 (Nat.le_of_ble_eq_true rfl) fl_RX10_157 rfl dX10_advance_118 rfl ?_
      refine sw_iconst (pc' := 122) (v := 1) cx dX10_advance_121 iconst_1 rfl ?_
      refine sw_iadd (pc' := 123) cx dX10_advance_122 rfl ?_
      refine sw_put (pc' := 126) (ws' := (mo_W h cI cJ row att fnd tape tmany sort begs (tends + (1 : Int32)) word s0 good bits size shts lent imag befo kept)) cx in_X10 tyX10 tyX10_ok nmX10 0 rfl rfl 7 (Nat.le_of_ble_eq_true rfl) fl_RX10_157 rfl rfl rfl (Nat.le_of_ble_eq_true rfl) dX10_advance_123 rfl rfl ?_
      exact sw_lv [0] rfl (B126 1000 sort begs (tends + (1 : Int32)) word s0 hf)
  have B83 : ∀ (sort : Int32) (begs : Int32) (tends : Int32) (word : Int64) (valu : Int32) (x1 : Int32) (s0 : Int32), f_X10_advance_b83 tape tmany sort begs tends word valu x1 s0 = some res → sf_W p l e rm_X10_advance s m args below meth c 0 0 Q 2 D A (mo_W h cI cJ row att fnd tape tmany sort begs tends word valu good bits size shts lent imag befo kept) [(0, .ref (h 0)), (1, .int x1)] 83 [.int s0, .ref (h 0)] := by
    intro sort begs tends word valu x1 s0 hf
    unfold f_X10_advance_b83 at hf
    refine sw_put (pc' := 86) (ws' := (mo_W h cI cJ row att fnd tape tmany s0 begs tends word valu good bits size shts lent imag befo kept)) cx in_X10 tyX10 tyX10_ok nmX10 0 rfl rfl 5 (Nat.le_of_ble_eq_true rfl) fl_RX10_172 rfl rfl rfl (Nat.le_of_ble_eq_true rfl) dX10_advance_83 rfl rfl ?_
    refine sw_aload_n (pc' := 87) (i := 0) cx dX10_advance_86 rfl 0 rfl rfl ?_
    refine sw_lconst (pc' := 88) (v := 0) cx dX10_advance_87 rfl rfl ?_
    refine sw_put (pc' := 91) (ws' := (mo_W h cI cJ row att fnd tape tmany s0 begs tends (0 : Int64) valu good bits size shts lent imag befo kept)) cx in_X10 tyX10 tyX10_ok nmX10 0 rfl rfl 8 (Nat.le_of_ble_eq_true rfl) fl_RX10_175 rfl rfl rfl (Nat.le_of_ble_eq_true rfl) dX10_advance_88 rfl rfl ?_
    refine sw_aload_n (pc' := 92) (i := 0) cx dX10_advance_91 rfl 0 rfl rfl ?_
    refine sw_aload_n (pc' := 93) (i := 0) cx dX10_advance_92 rfl 0 rfl rfl ?_
    refine sw_get (pc' := 96) cx in_X10 0 rfl rfl 5 (Nat.le_of_ble_eq_true rfl) fl_RX10_172 rfl dX10_advance_93 rfl ?_
    refine sw_iconst (pc' := 97) (v := 2) cx dX10_advance_96 iconst_2 rfl ?_
    refine sw_icmp_ne (pc' := 100) (tgt := 104) cx dX10_advance_97 (by decide) rfl (fun c9 => ?_) (fun c9 => ?_)
    · replace hf := it_n c9 hf
      refine sw_iload_n (pc' := 105) (i := 1) cx dX10_advance_104 rfl 1 rfl rfl ?_
      exact sw_lv [0] rfl (B105 s0 begs tends (0 : Int64) valu x1 hf)
    · replace hf := it_p c9 hf
      refine sw_iconst (pc' := 101) (v := 0) cx dX10_advance_100 iconst_0 rfl ?_
      refine sw_goto (tgt := 105) cx dX10_advance_101 (by decide) ?_
      exact sw_lv [0] rfl (B105 s0 begs tends (0 : Int64) valu (0 : Int32) hf)
  have B8 : ∀ (n : Nat), ∀ (sort : Int32) (begs : Int32) (tends : Int32) (word : Int64) (valu : Int32), f_X10_advance_b8 tape tmany n sort begs tends word valu = some res → sf_W p l e rm_X10_advance s m args below meth c 0 0 Q 2 D A (mo_W h cI cJ row att fnd tape tmany sort begs tends word valu good bits size shts lent imag befo kept) [(0, .ref (h 0))] 8 [] := by
    intro n
    induction n with
    | zero => intro sort begs tends word valu hf; rw [f_X10_advance_b8] at hf; cases hf
    | succ n ih =>
      intro sort begs tends word valu hf
      rw [f_X10_advance_b8] at hf
      refine sw_aload_n (pc' := 9) (i := 0) cx dX10_advance_8 rfl 0 rfl rfl ?_
      refine sw_aload_n (pc' := 10) (i := 0) cx dX10_advance_9 rfl 0 rfl rfl ?_
      refine sw_get (pc' := 13) cx in_X10 0 rfl rfl 6 (Nat.le_of_ble_eq_true rfl) fl_RX10_160 rfl dX10_advance_10 rfl ?_
      obtain ⟨r1, hr1, hf⟩ := bd_s hf
      refine sw_callVw (pc' := 16) (As := [.int begs]) (rest := []) (w' := (mo_W h cI cJ row att fnd tape tmany sort begs tends word valu good bits size shts lent imag befo kept)) cx (k_X10_byteAt l D h cI cJ cK cS row att fnd tape tmany sort begs tends word valu good bits size shts lent imag befo kept begs r1 hr1) pk_yX10_byteAt ml_RX10_163 ⟨rfl, rfl⟩ ⟨(Nat.le_of_ble_eq_true rfl), (Nat.le_of_ble_eq_true rfl)⟩ ⟨(Nat.le_of_ble_eq_true rfl), (Nat.le_of_ble_eq_true rfl)⟩ 0 rfl rfl rfl rfl (Nat.le_of_ble_eq_true rfl) rfl dX10_advance_13 rfl ?_
      refine sw_bipush (pc' := 18) (v := 32) cx dX10_advance_16 bipush_32 rfl ?_
      refine sw_icmp_ne (pc' := 21) (tgt := 34) cx dX10_advance_18 (by decide) rfl (fun c2 => ?_) (fun c2 => ?_)
      · replace hf := it_n c2 hf
        refine sw_aload_n (pc' := 35) (i := 0) cx dX10_advance_34 rfl 0 rfl rfl ?_
        refine sw_aload_n (pc' := 36) (i := 0) cx dX10_advance_35 rfl 0 rfl rfl ?_
        refine sw_get (pc' := 39) cx in_X10 0 rfl rfl 6 (Nat.le_of_ble_eq_true rfl) fl_RX10_160 rfl dX10_advance_36 rfl ?_
        refine sw_put (pc' := 42) (ws' := (mo_W h cI cJ row att fnd tape tmany sort begs begs word valu good bits size shts lent imag befo kept)) cx in_X10 tyX10 tyX10_ok nmX10 0 rfl rfl 7 (Nat.le_of_ble_eq_true rfl) fl_RX10_157 rfl rfl rfl (Nat.le_of_ble_eq_true rfl) dX10_advance_39 rfl rfl ?_
        refine sw_aload_n (pc' := 43) (i := 0) cx dX10_advance_42 rfl 0 rfl rfl ?_
        refine sw_aload_n (pc' := 44) (i := 0) cx dX10_advance_43 rfl 0 rfl rfl ?_
        refine sw_get (pc' := 47) cx in_X10 0 rfl rfl 6 (Nat.le_of_ble_eq_true rfl) fl_RX10_160 rfl dX10_advance_44 rfl ?_
        obtain ⟨r3, hr3, hf⟩ := bd_s hf
        refine sw_callVw (pc' := 50) (As := [.int begs]) (rest := []) (w' := (mo_W h cI cJ row att fnd tape tmany sort begs begs word valu good bits size shts lent imag befo kept)) cx (k_X10_byteAt l D h cI cJ cK cS row att fnd tape tmany sort begs begs word valu good bits size shts lent imag befo kept begs r3 hr3) pk_yX10_byteAt ml_RX10_163 ⟨rfl, rfl⟩ ⟨(Nat.le_of_ble_eq_true rfl), (Nat.le_of_ble_eq_true rfl)⟩ ⟨(Nat.le_of_ble_eq_true rfl), (Nat.le_of_ble_eq_true rfl)⟩ 0 rfl rfl rfl rfl (Nat.le_of_ble_eq_true rfl) rfl dX10_advance_47 rfl ?_
        refine sw_istore_n (pc' := 51) (i := 1) (lv' := [(1, .int r3), (0, .ref (h 0))]) cx dX10_advance_50 rfl (Nat.le_of_ble_eq_true rfl) rfl rfl ?_
        refine sw_aload_n (pc' := 52) (i := 0) cx dX10_advance_51 rfl 1 rfl rfl ?_
        refine sw_iload_n (pc' := 53) (i := 1) cx dX10_advance_52 rfl 0 rfl rfl ?_
        refine sw_if_ge (pc' := 56) (tgt := 60) cx dX10_advance_53 (by decide) rfl (fun c4 => ?_) (fun c4 => ?_)
        · replace hf := it_p c4 hf
          refine sw_iload_n (pc' := 61) (i := 1) cx dX10_advance_60 rfl 0 rfl rfl ?_
          obtain ⟨r5, hr5, hf⟩ := bd_s hf
          refine sw_callS (pc' := 64) (As := [.int r3]) (rest := [.ref (h 0)]) cx (k_X10_isLetter l D h cI cJ cK cS r3 r5 hr5) pk_yX10_isLetter ml_RX10_166 ⟨rfl, rfl⟩ ⟨(Nat.le_of_ble_eq_true rfl), (Nat.le_of_ble_eq_true rfl)⟩ ⟨(Nat.le_of_ble_eq_true rfl), (Nat.le_of_ble_eq_true rfl)⟩ [] rfl rfl rfl (wn := (mo_W h cI cJ row att fnd tape tmany sort begs begs word valu good bits size shts lent imag befo kept)) rfl rfl (Nat.le_of_ble_eq_true rfl) rfl dX10_advance_61 rfl ?_
          refine sw_if_eq (pc' := 67) (tgt := 71) cx dX10_advance_64 (by decide) rfl (fun c6 => ?_) (fun c6 => ?_)
          · replace hf := it_p c6 hf
            refine sw_iload_n (pc' := 72) (i := 1) cx dX10_advance_71 rfl 0 rfl rfl ?_
            obtain ⟨r7, hr7, hf⟩ := bd_s hf
            refine sw_callS (pc' := 75) (As := [.int r3]) (rest := [.ref (h 0)]) cx (k_X10_isDigit l D h cI cJ cK cS r3 r7 hr7) pk_yX10_isDigit ml_RX10_169 ⟨rfl, rfl⟩ ⟨(Nat.le_of_ble_eq_true rfl), (Nat.le_of_ble_eq_true rfl)⟩ ⟨(Nat.le_of_ble_eq_true rfl), (Nat.le_of_ble_eq_true rfl)⟩ [] rfl rfl rfl (wn := (mo_W h cI cJ row att fnd tape tmany sort begs begs word valu good bits size shts lent imag befo kept)) rfl rfl (Nat.le_of_ble_eq_true rfl) rfl dX10_advance_72 rfl ?_
            refine sw_if_eq (pc' := 78) (tgt := 82) cx dX10_advance_75 (by decide) rfl (fun c8 => ?_) (fun c8 => ?_)
            · replace hf := it_p c8 hf
              refine sw_iconst (pc' := 83) (v := 3) cx dX10_advance_82 iconst_3 rfl ?_
              exact sw_lv [1, 0] rfl (B83 sort begs begs word valu r3 (3 : Int32) hf)
            · replace hf := it_n c8 hf
              refine sw_iconst (pc' := 79) (v := 2) cx dX10_advance_78 iconst_2 rfl ?_
              refine sw_goto (tgt := 83) cx dX10_advance_79 (by decide) ?_
              exact sw_lv [1, 0] rfl (B83 sort begs begs word valu r3 (2 : Int32) hf)
          · replace hf := it_n c6 hf
            refine sw_iconst (pc' := 68) (v := 1) cx dX10_advance_67 iconst_1 rfl ?_
            refine sw_goto (tgt := 83) cx dX10_advance_68 (by decide) ?_
            exact sw_lv [1, 0] rfl (B83 sort begs begs word valu r3 (1 : Int32) hf)
        · replace hf := it_n c4 hf
          refine sw_iconst (pc' := 57) (v := 0) cx dX10_advance_56 iconst_0 rfl ?_
          refine sw_goto (tgt := 83) cx dX10_advance_57 (by decide) ?_
          exact sw_lv [1, 0] rfl (B83 sort begs begs word valu r3 (0 : Int32) hf)
      · replace hf := it_p c2 hf
        refine sw_aload_n (pc' := 22) (i := 0) cx dX10_advance_21 rfl 0 rfl rfl ?_
        refine sw_dup (pc' := 23) cx dX10_advance_22 rfl rfl ?_
        refine sw_get (pc' := 26) cx in_X10 0 rfl rfl 6 (Nat.le_of_ble_eq_true rfl) fl_RX10_160 rfl dX10_advance_23 rfl ?_
        refine sw_iconst (pc' := 27) (v := 1) cx dX10_advance_26 iconst_1 rfl ?_
        refine sw_iadd (pc' := 28) cx dX10_advance_27 rfl ?_
        refine sw_put (pc' := 31) (ws' := (mo_W h cI cJ row att fnd tape tmany sort (begs + (1 : Int32)) tends word valu good bits size shts lent imag befo kept)) cx in_X10 tyX10 tyX10_ok nmX10 0 rfl rfl 6 (Nat.le_of_ble_eq_true rfl) fl_RX10_160 rfl rfl rfl (Nat.le_of_ble_eq_true rfl) dX10_advance_28 rfl rfl ?_
        refine sw_goto (tgt := 8) cx dX10_advance_31 (by decide) ?_
        exact sw_lv [0] rfl (ih sort (begs + (1 : Int32)) tends word valu hf)
  unfold f_X10_advance at hf
  refine sw_aload_n (pc' := 1) (i := 0) cx dX10_advance_0 rfl 0 rfl rfl ?_
  refine sw_aload_n (pc' := 2) (i := 0) cx dX10_advance_1 rfl 0 rfl rfl ?_
  refine sw_get (pc' := 5) cx in_X10 0 rfl rfl 7 (Nat.le_of_ble_eq_true rfl) fl_RX10_157 rfl dX10_advance_2 rfl ?_
  refine sw_put (pc' := 8) (ws' := (mo_W h cI cJ row att fnd tape tmany sort tends tends word valu good bits size shts lent imag befo kept)) cx in_X10 tyX10 tyX10_ok nmX10 0 rfl rfl 6 (Nat.le_of_ble_eq_true rfl) fl_RX10_160 rfl rfl rfl (Nat.le_of_ble_eq_true rfl) dX10_advance_5 rfl rfl ?_
  exact sw_lv [0] rfl (B8 1000 sort tends tends word valu hf)
abbrev rm_X10_isWord : Room := ({ frames := 0, cells := 0, slots := 0, locals := 0 } : Room)
set_option maxRecDepth 100000 in
set_option maxHeartbeats 4000000 in
theorem k_X10_isWord (l : Launch) (D : sf_D) (h : Nat → Nat) (cI cJ cK cS : ClassId) (row : Nat → Int32) (att : Int32) (fnd : Nat → Int32) (tape : Nat → Int32) (tmany : Int32) (sort : Int32) (begs : Int32) (tends : Int32) (word : Int64) (valu : Int32) (good : Int32) (bits : Nat → Int32) (size : Nat → Int32) (shts : Nat → Int64) (lent : Nat → Int64) (imag : Nat → Int32) (befo : Nat → Int32) (kept : Int32) (a0 : Int64) (res : Int32) (hf : f_X10_isWord sort word a0 = some res) : sf_Ct l yX10_isWord cX10_isWord 3 (some .boolean) rm_X10_isWord D (sf_ty cI cJ cK cS) [.ref (h 0), .long a0] (mo_W h cI cJ row att fnd tape tmany sort begs tends word valu good bits size shts lent imag befo kept) (some (.int res)) (mo_W h cI cJ row att fnd tape tmany sort begs tends word valu good bits size shts lent imag befo kept) := by
  refine sf_met (lv := [(0, .ref (h 0)), (1, .long a0)]) (by decide) (Nat.le_of_ble_eq_true rfl) rfl ?_
  intro p e s m args below meth c A Q cx hr hQ
  have cx : sf_Cx p m meth c cX10_isWord 3 s args RX10 D (sf_ty cI cJ cK cS) A := cx
  unfold f_X10_isWord at hf
  refine sw_aload_n (pc' := 1) (i := 0) cx dX10_isWord_0 rfl 0 rfl rfl ?_
  refine sw_get (pc' := 4) cx in_X10 0 rfl rfl 5 (Nat.le_of_ble_eq_true rfl) fl_RX10_172 rfl dX10_isWord_1 rfl ?_
  refine sw_iconst (pc' := 5) (v := 1) cx dX10_isWord_4 iconst_1 rfl ?_
  refine sw_icmp_ne (pc' := 8) (tgt := 21) cx dX10_isWord_5 (by decide) rfl (fun c1 => ?_) (fun c1 => ?_)
  · replace hf := it_n c1 hf
    refine sw_iconst (pc' := 22) (v := 0) cx dX10_isWord_21 iconst_0 rfl ?_
    obtain rfl := Option.some.inj hf
    exact sw_zret cx hr (by decide +kernel) hQ dX10_isWord_22
  · replace hf := it_p c1 hf
    refine sw_aload_n (pc' := 9) (i := 0) cx dX10_isWord_8 rfl 0 rfl rfl ?_
    refine sw_get (pc' := 12) cx in_X10 0 rfl rfl 8 (Nat.le_of_ble_eq_true rfl) fl_RX10_175 rfl dX10_isWord_9 rfl ?_
    refine sw_lload_n (pc' := 13) (i := 1) cx dX10_isWord_12 rfl 1 rfl rfl ?_
    refine sw_lcmp (pc' := 14) cx dX10_isWord_13 rfl ?_
    refine sw_if_ne (pc' := 17) (tgt := 21) cx dX10_isWord_14 (by decide) rfl (fun c2 => ?_) (fun c2 => ?_)
    · replace hf := it_n c2 hf
      refine sw_iconst (pc' := 22) (v := 0) cx dX10_isWord_21 iconst_0 rfl ?_
      obtain rfl := Option.some.inj hf
      exact sw_zret cx hr (by decide +kernel) hQ dX10_isWord_22
    · replace hf := it_p c2 hf
      refine sw_iconst (pc' := 18) (v := 1) cx dX10_isWord_17 iconst_1 rfl ?_
      refine sw_goto (tgt := 22) cx dX10_isWord_18 (by decide) ?_
      obtain rfl := Option.some.inj hf
      exact sw_zret cx hr (by decide +kernel) hQ dX10_isWord_22
abbrev rm_X10_kindHere : Room := ({ frames := 1, cells := 0, slots := 0, locals := 22 } : Room)
set_option maxRecDepth 100000 in
set_option maxHeartbeats 4000000 in
theorem k_X10_kindHere (l : Launch) (D : sf_D) (h : Nat → Nat) (cI cJ cK cS : ClassId) (row : Nat → Int32) (att : Int32) (fnd : Nat → Int32) (tape : Nat → Int32) (tmany : Int32) (sort : Int32) (begs : Int32) (tends : Int32) (word : Int64) (valu : Int32) (good : Int32) (bits : Nat → Int32) (size : Nat → Int32) (shts : Nat → Int64) (lent : Nat → Int64) (imag : Nat → Int32) (befo : Nat → Int32) (kept : Int32)  (res : Int32) (hf : f_X10_kindHere sort word = some res) : sf_Ct l yX10_kindHere cX10_kindHere 1 (some .int) rm_X10_kindHere D (sf_ty cI cJ cK cS) [.ref (h 0)] (mo_W h cI cJ row att fnd tape tmany sort begs tends word valu good bits size shts lent imag befo kept) (some (.int res)) (mo_W h cI cJ row att fnd tape tmany sort begs tends word valu good bits size shts lent imag befo kept) := by
  refine sf_met (lv := [(0, .ref (h 0))]) (by decide) (Nat.le_of_ble_eq_true rfl) rfl ?_
  intro p e s m args below meth c A Q cx hr hQ
  have cx : sf_Cx p m meth c cX10_kindHere 1 s args RX10 D (sf_ty cI cJ cK cS) A := cx
  unfold f_X10_kindHere at hf
  refine sw_aload_n (pc' := 1) (i := 0) cx dX10_kindHere_0 rfl 0 rfl rfl ?_
  refine sw_ldc2_w (pc' := 4) cx cl_RX10_188 dX10_kindHere_1 rfl ?_
  obtain ⟨r1, hr1, hf⟩ := bd_s hf
  refine sw_callVw (pc' := 7) (As := [.long (125042 : Int64)]) (rest := []) (w' := (mo_W h cI cJ row att fnd tape tmany sort begs tends word valu good bits size shts lent imag befo kept)) cx (k_X10_isWord l D h cI cJ cK cS row att fnd tape tmany sort begs tends word valu good bits size shts lent imag befo kept (125042 : Int64) r1 hr1) pk_yX10_isWord ml_RX10_190 ⟨rfl, rfl⟩ ⟨(Nat.le_of_ble_eq_true rfl), (Nat.le_of_ble_eq_true rfl)⟩ ⟨(Nat.le_of_ble_eq_true rfl), (Nat.le_of_ble_eq_true rfl)⟩ 0 rfl rfl rfl rfl (Nat.le_of_ble_eq_true rfl) rfl dX10_kindHere_4 rfl ?_
  refine sw_if_eq (pc' := 10) (tgt := 14) cx dX10_kindHere_7 (by decide) rfl (fun c2 => ?_) (fun c2 => ?_)
  · replace hf := it_p c2 hf
    refine sw_aload_n (pc' := 15) (i := 0) cx dX10_kindHere_14 rfl 0 rfl rfl ?_
    refine sw_ldc2_w (pc' := 18) cx cl_RX10_194 dX10_kindHere_15 rfl ?_
    obtain ⟨r3, hr3, hf⟩ := bd_s hf
    refine sw_callVw (pc' := 21) (As := [.long (276913705 : Int64)]) (rest := []) (w' := (mo_W h cI cJ row att fnd tape tmany sort begs tends word valu good bits size shts lent imag befo kept)) cx (k_X10_isWord l D h cI cJ cK cS row att fnd tape tmany sort begs tends word valu good bits size shts lent imag befo kept (276913705 : Int64) r3 hr3) pk_yX10_isWord ml_RX10_190 ⟨rfl, rfl⟩ ⟨(Nat.le_of_ble_eq_true rfl), (Nat.le_of_ble_eq_true rfl)⟩ ⟨(Nat.le_of_ble_eq_true rfl), (Nat.le_of_ble_eq_true rfl)⟩ 0 rfl rfl rfl rfl (Nat.le_of_ble_eq_true rfl) rfl dX10_kindHere_18 rfl ?_
    refine sw_if_eq (pc' := 24) (tgt := 28) cx dX10_kindHere_21 (by decide) rfl (fun c4 => ?_) (fun c4 => ?_)
    · replace hf := it_p c4 hf
      refine sw_aload_n (pc' := 29) (i := 0) cx dX10_kindHere_28 rfl 0 rfl rfl ?_
      refine sw_ldc2_w (pc' := 32) cx cl_RX10_196 dX10_kindHere_29 rfl ?_
      obtain ⟨r5, hr5, hf⟩ := bd_s hf
      refine sw_callVw (pc' := 35) (As := [.long (28801 : Int64)]) (rest := []) (w' := (mo_W h cI cJ row att fnd tape tmany sort begs tends word valu good bits size shts lent imag befo kept)) cx (k_X10_isWord l D h cI cJ cK cS row att fnd tape tmany sort begs tends word valu good bits size shts lent imag befo kept (28801 : Int64) r5 hr5) pk_yX10_isWord ml_RX10_190 ⟨rfl, rfl⟩ ⟨(Nat.le_of_ble_eq_true rfl), (Nat.le_of_ble_eq_true rfl)⟩ ⟨(Nat.le_of_ble_eq_true rfl), (Nat.le_of_ble_eq_true rfl)⟩ 0 rfl rfl rfl rfl (Nat.le_of_ble_eq_true rfl) rfl dX10_kindHere_32 rfl ?_
      refine sw_if_eq (pc' := 38) (tgt := 42) cx dX10_kindHere_35 (by decide) rfl (fun c6 => ?_) (fun c6 => ?_)
      · replace hf := it_p c6 hf
        refine sw_aload_n (pc' := 43) (i := 0) cx dX10_kindHere_42 rfl 0 rfl rfl ?_
        refine sw_ldc2_w (pc' := 46) cx cl_RX10_198 dX10_kindHere_43 rfl ?_
        obtain ⟨r7, hr7, hf⟩ := bd_s hf
        refine sw_callVw (pc' := 49) (As := [.long (4285627 : Int64)]) (rest := []) (w' := (mo_W h cI cJ row att fnd tape tmany sort begs tends word valu good bits size shts lent imag befo kept)) cx (k_X10_isWord l D h cI cJ cK cS row att fnd tape tmany sort begs tends word valu good bits size shts lent imag befo kept (4285627 : Int64) r7 hr7) pk_yX10_isWord ml_RX10_190 ⟨rfl, rfl⟩ ⟨(Nat.le_of_ble_eq_true rfl), (Nat.le_of_ble_eq_true rfl)⟩ ⟨(Nat.le_of_ble_eq_true rfl), (Nat.le_of_ble_eq_true rfl)⟩ 0 rfl rfl rfl rfl (Nat.le_of_ble_eq_true rfl) rfl dX10_kindHere_46 rfl ?_
        refine sw_if_eq (pc' := 52) (tgt := 56) cx dX10_kindHere_49 (by decide) rfl (fun c8 => ?_) (fun c8 => ?_)
        · replace hf := it_p c8 hf
          refine sw_aload_n (pc' := 57) (i := 0) cx dX10_kindHere_56 rfl 0 rfl rfl ?_
          refine sw_ldc2_w (pc' := 60) cx cl_RX10_200 dX10_kindHere_57 rfl ?_
          obtain ⟨r9, hr9, hf⟩ := bd_s hf
          refine sw_callVw (pc' := 63) (As := [.long (2401198564 : Int64)]) (rest := []) (w' := (mo_W h cI cJ row att fnd tape tmany sort begs tends word valu good bits size shts lent imag befo kept)) cx (k_X10_isWord l D h cI cJ cK cS row att fnd tape tmany sort begs tends word valu good bits size shts lent imag befo kept (2401198564 : Int64) r9 hr9) pk_yX10_isWord ml_RX10_190 ⟨rfl, rfl⟩ ⟨(Nat.le_of_ble_eq_true rfl), (Nat.le_of_ble_eq_true rfl)⟩ ⟨(Nat.le_of_ble_eq_true rfl), (Nat.le_of_ble_eq_true rfl)⟩ 0 rfl rfl rfl rfl (Nat.le_of_ble_eq_true rfl) rfl dX10_kindHere_60 rfl ?_
          refine sw_if_eq (pc' := 66) (tgt := 70) cx dX10_kindHere_63 (by decide) rfl (fun c10 => ?_) (fun c10 => ?_)
          · replace hf := it_p c10 hf
            refine sw_aload_n (pc' := 71) (i := 0) cx dX10_kindHere_70 rfl 0 rfl rfl ?_
            refine sw_ldc2_w (pc' := 74) cx cl_RX10_202 dX10_kindHere_71 rfl ?_
            obtain ⟨r11, hr11, hf⟩ := bd_s hf
            refine sw_callVw (pc' := 77) (As := [.long (7380411658 : Int64)]) (rest := []) (w' := (mo_W h cI cJ row att fnd tape tmany sort begs tends word valu good bits size shts lent imag befo kept)) cx (k_X10_isWord l D h cI cJ cK cS row att fnd tape tmany sort begs tends word valu good bits size shts lent imag befo kept (7380411658 : Int64) r11 hr11) pk_yX10_isWord ml_RX10_190 ⟨rfl, rfl⟩ ⟨(Nat.le_of_ble_eq_true rfl), (Nat.le_of_ble_eq_true rfl)⟩ ⟨(Nat.le_of_ble_eq_true rfl), (Nat.le_of_ble_eq_true rfl)⟩ 0 rfl rfl rfl rfl (Nat.le_of_ble_eq_true rfl) rfl dX10_kindHere_74 rfl ?_
            refine sw_if_eq (pc' := 80) (tgt := 84) cx dX10_kindHere_77 (by decide) rfl (fun c12 => ?_) (fun c12 => ?_)
            · replace hf := it_p c12 hf
              refine sw_iconst (pc' := 85) (v := -1) cx dX10_kindHere_84 iconst_m1 rfl ?_
              obtain rfl := Option.some.inj hf
              exact sw_iret cx hr hQ dX10_kindHere_85
            · replace hf := it_n c12 hf
              refine sw_iconst (pc' := 81) (v := 5) cx dX10_kindHere_80 iconst_5 rfl ?_
              refine sw_goto (tgt := 85) cx dX10_kindHere_81 (by decide) ?_
              obtain rfl := Option.some.inj hf
              exact sw_iret cx hr hQ dX10_kindHere_85
          · replace hf := it_n c10 hf
            refine sw_iconst (pc' := 67) (v := 4) cx dX10_kindHere_66 iconst_4 rfl ?_
            refine sw_goto (tgt := 85) cx dX10_kindHere_67 (by decide) ?_
            obtain rfl := Option.some.inj hf
            exact sw_iret cx hr hQ dX10_kindHere_85
        · replace hf := it_n c8 hf
          refine sw_iconst (pc' := 53) (v := 3) cx dX10_kindHere_52 iconst_3 rfl ?_
          refine sw_goto (tgt := 85) cx dX10_kindHere_53 (by decide) ?_
          obtain rfl := Option.some.inj hf
          exact sw_iret cx hr hQ dX10_kindHere_85
      · replace hf := it_n c6 hf
        refine sw_iconst (pc' := 39) (v := 2) cx dX10_kindHere_38 iconst_2 rfl ?_
        refine sw_goto (tgt := 85) cx dX10_kindHere_39 (by decide) ?_
        obtain rfl := Option.some.inj hf
        exact sw_iret cx hr hQ dX10_kindHere_85
    · replace hf := it_n c4 hf
      refine sw_iconst (pc' := 25) (v := 1) cx dX10_kindHere_24 iconst_1 rfl ?_
      refine sw_goto (tgt := 85) cx dX10_kindHere_25 (by decide) ?_
      obtain rfl := Option.some.inj hf
      exact sw_iret cx hr hQ dX10_kindHere_85
  · replace hf := it_n c2 hf
    refine sw_iconst (pc' := 11) (v := 0) cx dX10_kindHere_10 iconst_0 rfl ?_
    refine sw_goto (tgt := 85) cx dX10_kindHere_11 (by decide) ?_
    obtain rfl := Option.some.inj hf
    exact sw_iret cx hr hQ dX10_kindHere_85
abbrev rm_X10_wantNumber : Room := ({ frames := 3, cells := 0, slots := 0, locals := 63 } : Room)
set_option maxRecDepth 100000 in
set_option maxHeartbeats 4000000 in
theorem k_X10_wantNumber (l : Launch) (D : sf_D) (h : Nat → Nat) (cI cJ cK cS : ClassId) (row : Nat → Int32) (att : Int32) (fnd : Nat → Int32) (tape : Nat → Int32) (tmany : Int32) (sort : Int32) (begs : Int32) (tends : Int32) (word : Int64) (valu : Int32) (good : Int32) (bits : Nat → Int32) (size : Nat → Int32) (shts : Nat → Int64) (lent : Nat → Int64) (imag : Nat → Int32) (befo : Nat → Int32) (kept : Int32) (a0 : Int32) (a1 : Int32) (res : Int32 × Int32 × Int32 × Int32 × Int64 × Int32 × Int32) (hf : f_X10_wantNumber tape tmany sort begs tends word valu good a0 a1 = some res) : sf_Ct l yX10_wantNumber cX10_wantNumber 4 (some .int) rm_X10_wantNumber D (sf_ty cI cJ cK cS) [.ref (h 0), .int a0, .int a1] (mo_W h cI cJ row att fnd tape tmany sort begs tends word valu good bits size shts lent imag befo kept) (some (.int res.1)) (mo_W h cI cJ row att fnd tape tmany res.2.1 res.2.2.1 res.2.2.2.1 res.2.2.2.2.1 res.2.2.2.2.2.1 res.2.2.2.2.2.2 bits size shts lent imag befo kept) := by
  refine sf_met (lv := [(0, .ref (h 0)), (1, .int a0), (2, .int a1)]) (by decide) (Nat.le_of_ble_eq_true rfl) rfl ?_
  intro p e s m args below meth c A Q cx hr hQ
  have cx : sf_Cx p m meth c cX10_wantNumber 4 s args RX10 D (sf_ty cI cJ cK cS) A := cx
  have B35 : ∀ (sort : Int32) (begs : Int32) (tends : Int32) (word : Int64) (valu : Int32) (good : Int32) (x3 : Int32) (s0 : Int32), f_X10_wantNumber_b35 tape tmany sort begs tends word valu good x3 s0 = some res → sf_W p l e rm_X10_wantNumber s m args below meth c 0 0 Q 4 D A (mo_W h cI cJ row att fnd tape tmany sort begs tends word valu good bits size shts lent imag befo kept) [(0, .ref (h 0)), (3, .int x3)] 35 [.int s0, .ref (h 0)] := by
    intro sort begs tends word valu good x3 s0 hf
    unfold f_X10_wantNumber_b35 at hf
    obtain ⟨h5, hf⟩ := gb_s hf
    refine sw_put (pc' := 38) (ws' := (mo_W h cI cJ row att fnd tape tmany sort begs tends word valu s0 bits size shts lent imag befo kept)) cx in_X10 tyX10 tyX10_ok nmX10 0 rfl rfl 10 (Nat.le_of_ble_eq_true rfl) fl_RX10_204 rfl h5.1 h5.2 (Nat.le_of_ble_eq_true rfl) dX10_wantNumber_35 rfl rfl ?_
    refine sw_aload_n (pc' := 39) (i := 0) cx dX10_wantNumber_38 rfl 0 rfl rfl ?_
    refine sw_get (pc' := 42) cx in_X10 0 rfl rfl 10 (Nat.le_of_ble_eq_true rfl) fl_RX10_204 rfl dX10_wantNumber_39 rfl ?_
    refine sw_if_eq (pc' := 45) (tgt := 49) cx dX10_wantNumber_42 (by decide) rfl (fun c6 => ?_) (fun c6 => ?_)
    · replace hf := it_p c6 hf
      refine sw_iload_n (pc' := 50) (i := 3) cx dX10_wantNumber_49 rfl 1 rfl rfl ?_
      obtain rfl := Option.some.inj hf
      exact sw_iret cx hr hQ dX10_wantNumber_50
    · replace hf := it_n c6 hf
      refine sw_aload_n (pc' := 46) (i := 0) cx dX10_wantNumber_45 rfl 0 rfl rfl ?_
      obtain ⟨r7, hr7, hf⟩ := bd_s hf
      refine sw_callVw (pc' := 49) (As := []) (rest := []) (w' := (mo_W h cI cJ row att fnd tape tmany r7.1 r7.2.1 r7.2.2.1 r7.2.2.2.1 r7.2.2.2.2 s0 bits size shts lent imag befo kept)) cx (k_X10_advance l D h cI cJ cK cS row att fnd tape tmany sort begs tends word valu s0 bits size shts lent imag befo kept  r7 hr7) pk_yX10_advance ml_RX10_208 ⟨rfl, rfl⟩ ⟨(Nat.le_of_ble_eq_true rfl), (Nat.le_of_ble_eq_true rfl)⟩ ⟨(Nat.le_of_ble_eq_true rfl), (Nat.le_of_ble_eq_true rfl)⟩ 0 rfl rfl rfl rfl (Nat.le_of_ble_eq_true rfl) rfl dX10_wantNumber_46 rfl ?_
      refine sw_iload_n (pc' := 50) (i := 3) cx dX10_wantNumber_49 rfl 1 rfl rfl ?_
      obtain rfl := Option.some.inj hf
      exact sw_iret cx hr hQ dX10_wantNumber_50
  have B34 : ∀ (sort : Int32) (begs : Int32) (tends : Int32) (word : Int64) (valu : Int32) (good : Int32) (x3 : Int32), f_X10_wantNumber_b34 tape tmany sort begs tends word valu good x3 = some res → sf_W p l e rm_X10_wantNumber s m args below meth c 0 0 Q 4 D A (mo_W h cI cJ row att fnd tape tmany sort begs tends word valu good bits size shts lent imag befo kept) [(0, .ref (h 0)), (3, .int x3)] 34 [.ref (h 0)] := by
    intro sort begs tends word valu good x3 hf
    unfold f_X10_wantNumber_b34 at hf
    refine sw_iconst (pc' := 35) (v := 0) cx dX10_wantNumber_34 iconst_0 rfl ?_
    exact sw_lv [0, 1] rfl (B35 sort begs tends word valu good x3 (0 : Int32) hf)
  unfold f_X10_wantNumber at hf
  refine sw_aload_n (pc' := 1) (i := 0) cx dX10_wantNumber_0 rfl 0 rfl rfl ?_
  refine sw_get (pc' := 4) cx in_X10 0 rfl rfl 9 (Nat.le_of_ble_eq_true rfl) fl_RX10_179 rfl dX10_wantNumber_1 rfl ?_
  refine sw_istore_n (pc' := 5) (i := 3) (lv' := [(3, .int valu), (0, .ref (h 0)), (1, .int a0), (2, .int a1)]) cx dX10_wantNumber_4 rfl (Nat.le_of_ble_eq_true rfl) rfl rfl ?_
  refine sw_aload_n (pc' := 6) (i := 0) cx dX10_wantNumber_5 rfl 1 rfl rfl ?_
  refine sw_aload_n (pc' := 7) (i := 0) cx dX10_wantNumber_6 rfl 1 rfl rfl ?_
  refine sw_get (pc' := 10) cx in_X10 0 rfl rfl 10 (Nat.le_of_ble_eq_true rfl) fl_RX10_204 rfl dX10_wantNumber_7 rfl ?_
  refine sw_if_eq (pc' := 13) (tgt := 34) cx dX10_wantNumber_10 (by decide) rfl (fun c1 => ?_) (fun c1 => ?_)
  · replace hf := it_p c1 hf
    exact sw_lv [1, 0] rfl (B34 sort begs tends word valu good valu hf)
  · replace hf := it_n c1 hf
    refine sw_aload_n (pc' := 14) (i := 0) cx dX10_wantNumber_13 rfl 1 rfl rfl ?_
    refine sw_get (pc' := 17) cx in_X10 0 rfl rfl 5 (Nat.le_of_ble_eq_true rfl) fl_RX10_172 rfl dX10_wantNumber_14 rfl ?_
    refine sw_iconst (pc' := 18) (v := 2) cx dX10_wantNumber_17 iconst_2 rfl ?_
    refine sw_icmp_ne (pc' := 21) (tgt := 34) cx dX10_wantNumber_18 (by decide) rfl (fun c2 => ?_) (fun c2 => ?_)
    · replace hf := it_n c2 hf
      exact sw_lv [1, 0] rfl (B34 sort begs tends word valu good valu hf)
    · replace hf := it_p c2 hf
      refine sw_iload_n (pc' := 22) (i := 3) cx dX10_wantNumber_21 rfl 0 rfl rfl ?_
      refine sw_iload_n (pc' := 23) (i := 1) cx dX10_wantNumber_22 rfl 2 rfl rfl ?_
      refine sw_iload_n (pc' := 24) (i := 2) cx dX10_wantNumber_23 rfl 3 rfl rfl ?_
      obtain ⟨r3, hr3, hf⟩ := bd_s hf
      refine sw_callS (pc' := 27) (As := [.int valu, .int a0, .int a1]) (rest := [.ref (h 0)]) cx (k_X10_in l D h cI cJ cK cS valu a0 a1 r3 hr3) pk_yX10_in ml_RX10_47 ⟨rfl, rfl⟩ ⟨(Nat.le_of_ble_eq_true rfl), (Nat.le_of_ble_eq_true rfl)⟩ ⟨(Nat.le_of_ble_eq_true rfl), (Nat.le_of_ble_eq_true rfl)⟩ [] rfl rfl rfl (wn := (mo_W h cI cJ row att fnd tape tmany sort begs tends word valu good bits size shts lent imag befo kept)) rfl rfl (Nat.le_of_ble_eq_true rfl) rfl dX10_wantNumber_24 rfl ?_
      refine sw_if_eq (pc' := 30) (tgt := 34) cx dX10_wantNumber_27 (by decide) rfl (fun c4 => ?_) (fun c4 => ?_)
      · replace hf := it_p c4 hf
        exact sw_lv [1, 0] rfl (B34 sort begs tends word valu good valu hf)
      · replace hf := it_n c4 hf
        refine sw_iconst (pc' := 31) (v := 1) cx dX10_wantNumber_30 iconst_1 rfl ?_
        refine sw_goto (tgt := 35) cx dX10_wantNumber_31 (by decide) ?_
        exact sw_lv [1, 0] rfl (B35 sort begs tends word valu good valu (1 : Int32) hf)
abbrev rm_X10_mayWant : Room := ({ frames := 4, cells := 0, slots := 0, locals := 86 } : Room)
set_option maxRecDepth 100000 in
set_option maxHeartbeats 4000000 in
theorem k_X10_mayWant (l : Launch) (D : sf_D) (h : Nat → Nat) (cI cJ cK cS : ClassId) (row : Nat → Int32) (att : Int32) (fnd : Nat → Int32) (tape : Nat → Int32) (tmany : Int32) (sort : Int32) (begs : Int32) (tends : Int32) (word : Int64) (valu : Int32) (good : Int32) (bits : Nat → Int32) (size : Nat → Int32) (shts : Nat → Int64) (lent : Nat → Int64) (imag : Nat → Int32) (befo : Nat → Int32) (kept : Int32) (a0 : Int64) (a1 : Int32) (a2 : Int32) (a3 : Int32) (res : Int32 × Int32 × Int32 × Int32 × Int64 × Int32 × Int32) (hf : f_X10_mayWant tape tmany sort begs tends word valu good a0 a1 a2 a3 = some res) : sf_Ct l yX10_mayWant cX10_mayWant 6 (some .int) rm_X10_mayWant D (sf_ty cI cJ cK cS) [.ref (h 0), .long a0, .int a1, .int a2, .int a3] (mo_W h cI cJ row att fnd tape tmany sort begs tends word valu good bits size shts lent imag befo kept) (some (.int res.1)) (mo_W h cI cJ row att fnd tape tmany res.2.1 res.2.2.1 res.2.2.2.1 res.2.2.2.2.1 res.2.2.2.2.2.1 res.2.2.2.2.2.2 bits size shts lent imag befo kept) := by
  refine sf_met (lv := [(0, .ref (h 0)), (1, .long a0), (3, .int a1), (4, .int a2), (5, .int a3)]) (by decide) (Nat.le_of_ble_eq_true rfl) rfl ?_
  intro p e s m args below meth c A Q cx hr hQ
  have cx : sf_Cx p m meth c cX10_mayWant 6 s args RX10 D (sf_ty cI cJ cK cS) A := cx
  unfold f_X10_mayWant at hf
  refine sw_aload_n (pc' := 1) (i := 0) cx dX10_mayWant_0 rfl 0 rfl rfl ?_
  refine sw_get (pc' := 4) cx in_X10 0 rfl rfl 10 (Nat.le_of_ble_eq_true rfl) fl_RX10_204 rfl dX10_mayWant_1 rfl ?_
  refine sw_if_eq (pc' := 7) (tgt := 15) cx dX10_mayWant_4 (by decide) rfl (fun c1 => ?_) (fun c1 => ?_)
  · replace hf := it_p c1 hf
    refine sw_iload (pc' := 17) (i := 5) cx dX10_mayWant_15 4 rfl rfl ?_
    obtain rfl := Option.some.inj hf
    exact sw_iret cx hr hQ dX10_mayWant_17
  · replace hf := it_n c1 hf
    refine sw_aload_n (pc' := 8) (i := 0) cx dX10_mayWant_7 rfl 0 rfl rfl ?_
    refine sw_lload_n (pc' := 9) (i := 1) cx dX10_mayWant_8 rfl 1 rfl rfl ?_
    obtain ⟨r2, hr2, hf⟩ := bd_s hf
    refine sw_callVw (pc' := 12) (As := [.long a0]) (rest := []) (w' := (mo_W h cI cJ row att fnd tape tmany sort begs tends word valu good bits size shts lent imag befo kept)) cx (k_X10_isWord l D h cI cJ cK cS row att fnd tape tmany sort begs tends word valu good bits size shts lent imag befo kept a0 r2 hr2) pk_yX10_isWord ml_RX10_190 ⟨rfl, rfl⟩ ⟨(Nat.le_of_ble_eq_true rfl), (Nat.le_of_ble_eq_true rfl)⟩ ⟨(Nat.le_of_ble_eq_true rfl), (Nat.le_of_ble_eq_true rfl)⟩ 0 rfl rfl rfl rfl (Nat.le_of_ble_eq_true rfl) rfl dX10_mayWant_9 rfl ?_
    refine sw_if_ne (pc' := 15) (tgt := 18) cx dX10_mayWant_12 (by decide) rfl (fun c3 => ?_) (fun c3 => ?_)
    · replace hf := it_n c3 hf
      refine sw_aload_n (pc' := 19) (i := 0) cx dX10_mayWant_18 rfl 0 rfl rfl ?_
      obtain ⟨r4, hr4, hf⟩ := bd_s hf
      refine sw_callVw (pc' := 22) (As := []) (rest := []) (w' := (mo_W h cI cJ row att fnd tape tmany r4.1 r4.2.1 r4.2.2.1 r4.2.2.2.1 r4.2.2.2.2 good bits size shts lent imag befo kept)) cx (k_X10_advance l D h cI cJ cK cS row att fnd tape tmany sort begs tends word valu good bits size shts lent imag befo kept  r4 hr4) pk_yX10_advance ml_RX10_208 ⟨rfl, rfl⟩ ⟨(Nat.le_of_ble_eq_true rfl), (Nat.le_of_ble_eq_true rfl)⟩ ⟨(Nat.le_of_ble_eq_true rfl), (Nat.le_of_ble_eq_true rfl)⟩ 0 rfl rfl rfl rfl (Nat.le_of_ble_eq_true rfl) rfl dX10_mayWant_19 rfl ?_
      refine sw_aload_n (pc' := 23) (i := 0) cx dX10_mayWant_22 rfl 0 rfl rfl ?_
      refine sw_iload_n (pc' := 24) (i := 3) cx dX10_mayWant_23 rfl 2 rfl rfl ?_
      refine sw_iload (pc' := 26) (i := 4) cx dX10_mayWant_24 3 rfl rfl ?_
      obtain ⟨r5, hr5, hf⟩ := bd_s hf
      refine sw_callVw (pc' := 29) (As := [.int a1, .int a2]) (rest := []) (w' := (mo_W h cI cJ row att fnd tape tmany r5.2.1 r5.2.2.1 r5.2.2.2.1 r5.2.2.2.2.1 r5.2.2.2.2.2.1 r5.2.2.2.2.2.2 bits size shts lent imag befo kept)) cx (k_X10_wantNumber l D h cI cJ cK cS row att fnd tape tmany r4.1 r4.2.1 r4.2.2.1 r4.2.2.2.1 r4.2.2.2.2 good bits size shts lent imag befo kept a1 a2 r5 hr5) pk_yX10_wantNumber ml_RX10_211 ⟨rfl, rfl⟩ ⟨(Nat.le_of_ble_eq_true rfl), (Nat.le_of_ble_eq_true rfl)⟩ ⟨(Nat.le_of_ble_eq_true rfl), (Nat.le_of_ble_eq_true rfl)⟩ 0 rfl rfl rfl rfl (Nat.le_of_ble_eq_true rfl) rfl dX10_mayWant_26 rfl ?_
      obtain rfl := Option.some.inj hf
      exact sw_iret cx hr hQ dX10_mayWant_29
    · replace hf := it_p c3 hf
      refine sw_iload (pc' := 17) (i := 5) cx dX10_mayWant_15 4 rfl rfl ?_
      obtain rfl := Option.some.inj hf
      exact sw_iret cx hr hQ dX10_mayWant_17
abbrev rm_X10_wantWord : Room := ({ frames := 3, cells := 0, slots := 0, locals := 63 } : Room)
set_option maxRecDepth 100000 in
set_option maxHeartbeats 4000000 in
theorem k_X10_wantWord (l : Launch) (D : sf_D) (h : Nat → Nat) (cI cJ cK cS : ClassId) (row : Nat → Int32) (att : Int32) (fnd : Nat → Int32) (tape : Nat → Int32) (tmany : Int32) (sort : Int32) (begs : Int32) (tends : Int32) (word : Int64) (valu : Int32) (good : Int32) (bits : Nat → Int32) (size : Nat → Int32) (shts : Nat → Int64) (lent : Nat → Int64) (imag : Nat → Int32) (befo : Nat → Int32) (kept : Int32) (a0 : Int64) (res : Int32 × Int32 × Int32 × Int64 × Int32 × Int32) (hf : f_X10_wantWord tape tmany sort begs tends word valu good a0 = some res) : sf_Ct l yX10_wantWord cX10_wantWord 3 none rm_X10_wantWord D (sf_ty cI cJ cK cS) [.ref (h 0), .long a0] (mo_W h cI cJ row att fnd tape tmany sort begs tends word valu good bits size shts lent imag befo kept) none (mo_W h cI cJ row att fnd tape tmany res.1 res.2.1 res.2.2.1 res.2.2.2.1 res.2.2.2.2.1 res.2.2.2.2.2 bits size shts lent imag befo kept) := by
  refine sf_met (lv := [(0, .ref (h 0)), (1, .long a0)]) (by decide) (Nat.le_of_ble_eq_true rfl) rfl ?_
  intro p e s m args below meth c A Q cx hr hQ
  have cx : sf_Cx p m meth c cX10_wantWord 3 s args RX10 D (sf_ty cI cJ cK cS) A := cx
  have B21 : ∀ (sort : Int32) (begs : Int32) (tends : Int32) (word : Int64) (valu : Int32) (good : Int32) (s0 : Int32), f_X10_wantWord_b21 tape tmany sort begs tends word valu good s0 = some res → sf_W p l e rm_X10_wantWord s m args below meth c 0 0 Q 3 D A (mo_W h cI cJ row att fnd tape tmany sort begs tends word valu good bits size shts lent imag befo kept) [(0, .ref (h 0))] 21 [.int s0, .ref (h 0)] := by
    intro sort begs tends word valu good s0 hf
    unfold f_X10_wantWord_b21 at hf
    obtain ⟨h4, hf⟩ := gb_s hf
    refine sw_put (pc' := 24) (ws' := (mo_W h cI cJ row att fnd tape tmany sort begs tends word valu s0 bits size shts lent imag befo kept)) cx in_X10 tyX10 tyX10_ok nmX10 0 rfl rfl 10 (Nat.le_of_ble_eq_true rfl) fl_RX10_204 rfl h4.1 h4.2 (Nat.le_of_ble_eq_true rfl) dX10_wantWord_21 rfl rfl ?_
    refine sw_aload_n (pc' := 25) (i := 0) cx dX10_wantWord_24 rfl 0 rfl rfl ?_
    refine sw_get (pc' := 28) cx in_X10 0 rfl rfl 10 (Nat.le_of_ble_eq_true rfl) fl_RX10_204 rfl dX10_wantWord_25 rfl ?_
    refine sw_if_eq (pc' := 31) (tgt := 35) cx dX10_wantWord_28 (by decide) rfl (fun c5 => ?_) (fun c5 => ?_)
    · replace hf := it_p c5 hf
      obtain rfl := Option.some.inj hf
      exact sw_vret cx hr hQ dX10_wantWord_35
    · replace hf := it_n c5 hf
      refine sw_aload_n (pc' := 32) (i := 0) cx dX10_wantWord_31 rfl 0 rfl rfl ?_
      obtain ⟨r6, hr6, hf⟩ := bd_s hf
      refine sw_callVw (pc' := 35) (As := []) (rest := []) (w' := (mo_W h cI cJ row att fnd tape tmany r6.1 r6.2.1 r6.2.2.1 r6.2.2.2.1 r6.2.2.2.2 s0 bits size shts lent imag befo kept)) cx (k_X10_advance l D h cI cJ cK cS row att fnd tape tmany sort begs tends word valu s0 bits size shts lent imag befo kept  r6 hr6) pk_yX10_advance ml_RX10_208 ⟨rfl, rfl⟩ ⟨(Nat.le_of_ble_eq_true rfl), (Nat.le_of_ble_eq_true rfl)⟩ ⟨(Nat.le_of_ble_eq_true rfl), (Nat.le_of_ble_eq_true rfl)⟩ 0 rfl rfl rfl rfl (Nat.le_of_ble_eq_true rfl) rfl dX10_wantWord_32 rfl ?_
      obtain rfl := Option.some.inj hf
      exact sw_vret cx hr hQ dX10_wantWord_35
  have B20 : ∀ (sort : Int32) (begs : Int32) (tends : Int32) (word : Int64) (valu : Int32) (good : Int32), f_X10_wantWord_b20 tape tmany sort begs tends word valu good = some res → sf_W p l e rm_X10_wantWord s m args below meth c 0 0 Q 3 D A (mo_W h cI cJ row att fnd tape tmany sort begs tends word valu good bits size shts lent imag befo kept) [(0, .ref (h 0))] 20 [.ref (h 0)] := by
    intro sort begs tends word valu good hf
    unfold f_X10_wantWord_b20 at hf
    refine sw_iconst (pc' := 21) (v := 0) cx dX10_wantWord_20 iconst_0 rfl ?_
    exact sw_lv [0] rfl (B21 sort begs tends word valu good (0 : Int32) hf)
  unfold f_X10_wantWord at hf
  refine sw_aload_n (pc' := 1) (i := 0) cx dX10_wantWord_0 rfl 0 rfl rfl ?_
  refine sw_aload_n (pc' := 2) (i := 0) cx dX10_wantWord_1 rfl 0 rfl rfl ?_
  refine sw_get (pc' := 5) cx in_X10 0 rfl rfl 10 (Nat.le_of_ble_eq_true rfl) fl_RX10_204 rfl dX10_wantWord_2 rfl ?_
  refine sw_if_eq (pc' := 8) (tgt := 20) cx dX10_wantWord_5 (by decide) rfl (fun c1 => ?_) (fun c1 => ?_)
  · replace hf := it_p c1 hf
    exact sw_lv [0] rfl (B20 sort begs tends word valu good hf)
  · replace hf := it_n c1 hf
    refine sw_aload_n (pc' := 9) (i := 0) cx dX10_wantWord_8 rfl 0 rfl rfl ?_
    refine sw_lload_n (pc' := 10) (i := 1) cx dX10_wantWord_9 rfl 1 rfl rfl ?_
    obtain ⟨r2, hr2, hf⟩ := bd_s hf
    refine sw_callVw (pc' := 13) (As := [.long a0]) (rest := [.ref (h 0)]) (w' := (mo_W h cI cJ row att fnd tape tmany sort begs tends word valu good bits size shts lent imag befo kept)) cx (k_X10_isWord l D h cI cJ cK cS row att fnd tape tmany sort begs tends word valu good bits size shts lent imag befo kept a0 r2 hr2) pk_yX10_isWord ml_RX10_190 ⟨rfl, rfl⟩ ⟨(Nat.le_of_ble_eq_true rfl), (Nat.le_of_ble_eq_true rfl)⟩ ⟨(Nat.le_of_ble_eq_true rfl), (Nat.le_of_ble_eq_true rfl)⟩ 0 rfl rfl rfl rfl (Nat.le_of_ble_eq_true rfl) rfl dX10_wantWord_10 rfl ?_
    refine sw_if_eq (pc' := 16) (tgt := 20) cx dX10_wantWord_13 (by decide) rfl (fun c3 => ?_) (fun c3 => ?_)
    · replace hf := it_p c3 hf
      exact sw_lv [0] rfl (B20 sort begs tends word valu good hf)
    · replace hf := it_n c3 hf
      refine sw_iconst (pc' := 17) (v := 1) cx dX10_wantWord_16 iconst_1 rfl ?_
      refine sw_goto (tgt := 21) cx dX10_wantWord_17 (by decide) ?_
      exact sw_lv [0] rfl (B21 sort begs tends word valu good (1 : Int32) hf)
abbrev rm_X10_wantFine : Room := ({ frames := 5, cells := 0, slots := 0, locals := 111 } : Room)
set_option maxRecDepth 100000 in
set_option maxHeartbeats 4000000 in
theorem k_X10_wantFine (l : Launch) (D : sf_D) (h : Nat → Nat) (cI cJ cK cS : ClassId) (row : Nat → Int32) (att : Int32) (fnd : Nat → Int32) (tape : Nat → Int32) (tmany : Int32) (sort : Int32) (begs : Int32) (tends : Int32) (word : Int64) (valu : Int32) (good : Int32) (bits : Nat → Int32) (size : Nat → Int32) (shts : Nat → Int64) (lent : Nat → Int64) (imag : Nat → Int32) (befo : Nat → Int32) (kept : Int32) (a0 : Int32) (res : (Nat → Int32) × Int32 × Int32 × Int32 × Int64 × Int32 × Int32) (hf : f_X10_wantFine row att tape tmany sort begs tends word valu good a0 = some res) : sf_Ct l yX10_wantFine cX10_wantFine 5 none rm_X10_wantFine D (sf_ty cI cJ cK cS) [.ref (h 0), .int a0] (mo_W h cI cJ row att fnd tape tmany sort begs tends word valu good bits size shts lent imag befo kept) none (mo_W h cI cJ res.1 att fnd tape tmany res.2.1 res.2.2.1 res.2.2.2.1 res.2.2.2.2.1 res.2.2.2.2.2.1 res.2.2.2.2.2.2 bits size shts lent imag befo kept) := by
  refine sf_met (lv := [(0, .ref (h 0)), (1, .int a0)]) (by decide) (Nat.le_of_ble_eq_true rfl) rfl ?_
  intro p e s m args below meth c A Q cx hr hQ
  have cx : sf_Cx p m meth c cX10_wantFine 5 s args RX10 D (sf_ty cI cJ cK cS) A := cx
  have B31 : ∀ (row : Nat → Int32) (sort : Int32) (begs : Int32) (tends : Int32) (word : Int64) (valu : Int32) (good : Int32) (x1 : Int32), f_X10_wantFine_b31 att tape tmany row sort begs tends word valu good x1 = some res → sf_W p l e rm_X10_wantFine s m args below meth c 0 0 Q 5 D A (mo_W h cI cJ row att fnd tape tmany sort begs tends word valu good bits size shts lent imag befo kept) [(0, .ref (h 0)), (1, .int x1)] 31 [] := by
    intro row sort begs tends word valu good x1 hf
    unfold f_X10_wantFine_b31 at hf
    refine sw_aload_n (pc' := 32) (i := 0) cx dX10_wantFine_31 rfl 0 rfl rfl ?_
    refine sw_iconst (pc' := 33) (v := 1) cx dX10_wantFine_32 iconst_1 rfl ?_
    refine sw_bipush (pc' := 35) (v := 40) cx dX10_wantFine_33 bipush_40 rfl ?_
    obtain ⟨r5, hr5, hf⟩ := bd_s hf
    refine sw_callVw (pc' := 38) (As := [.int (1 : Int32), .int (40 : Int32)]) (rest := []) (w' := (mo_W h cI cJ row att fnd tape tmany r5.2.1 r5.2.2.1 r5.2.2.2.1 r5.2.2.2.2.1 r5.2.2.2.2.2.1 r5.2.2.2.2.2.2 bits size shts lent imag befo kept)) cx (k_X10_wantNumber l D h cI cJ cK cS row att fnd tape tmany sort begs tends word valu good bits size shts lent imag befo kept (1 : Int32) (40 : Int32) r5 hr5) pk_yX10_wantNumber ml_RX10_211 ⟨rfl, rfl⟩ ⟨(Nat.le_of_ble_eq_true rfl), (Nat.le_of_ble_eq_true rfl)⟩ ⟨(Nat.le_of_ble_eq_true rfl), (Nat.le_of_ble_eq_true rfl)⟩ 0 rfl rfl rfl rfl (Nat.le_of_ble_eq_true rfl) rfl dX10_wantFine_35 rfl ?_
    refine sw_istore_n (pc' := 39) (i := 2) (lv' := [(2, .int r5.1), (0, .ref (h 0)), (1, .int x1)]) cx dX10_wantFine_38 rfl (Nat.le_of_ble_eq_true rfl) rfl rfl ?_
    refine sw_aload_n (pc' := 40) (i := 0) cx dX10_wantFine_39 rfl 1 rfl rfl ?_
    refine sw_ldc2_w (pc' := 43) cx cl_RX10_214 dX10_wantFine_40 rfl ?_
    obtain ⟨r6, hr6, hf⟩ := bd_s hf
    refine sw_callVw (pc' := 46) (As := [.long (47 : Int64)]) (rest := []) (w' := (mo_W h cI cJ row att fnd tape tmany r6.1 r6.2.1 r6.2.2.1 r6.2.2.2.1 r6.2.2.2.2.1 r6.2.2.2.2.2 bits size shts lent imag befo kept)) cx (k_X10_wantWord l D h cI cJ cK cS row att fnd tape tmany r5.2.1 r5.2.2.1 r5.2.2.2.1 r5.2.2.2.2.1 r5.2.2.2.2.2.1 r5.2.2.2.2.2.2 bits size shts lent imag befo kept (47 : Int64) r6 hr6) pk_yX10_wantWord ml_RX10_216 ⟨rfl, rfl⟩ ⟨(Nat.le_of_ble_eq_true rfl), (Nat.le_of_ble_eq_true rfl)⟩ ⟨(Nat.le_of_ble_eq_true rfl), (Nat.le_of_ble_eq_true rfl)⟩ 0 rfl rfl rfl rfl (Nat.le_of_ble_eq_true rfl) rfl dX10_wantFine_43 rfl ?_
    refine sw_aload_n (pc' := 47) (i := 0) cx dX10_wantFine_46 rfl 1 rfl rfl ?_
    refine sw_iconst (pc' := 48) (v := 0) cx dX10_wantFine_47 iconst_0 rfl ?_
    refine sw_bipush (pc' := 50) (v := 39) cx dX10_wantFine_48 bipush_39 rfl ?_
    obtain ⟨r7, hr7, hf⟩ := bd_s hf
    refine sw_callVw (pc' := 53) (As := [.int (0 : Int32), .int (39 : Int32)]) (rest := []) (w' := (mo_W h cI cJ row att fnd tape tmany r7.2.1 r7.2.2.1 r7.2.2.2.1 r7.2.2.2.2.1 r7.2.2.2.2.2.1 r7.2.2.2.2.2.2 bits size shts lent imag befo kept)) cx (k_X10_wantNumber l D h cI cJ cK cS row att fnd tape tmany r6.1 r6.2.1 r6.2.2.1 r6.2.2.2.1 r6.2.2.2.2.1 r6.2.2.2.2.2 bits size shts lent imag befo kept (0 : Int32) (39 : Int32) r7 hr7) pk_yX10_wantNumber ml_RX10_211 ⟨rfl, rfl⟩ ⟨(Nat.le_of_ble_eq_true rfl), (Nat.le_of_ble_eq_true rfl)⟩ ⟨(Nat.le_of_ble_eq_true rfl), (Nat.le_of_ble_eq_true rfl)⟩ 0 rfl rfl rfl rfl (Nat.le_of_ble_eq_true rfl) rfl dX10_wantFine_50 rfl ?_
    refine sw_istore_n (pc' := 54) (i := 3) (lv' := [(3, .int r7.1), (2, .int r5.1), (0, .ref (h 0)), (1, .int x1)]) cx dX10_wantFine_53 rfl (Nat.le_of_ble_eq_true rfl) rfl rfl ?_
    refine sw_aload_n (pc' := 55) (i := 0) cx dX10_wantFine_54 rfl 2 rfl rfl ?_
    refine sw_ldc2_w (pc' := 58) cx cl_RX10_220 dX10_wantFine_55 rfl ?_
    refine sw_iconst (pc' := 59) (v := 1) cx dX10_wantFine_58 iconst_1 rfl ?_
    refine sw_bipush (pc' := 61) (v := 9) cx dX10_wantFine_59 bipush_9 rfl ?_
    refine sw_iconst (pc' := 62) (v := 3) cx dX10_wantFine_61 iconst_3 rfl ?_
    obtain ⟨r8, hr8, hf⟩ := bd_s hf
    refine sw_callVw (pc' := 65) (As := [.long (1228 : Int64), .int (1 : Int32), .int (9 : Int32), .int (3 : Int32)]) (rest := []) (w' := (mo_W h cI cJ row att fnd tape tmany r8.2.1 r8.2.2.1 r8.2.2.2.1 r8.2.2.2.2.1 r8.2.2.2.2.2.1 r8.2.2.2.2.2.2 bits size shts lent imag befo kept)) cx (k_X10_mayWant l D h cI cJ cK cS row att fnd tape tmany r7.2.1 r7.2.2.1 r7.2.2.2.1 r7.2.2.2.2.1 r7.2.2.2.2.2.1 r7.2.2.2.2.2.2 bits size shts lent imag befo kept (1228 : Int64) (1 : Int32) (9 : Int32) (3 : Int32) r8 hr8) pk_yX10_mayWant ml_RX10_222 ⟨rfl, rfl⟩ ⟨(Nat.le_of_ble_eq_true rfl), (Nat.le_of_ble_eq_true rfl)⟩ ⟨(Nat.le_of_ble_eq_true rfl), (Nat.le_of_ble_eq_true rfl)⟩ 0 rfl rfl rfl rfl (Nat.le_of_ble_eq_true rfl) rfl dX10_wantFine_62 rfl ?_
    refine sw_istore (pc' := 67) (i := 4) (lv' := [(4, .int r8.1), (3, .int r7.1), (2, .int r5.1), (0, .ref (h 0)), (1, .int x1)]) cx dX10_wantFine_65 (Nat.le_of_ble_eq_true rfl) rfl rfl ?_
    refine sw_aload_n (pc' := 68) (i := 0) cx dX10_wantFine_67 rfl 3 rfl rfl ?_
    refine sw_get (pc' := 71) cx in_X10 0 rfl rfl 10 (Nat.le_of_ble_eq_true rfl) fl_RX10_204 rfl dX10_wantFine_68 rfl ?_
    refine sw_if_eq (pc' := 74) (tgt := 83) cx dX10_wantFine_71 (by decide) rfl (fun c9 => ?_) (fun c9 => ?_)
    · replace hf := it_p c9 hf
      obtain rfl := Option.some.inj hf
      exact sw_vret cx hr hQ dX10_wantFine_83
    · replace hf := it_n c9 hf
      refine sw_aload_n (pc' := 75) (i := 0) cx dX10_wantFine_74 rfl 3 rfl rfl ?_
      refine sw_iload_n (pc' := 76) (i := 1) cx dX10_wantFine_75 rfl 4 rfl rfl ?_
      refine sw_iload_n (pc' := 77) (i := 2) cx dX10_wantFine_76 rfl 2 rfl rfl ?_
      refine sw_iload_n (pc' := 78) (i := 3) cx dX10_wantFine_77 rfl 1 rfl rfl ?_
      refine sw_iload (pc' := 80) (i := 4) cx dX10_wantFine_78 0 rfl rfl ?_
      obtain ⟨r10, hr10, hf⟩ := bd_s hf
      refine sw_callVw (pc' := 83) (As := [.int x1, .int r5.1, .int r7.1, .int r8.1]) (rest := []) (w' := (mo_W h cI cJ r10 att fnd tape tmany r8.2.1 r8.2.2.1 r8.2.2.2.1 r8.2.2.2.2.1 r8.2.2.2.2.2.1 r8.2.2.2.2.2.2 bits size shts lent imag befo kept)) cx (k_X10_addFine l D h cI cJ cK cS row att fnd tape tmany r8.2.1 r8.2.2.1 r8.2.2.2.1 r8.2.2.2.2.1 r8.2.2.2.2.2.1 r8.2.2.2.2.2.2 bits size shts lent imag befo kept x1 r5.1 r7.1 r8.1 r10 hr10) pk_yX10_addFine ml_RX10_74 ⟨rfl, rfl⟩ ⟨(Nat.le_of_ble_eq_true rfl), (Nat.le_of_ble_eq_true rfl)⟩ ⟨(Nat.le_of_ble_eq_true rfl), (Nat.le_of_ble_eq_true rfl)⟩ 0 rfl rfl rfl rfl (Nat.le_of_ble_eq_true rfl) rfl dX10_wantFine_80 rfl ?_
      obtain rfl := Option.some.inj hf
      exact sw_vret cx hr hQ dX10_wantFine_83
  have B17 : ∀ (row : Nat → Int32) (sort : Int32) (begs : Int32) (tends : Int32) (word : Int64) (valu : Int32) (good : Int32) (x1 : Int32) (s0 : Int32), f_X10_wantFine_b17 att tape tmany row sort begs tends word valu good x1 s0 = some res → sf_W p l e rm_X10_wantFine s m args below meth c 0 0 Q 5 D A (mo_W h cI cJ row att fnd tape tmany sort begs tends word valu good bits size shts lent imag befo kept) [(0, .ref (h 0)), (1, .int x1)] 17 [.int s0, .ref (h 0)] := by
    intro row sort begs tends word valu good x1 s0 hf
    unfold f_X10_wantFine_b17 at hf
    obtain ⟨h2, hf⟩ := gb_s hf
    refine sw_put (pc' := 20) (ws' := (mo_W h cI cJ row att fnd tape tmany sort begs tends word valu s0 bits size shts lent imag befo kept)) cx in_X10 tyX10 tyX10_ok nmX10 0 rfl rfl 10 (Nat.le_of_ble_eq_true rfl) fl_RX10_204 rfl h2.1 h2.2 (Nat.le_of_ble_eq_true rfl) dX10_wantFine_17 rfl rfl ?_
    refine sw_aload_n (pc' := 21) (i := 0) cx dX10_wantFine_20 rfl 0 rfl rfl ?_
    refine sw_get (pc' := 24) cx in_X10 0 rfl rfl 10 (Nat.le_of_ble_eq_true rfl) fl_RX10_204 rfl dX10_wantFine_21 rfl ?_
    refine sw_if_eq (pc' := 27) (tgt := 31) cx dX10_wantFine_24 (by decide) rfl (fun c3 => ?_) (fun c3 => ?_)
    · replace hf := it_p c3 hf
      exact sw_lv [0, 1] rfl (B31 row sort begs tends word valu s0 x1 hf)
    · replace hf := it_n c3 hf
      refine sw_aload_n (pc' := 28) (i := 0) cx dX10_wantFine_27 rfl 0 rfl rfl ?_
      obtain ⟨r4, hr4, hf⟩ := bd_s hf
      refine sw_callVw (pc' := 31) (As := []) (rest := []) (w' := (mo_W h cI cJ row att fnd tape tmany r4.1 r4.2.1 r4.2.2.1 r4.2.2.2.1 r4.2.2.2.2 s0 bits size shts lent imag befo kept)) cx (k_X10_advance l D h cI cJ cK cS row att fnd tape tmany sort begs tends word valu s0 bits size shts lent imag befo kept  r4 hr4) pk_yX10_advance ml_RX10_208 ⟨rfl, rfl⟩ ⟨(Nat.le_of_ble_eq_true rfl), (Nat.le_of_ble_eq_true rfl)⟩ ⟨(Nat.le_of_ble_eq_true rfl), (Nat.le_of_ble_eq_true rfl)⟩ 0 rfl rfl rfl rfl (Nat.le_of_ble_eq_true rfl) rfl dX10_wantFine_28 rfl ?_
      exact sw_lv [0, 1] rfl (B31 row r4.1 r4.2.1 r4.2.2.1 r4.2.2.2.1 r4.2.2.2.2 s0 x1 hf)
  unfold f_X10_wantFine at hf
  refine sw_aload_n (pc' := 1) (i := 0) cx dX10_wantFine_0 rfl 0 rfl rfl ?_
  refine sw_aload_n (pc' := 2) (i := 0) cx dX10_wantFine_1 rfl 0 rfl rfl ?_
  refine sw_get (pc' := 5) cx in_X10 0 rfl rfl 0 (Nat.le_of_ble_eq_true rfl) fl_RX10_7 rfl dX10_wantFine_2 rfl ?_
  refine sw_iconst (pc' := 6) (v := 4) cx dX10_wantFine_5 iconst_4 rfl ?_
  refine sw_iald (pc' := 7) cx 1 0 rfl rfl vi_4_510 dX10_wantFine_6 rfl ?_
  refine sw_bipush (pc' := 9) (v := 10) cx dX10_wantFine_7 bipush_10 rfl ?_
  refine sw_icmp_ge (pc' := 12) (tgt := 16) cx dX10_wantFine_9 (by decide) rfl (fun c1 => ?_) (fun c1 => ?_)
  · replace hf := it_p c1 hf
    refine sw_iconst (pc' := 17) (v := 0) cx dX10_wantFine_16 iconst_0 rfl ?_
    exact sw_lv [0, 1] rfl (B17 row sort begs tends word valu good a0 (0 : Int32) hf)
  · replace hf := it_n c1 hf
    refine sw_iconst (pc' := 13) (v := 1) cx dX10_wantFine_12 iconst_1 rfl ?_
    refine sw_goto (tgt := 17) cx dX10_wantFine_13 (by decide) ?_
    exact sw_lv [0, 1] rfl (B17 row sort begs tends word valu good a0 (1 : Int32) hf)
abbrev rm_X10_wantRock : Room := ({ frames := 5, cells := 0, slots := 0, locals := 111 } : Room)
set_option maxRecDepth 100000 in
set_option maxHeartbeats 4000000 in
theorem k_X10_wantRock (l : Launch) (D : sf_D) (h : Nat → Nat) (cI cJ cK cS : ClassId) (row : Nat → Int32) (att : Int32) (fnd : Nat → Int32) (tape : Nat → Int32) (tmany : Int32) (sort : Int32) (begs : Int32) (tends : Int32) (word : Int64) (valu : Int32) (good : Int32) (bits : Nat → Int32) (size : Nat → Int32) (shts : Nat → Int64) (lent : Nat → Int64) (imag : Nat → Int32) (befo : Nat → Int32) (kept : Int32)  (res : (Nat → Int32) × Int32 × Int32 × Int32 × Int64 × Int32 × Int32) (hf : f_X10_wantRock row tape tmany sort begs tends word valu good = some res) : sf_Ct l yX10_wantRock cX10_wantRock 5 none rm_X10_wantRock D (sf_ty cI cJ cK cS) [.ref (h 0)] (mo_W h cI cJ row att fnd tape tmany sort begs tends word valu good bits size shts lent imag befo kept) none (mo_W h cI cJ res.1 att fnd tape tmany res.2.1 res.2.2.1 res.2.2.2.1 res.2.2.2.2.1 res.2.2.2.2.2.1 res.2.2.2.2.2.2 bits size shts lent imag befo kept) := by
  refine sf_met (lv := [(0, .ref (h 0))]) (by decide) (Nat.le_of_ble_eq_true rfl) rfl ?_
  intro p e s m args below meth c A Q cx hr hQ
  have cx : sf_Cx p m meth c cX10_wantRock 5 s args RX10 D (sf_ty cI cJ cK cS) A := cx
  have B42 : ∀ (n : Nat), ∀ (row : Nat → Int32) (sort : Int32) (begs : Int32) (tends : Int32) (word : Int64) (valu : Int32) (good : Int32) (x2 : Int32) (x3 : Int32) (x4 : Int32), f_X10_wantRock_b42 tape tmany n row sort begs tends word valu good x2 x3 x4 = some res → sf_W p l e rm_X10_wantRock s m args below meth c 0 0 Q 5 D A (mo_W h cI cJ row att fnd tape tmany sort begs tends word valu good bits size shts lent imag befo kept) [(0, .ref (h 0)), (2, .int x2), (3, .int x3), (4, .int x4)] 42 [] := by
    intro n
    induction n with
    | zero => intro row sort begs tends word valu good x2 x3 x4 hf; rw [f_X10_wantRock_b42] at hf; cases hf
    | succ n ih =>
      intro row sort begs tends word valu good x2 x3 x4 hf
      rw [f_X10_wantRock_b42] at hf
      refine sw_iload (pc' := 44) (i := 4) cx dX10_wantRock_42 3 rfl rfl ?_
      refine sw_iload_n (pc' := 45) (i := 2) cx dX10_wantRock_44 rfl 1 rfl rfl ?_
      refine sw_icmp_gt (pc' := 48) (tgt := 71) cx dX10_wantRock_45 (by decide) rfl (fun c6 => ?_) (fun c6 => ?_)
      · replace hf := it_p c6 hf
        obtain rfl := Option.some.inj hf
        exact sw_vret cx hr hQ dX10_wantRock_71
      · replace hf := it_n c6 hf
        refine sw_aload_n (pc' := 49) (i := 0) cx dX10_wantRock_48 rfl 0 rfl rfl ?_
        refine sw_get (pc' := 52) cx in_X10 0 rfl rfl 10 (Nat.le_of_ble_eq_true rfl) fl_RX10_204 rfl dX10_wantRock_49 rfl ?_
        refine sw_if_eq (pc' := 55) (tgt := 71) cx dX10_wantRock_52 (by decide) rfl (fun c7 => ?_) (fun c7 => ?_)
        · replace hf := it_p c7 hf
          obtain rfl := Option.some.inj hf
          exact sw_vret cx hr hQ dX10_wantRock_71
        · replace hf := it_n c7 hf
          refine sw_aload_n (pc' := 56) (i := 0) cx dX10_wantRock_55 rfl 0 rfl rfl ?_
          refine sw_get (pc' := 59) cx in_X10 0 rfl rfl 0 (Nat.le_of_ble_eq_true rfl) fl_RX10_7 rfl dX10_wantRock_56 rfl ?_
          refine sw_iconst (pc' := 60) (v := 5) cx dX10_wantRock_59 iconst_5 rfl ?_
          refine sw_iload (pc' := 62) (i := 4) cx dX10_wantRock_60 3 rfl rfl ?_
          refine sw_iadd (pc' := 63) cx dX10_wantRock_62 rfl ?_
          refine sw_iload_n (pc' := 64) (i := 3) cx dX10_wantRock_63 rfl 2 rfl rfl ?_
          obtain ⟨h8, hf⟩ := gx_s hf
          refine sw_iast (pc' := 65) (ws' := (mo_W h cI cJ (upd row (((5 : Int32) + x4)).toNatClampNeg x3) att fnd tape tmany sort begs tends word valu good bits size shts lent imag befo kept)) cx 1 0 rfl rfl h8 dX10_wantRock_64 rfl rfl ?_
          refine sw_iinc (pc' := 68) (v := (x4 + (1 : Int32))) (lv' := [(4, .int (x4 + (1 : Int32))), (0, .ref (h 0)), (2, .int x2), (3, .int x3)]) cx dX10_wantRock_65 3 rfl rfl (Nat.le_of_ble_eq_true rfl) rfl rfl ?_
          refine sw_goto (tgt := 42) cx dX10_wantRock_68 (by decide) ?_
          exact sw_lv [1, 2, 3, 0] rfl (ih (upd row (((5 : Int32) + x4)).toNatClampNeg x3) sort begs tends word valu good x2 x3 (x4 + (1 : Int32)) hf)
  unfold f_X10_wantRock at hf
  refine sw_aload_n (pc' := 1) (i := 0) cx dX10_wantRock_0 rfl 0 rfl rfl ?_
  obtain ⟨r1, hr1, hf⟩ := bd_s hf
  refine sw_callVw (pc' := 4) (As := []) (rest := []) (w' := (mo_W h cI cJ row att fnd tape tmany r1.1 r1.2.1 r1.2.2.1 r1.2.2.2.1 r1.2.2.2.2 good bits size shts lent imag befo kept)) cx (k_X10_advance l D h cI cJ cK cS row att fnd tape tmany sort begs tends word valu good bits size shts lent imag befo kept  r1 hr1) pk_yX10_advance ml_RX10_208 ⟨rfl, rfl⟩ ⟨(Nat.le_of_ble_eq_true rfl), (Nat.le_of_ble_eq_true rfl)⟩ ⟨(Nat.le_of_ble_eq_true rfl), (Nat.le_of_ble_eq_true rfl)⟩ 0 rfl rfl rfl rfl (Nat.le_of_ble_eq_true rfl) rfl dX10_wantRock_1 rfl ?_
  refine sw_aload_n (pc' := 5) (i := 0) cx dX10_wantRock_4 rfl 0 rfl rfl ?_
  refine sw_iconst (pc' := 6) (v := 0) cx dX10_wantRock_5 iconst_0 rfl ?_
  refine sw_bipush (pc' := 8) (v := 39) cx dX10_wantRock_6 bipush_39 rfl ?_
  obtain ⟨r2, hr2, hf⟩ := bd_s hf
  refine sw_callVw (pc' := 11) (As := [.int (0 : Int32), .int (39 : Int32)]) (rest := []) (w' := (mo_W h cI cJ row att fnd tape tmany r2.2.1 r2.2.2.1 r2.2.2.2.1 r2.2.2.2.2.1 r2.2.2.2.2.2.1 r2.2.2.2.2.2.2 bits size shts lent imag befo kept)) cx (k_X10_wantNumber l D h cI cJ cK cS row att fnd tape tmany r1.1 r1.2.1 r1.2.2.1 r1.2.2.2.1 r1.2.2.2.2 good bits size shts lent imag befo kept (0 : Int32) (39 : Int32) r2 hr2) pk_yX10_wantNumber ml_RX10_211 ⟨rfl, rfl⟩ ⟨(Nat.le_of_ble_eq_true rfl), (Nat.le_of_ble_eq_true rfl)⟩ ⟨(Nat.le_of_ble_eq_true rfl), (Nat.le_of_ble_eq_true rfl)⟩ 0 rfl rfl rfl rfl (Nat.le_of_ble_eq_true rfl) rfl dX10_wantRock_8 rfl ?_
  refine sw_istore_n (pc' := 12) (i := 1) (lv' := [(1, .int r2.1), (0, .ref (h 0))]) cx dX10_wantRock_11 rfl (Nat.le_of_ble_eq_true rfl) rfl rfl ?_
  refine sw_aload_n (pc' := 13) (i := 0) cx dX10_wantRock_12 rfl 1 rfl rfl ?_
  refine sw_ldc2_w (pc' := 16) cx cl_RX10_226 dX10_wantRock_13 rfl ?_
  refine sw_iload_n (pc' := 17) (i := 1) cx dX10_wantRock_16 rfl 0 rfl rfl ?_
  refine sw_bipush (pc' := 19) (v := 39) cx dX10_wantRock_17 bipush_39 rfl ?_
  refine sw_iload_n (pc' := 20) (i := 1) cx dX10_wantRock_19 rfl 0 rfl rfl ?_
  obtain ⟨r3, hr3, hf⟩ := bd_s hf
  refine sw_callVw (pc' := 23) (As := [.long (555 : Int64), .int r2.1, .int (39 : Int32), .int r2.1]) (rest := []) (w' := (mo_W h cI cJ row att fnd tape tmany r3.2.1 r3.2.2.1 r3.2.2.2.1 r3.2.2.2.2.1 r3.2.2.2.2.2.1 r3.2.2.2.2.2.2 bits size shts lent imag befo kept)) cx (k_X10_mayWant l D h cI cJ cK cS row att fnd tape tmany r2.2.1 r2.2.2.1 r2.2.2.2.1 r2.2.2.2.2.1 r2.2.2.2.2.2.1 r2.2.2.2.2.2.2 bits size shts lent imag befo kept (555 : Int64) r2.1 (39 : Int32) r2.1 r3 hr3) pk_yX10_mayWant ml_RX10_222 ⟨rfl, rfl⟩ ⟨(Nat.le_of_ble_eq_true rfl), (Nat.le_of_ble_eq_true rfl)⟩ ⟨(Nat.le_of_ble_eq_true rfl), (Nat.le_of_ble_eq_true rfl)⟩ 0 rfl rfl rfl rfl (Nat.le_of_ble_eq_true rfl) rfl dX10_wantRock_20 rfl ?_
  refine sw_istore_n (pc' := 24) (i := 2) (lv' := [(2, .int r3.1), (1, .int r2.1), (0, .ref (h 0))]) cx dX10_wantRock_23 rfl (Nat.le_of_ble_eq_true rfl) rfl rfl ?_
  refine sw_aload_n (pc' := 25) (i := 0) cx dX10_wantRock_24 rfl 2 rfl rfl ?_
  refine sw_ldc2_w (pc' := 28) cx cl_RX10_228 dX10_wantRock_25 rfl ?_
  obtain ⟨r4, hr4, hf⟩ := bd_s hf
  refine sw_callVw (pc' := 31) (As := [.long (411 : Int64)]) (rest := []) (w' := (mo_W h cI cJ row att fnd tape tmany r4.1 r4.2.1 r4.2.2.1 r4.2.2.2.1 r4.2.2.2.2.1 r4.2.2.2.2.2 bits size shts lent imag befo kept)) cx (k_X10_wantWord l D h cI cJ cK cS row att fnd tape tmany r3.2.1 r3.2.2.1 r3.2.2.2.1 r3.2.2.2.2.1 r3.2.2.2.2.2.1 r3.2.2.2.2.2.2 bits size shts lent imag befo kept (411 : Int64) r4 hr4) pk_yX10_wantWord ml_RX10_216 ⟨rfl, rfl⟩ ⟨(Nat.le_of_ble_eq_true rfl), (Nat.le_of_ble_eq_true rfl)⟩ ⟨(Nat.le_of_ble_eq_true rfl), (Nat.le_of_ble_eq_true rfl)⟩ 0 rfl rfl rfl rfl (Nat.le_of_ble_eq_true rfl) rfl dX10_wantRock_28 rfl ?_
  refine sw_aload_n (pc' := 32) (i := 0) cx dX10_wantRock_31 rfl 2 rfl rfl ?_
  refine sw_iconst (pc' := 33) (v := 1) cx dX10_wantRock_32 iconst_1 rfl ?_
  refine sw_bipush (pc' := 35) (v := 9) cx dX10_wantRock_33 bipush_9 rfl ?_
  obtain ⟨r5, hr5, hf⟩ := bd_s hf
  refine sw_callVw (pc' := 38) (As := [.int (1 : Int32), .int (9 : Int32)]) (rest := []) (w' := (mo_W h cI cJ row att fnd tape tmany r5.2.1 r5.2.2.1 r5.2.2.2.1 r5.2.2.2.2.1 r5.2.2.2.2.2.1 r5.2.2.2.2.2.2 bits size shts lent imag befo kept)) cx (k_X10_wantNumber l D h cI cJ cK cS row att fnd tape tmany r4.1 r4.2.1 r4.2.2.1 r4.2.2.2.1 r4.2.2.2.2.1 r4.2.2.2.2.2 bits size shts lent imag befo kept (1 : Int32) (9 : Int32) r5 hr5) pk_yX10_wantNumber ml_RX10_211 ⟨rfl, rfl⟩ ⟨(Nat.le_of_ble_eq_true rfl), (Nat.le_of_ble_eq_true rfl)⟩ ⟨(Nat.le_of_ble_eq_true rfl), (Nat.le_of_ble_eq_true rfl)⟩ 0 rfl rfl rfl rfl (Nat.le_of_ble_eq_true rfl) rfl dX10_wantRock_35 rfl ?_
  refine sw_istore_n (pc' := 39) (i := 3) (lv' := [(3, .int r5.1), (2, .int r3.1), (1, .int r2.1), (0, .ref (h 0))]) cx dX10_wantRock_38 rfl (Nat.le_of_ble_eq_true rfl) rfl rfl ?_
  refine sw_iload_n (pc' := 40) (i := 1) cx dX10_wantRock_39 rfl 2 rfl rfl ?_
  refine sw_istore (pc' := 42) (i := 4) (lv' := [(4, .int r2.1), (3, .int r5.1), (2, .int r3.1), (1, .int r2.1), (0, .ref (h 0))]) cx dX10_wantRock_40 (Nat.le_of_ble_eq_true rfl) rfl rfl ?_
  exact sw_lv [4, 2, 1, 0] rfl (B42 1000 row r5.2.1 r5.2.2.1 r5.2.2.2.1 r5.2.2.2.2.1 r5.2.2.2.2.2.1 r5.2.2.2.2.2.2 r3.1 r5.1 r2.1 hf)
abbrev rm_X10_wantLet : Room := ({ frames := 4, cells := 0, slots := 0, locals := 86 } : Room)
set_option maxRecDepth 100000 in
set_option maxHeartbeats 4000000 in
theorem k_X10_wantLet (l : Launch) (D : sf_D) (h : Nat → Nat) (cI cJ cK cS : ClassId) (row : Nat → Int32) (att : Int32) (fnd : Nat → Int32) (tape : Nat → Int32) (tmany : Int32) (sort : Int32) (begs : Int32) (tends : Int32) (word : Int64) (valu : Int32) (good : Int32) (bits : Nat → Int32) (size : Nat → Int32) (shts : Nat → Int64) (lent : Nat → Int64) (imag : Nat → Int32) (befo : Nat → Int32) (kept : Int32) (a0 : Int32) (a1 : Int32) (res : (Nat → Int32) × Int32 × Int32 × Int32 × Int64 × Int32 × Int32) (hf : f_X10_wantLet row tape tmany sort begs tends word valu good a0 a1 = some res) : sf_Ct l yX10_wantLet cX10_wantLet 4 none rm_X10_wantLet D (sf_ty cI cJ cK cS) [.ref (h 0), .int a0, .int a1] (mo_W h cI cJ row att fnd tape tmany sort begs tends word valu good bits size shts lent imag befo kept) none (mo_W h cI cJ res.1 att fnd tape tmany res.2.1 res.2.2.1 res.2.2.2.1 res.2.2.2.2.1 res.2.2.2.2.2.1 res.2.2.2.2.2.2 bits size shts lent imag befo kept) := by
  refine sf_met (lv := [(0, .ref (h 0)), (1, .int a0), (2, .int a1)]) (by decide) (Nat.le_of_ble_eq_true rfl) rfl ?_
  intro p e s m args below meth c A Q cx hr hQ
  have cx : sf_Cx p m meth c cX10_wantLet 4 s args RX10 D (sf_ty cI cJ cK cS) A := cx
  unfold f_X10_wantLet at hf
  refine sw_aload_n (pc' := 1) (i := 0) cx dX10_wantLet_0 rfl 0 rfl rfl ?_
  obtain ⟨r1, hr1, hf⟩ := bd_s hf
  refine sw_callVw (pc' := 4) (As := []) (rest := []) (w' := (mo_W h cI cJ row att fnd tape tmany r1.1 r1.2.1 r1.2.2.1 r1.2.2.2.1 r1.2.2.2.2 good bits size shts lent imag befo kept)) cx (k_X10_advance l D h cI cJ cK cS row att fnd tape tmany sort begs tends word valu good bits size shts lent imag befo kept  r1 hr1) pk_yX10_advance ml_RX10_208 ⟨rfl, rfl⟩ ⟨(Nat.le_of_ble_eq_true rfl), (Nat.le_of_ble_eq_true rfl)⟩ ⟨(Nat.le_of_ble_eq_true rfl), (Nat.le_of_ble_eq_true rfl)⟩ 0 rfl rfl rfl rfl (Nat.le_of_ble_eq_true rfl) rfl dX10_wantLet_1 rfl ?_
  refine sw_aload_n (pc' := 5) (i := 0) cx dX10_wantLet_4 rfl 0 rfl rfl ?_
  refine sw_iconst (pc' := 6) (v := 0) cx dX10_wantLet_5 iconst_0 rfl ?_
  refine sw_iload_n (pc' := 7) (i := 2) cx dX10_wantLet_6 rfl 2 rfl rfl ?_
  obtain ⟨r2, hr2, hf⟩ := bd_s hf
  refine sw_callVw (pc' := 10) (As := [.int (0 : Int32), .int a1]) (rest := []) (w' := (mo_W h cI cJ row att fnd tape tmany r2.2.1 r2.2.2.1 r2.2.2.2.1 r2.2.2.2.2.1 r2.2.2.2.2.2.1 r2.2.2.2.2.2.2 bits size shts lent imag befo kept)) cx (k_X10_wantNumber l D h cI cJ cK cS row att fnd tape tmany r1.1 r1.2.1 r1.2.2.1 r1.2.2.2.1 r1.2.2.2.2 good bits size shts lent imag befo kept (0 : Int32) a1 r2 hr2) pk_yX10_wantNumber ml_RX10_211 ⟨rfl, rfl⟩ ⟨(Nat.le_of_ble_eq_true rfl), (Nat.le_of_ble_eq_true rfl)⟩ ⟨(Nat.le_of_ble_eq_true rfl), (Nat.le_of_ble_eq_true rfl)⟩ 0 rfl rfl rfl rfl (Nat.le_of_ble_eq_true rfl) rfl dX10_wantLet_7 rfl ?_
  refine sw_istore_n (pc' := 11) (i := 3) (lv' := [(3, .int r2.1), (0, .ref (h 0)), (1, .int a0), (2, .int a1)]) cx dX10_wantLet_10 rfl (Nat.le_of_ble_eq_true rfl) rfl rfl ?_
  refine sw_aload_n (pc' := 12) (i := 0) cx dX10_wantLet_11 rfl 1 rfl rfl ?_
  refine sw_get (pc' := 15) cx in_X10 0 rfl rfl 10 (Nat.le_of_ble_eq_true rfl) fl_RX10_204 rfl dX10_wantLet_12 rfl ?_
  refine sw_if_eq (pc' := 18) (tgt := 25) cx dX10_wantLet_15 (by decide) rfl (fun c3 => ?_) (fun c3 => ?_)
  · replace hf := it_p c3 hf
    obtain rfl := Option.some.inj hf
    exact sw_vret cx hr hQ dX10_wantLet_25
  · replace hf := it_n c3 hf
    refine sw_aload_n (pc' := 19) (i := 0) cx dX10_wantLet_18 rfl 1 rfl rfl ?_
    refine sw_get (pc' := 22) cx in_X10 0 rfl rfl 0 (Nat.le_of_ble_eq_true rfl) fl_RX10_7 rfl dX10_wantLet_19 rfl ?_
    refine sw_iload_n (pc' := 23) (i := 1) cx dX10_wantLet_22 rfl 2 rfl rfl ?_
    refine sw_iload_n (pc' := 24) (i := 3) cx dX10_wantLet_23 rfl 0 rfl rfl ?_
    obtain ⟨h4, hf⟩ := gx_s hf
    refine sw_iast (pc' := 25) (ws' := (mo_W h cI cJ (upd row (a0).toNatClampNeg r2.1) att fnd tape tmany r2.2.1 r2.2.2.1 r2.2.2.2.1 r2.2.2.2.2.1 r2.2.2.2.2.2.1 r2.2.2.2.2.2.2 bits size shts lent imag befo kept)) cx 1 0 rfl rfl h4 dX10_wantLet_24 rfl rfl ?_
    obtain rfl := Option.some.inj hf
    exact sw_vret cx hr hQ dX10_wantLet_25
abbrev rm_X10_wantItem : Room := ({ frames := 6, cells := 0, slots := 0, locals := 135 } : Room)
set_option maxRecDepth 100000 in
set_option maxHeartbeats 4000000 in
theorem k_X10_wantItem (l : Launch) (D : sf_D) (h : Nat → Nat) (cI cJ cK cS : ClassId) (row : Nat → Int32) (att : Int32) (fnd : Nat → Int32) (tape : Nat → Int32) (tmany : Int32) (sort : Int32) (begs : Int32) (tends : Int32) (word : Int64) (valu : Int32) (good : Int32) (bits : Nat → Int32) (size : Nat → Int32) (shts : Nat → Int64) (lent : Nat → Int64) (imag : Nat → Int32) (befo : Nat → Int32) (kept : Int32)  (res : (Nat → Int32) × Int32 × Int32 × Int32 × Int64 × Int32 × Int32) (hf : f_X10_wantItem row att tape tmany sort begs tends word valu good = some res) : sf_Ct l yX10_wantItem cX10_wantItem 1 none rm_X10_wantItem D (sf_ty cI cJ cK cS) [.ref (h 0)] (mo_W h cI cJ row att fnd tape tmany sort begs tends word valu good bits size shts lent imag befo kept) none (mo_W h cI cJ res.1 att fnd tape tmany res.2.1 res.2.2.1 res.2.2.2.1 res.2.2.2.2.1 res.2.2.2.2.2.1 res.2.2.2.2.2.2 bits size shts lent imag befo kept) := by
  refine sf_met (lv := [(0, .ref (h 0))]) (by decide) (Nat.le_of_ble_eq_true rfl) rfl ?_
  intro p e s m args below meth c A Q cx hr hQ
  have cx : sf_Cx p m meth c cX10_wantItem 1 s args RX10 D (sf_ty cI cJ cK cS) A := cx
  unfold f_X10_wantItem at hf
  refine sw_aload_n (pc' := 1) (i := 0) cx dX10_wantItem_0 rfl 0 rfl rfl ?_
  obtain ⟨r1, hr1, hf⟩ := bd_s hf
  refine sw_callVw (pc' := 4) (As := []) (rest := []) (w' := (mo_W h cI cJ row att fnd tape tmany sort begs tends word valu good bits size shts lent imag befo kept)) cx (k_X10_kindHere l D h cI cJ cK cS row att fnd tape tmany sort begs tends word valu good bits size shts lent imag befo kept  r1 hr1) pk_yX10_kindHere ml_RX10_230 ⟨rfl, rfl⟩ ⟨(Nat.le_of_ble_eq_true rfl), (Nat.le_of_ble_eq_true rfl)⟩ ⟨(Nat.le_of_ble_eq_true rfl), (Nat.le_of_ble_eq_true rfl)⟩ 0 rfl rfl rfl rfl (Nat.le_of_ble_eq_true rfl) rfl dX10_wantItem_1 rfl ?_
  refine sw_if_lt (pc' := 7) (tgt := 18) cx dX10_wantItem_4 (by decide) rfl (fun c2 => ?_) (fun c2 => ?_)
  · replace hf := it_p c2 hf
    refine sw_aload_n (pc' := 19) (i := 0) cx dX10_wantItem_18 rfl 0 rfl rfl ?_
    refine sw_ldc2_w (pc' := 22) cx cl_RX10_236 dX10_wantItem_19 rfl ?_
    obtain ⟨r3, hr3, hf⟩ := bd_s hf
    refine sw_callVw (pc' := 25) (As := [.long (365321 : Int64)]) (rest := []) (w' := (mo_W h cI cJ row att fnd tape tmany sort begs tends word valu good bits size shts lent imag befo kept)) cx (k_X10_isWord l D h cI cJ cK cS row att fnd tape tmany sort begs tends word valu good bits size shts lent imag befo kept (365321 : Int64) r3 hr3) pk_yX10_isWord ml_RX10_190 ⟨rfl, rfl⟩ ⟨(Nat.le_of_ble_eq_true rfl), (Nat.le_of_ble_eq_true rfl)⟩ ⟨(Nat.le_of_ble_eq_true rfl), (Nat.le_of_ble_eq_true rfl)⟩ 0 rfl rfl rfl rfl (Nat.le_of_ble_eq_true rfl) rfl dX10_wantItem_22 rfl ?_
    refine sw_if_eq (pc' := 28) (tgt := 35) cx dX10_wantItem_25 (by decide) rfl (fun c4 => ?_) (fun c4 => ?_)
    · replace hf := it_p c4 hf
      refine sw_aload_n (pc' := 36) (i := 0) cx dX10_wantItem_35 rfl 0 rfl rfl ?_
      refine sw_ldc2_w (pc' := 39) cx cl_RX10_241 dX10_wantItem_36 rfl ?_
      obtain ⟨r5, hr5, hf⟩ := bd_s hf
      refine sw_callVw (pc' := 42) (As := [.long (3554408 : Int64)]) (rest := []) (w' := (mo_W h cI cJ row att fnd tape tmany sort begs tends word valu good bits size shts lent imag befo kept)) cx (k_X10_isWord l D h cI cJ cK cS row att fnd tape tmany sort begs tends word valu good bits size shts lent imag befo kept (3554408 : Int64) r5 hr5) pk_yX10_isWord ml_RX10_190 ⟨rfl, rfl⟩ ⟨(Nat.le_of_ble_eq_true rfl), (Nat.le_of_ble_eq_true rfl)⟩ ⟨(Nat.le_of_ble_eq_true rfl), (Nat.le_of_ble_eq_true rfl)⟩ 0 rfl rfl rfl rfl (Nat.le_of_ble_eq_true rfl) rfl dX10_wantItem_39 rfl ?_
      refine sw_if_eq (pc' := 45) (tgt := 55) cx dX10_wantItem_42 (by decide) rfl (fun c6 => ?_) (fun c6 => ?_)
      · replace hf := it_p c6 hf
        refine sw_aload_n (pc' := 56) (i := 0) cx dX10_wantItem_55 rfl 0 rfl rfl ?_
        refine sw_ldc2_w (pc' := 59) cx cl_RX10_247 dX10_wantItem_56 rfl ?_
        obtain ⟨r7, hr7, hf⟩ := bd_s hf
        refine sw_callVw (pc' := 62) (As := [.long (7011352 : Int64)]) (rest := []) (w' := (mo_W h cI cJ row att fnd tape tmany sort begs tends word valu good bits size shts lent imag befo kept)) cx (k_X10_isWord l D h cI cJ cK cS row att fnd tape tmany sort begs tends word valu good bits size shts lent imag befo kept (7011352 : Int64) r7 hr7) pk_yX10_isWord ml_RX10_190 ⟨rfl, rfl⟩ ⟨(Nat.le_of_ble_eq_true rfl), (Nat.le_of_ble_eq_true rfl)⟩ ⟨(Nat.le_of_ble_eq_true rfl), (Nat.le_of_ble_eq_true rfl)⟩ 0 rfl rfl rfl rfl (Nat.le_of_ble_eq_true rfl) rfl dX10_wantItem_59 rfl ?_
        refine sw_if_eq (pc' := 65) (tgt := 75) cx dX10_wantItem_62 (by decide) rfl (fun c8 => ?_) (fun c8 => ?_)
        · replace hf := it_p c8 hf
          refine sw_aload_n (pc' := 76) (i := 0) cx dX10_wantItem_75 rfl 0 rfl rfl ?_
          refine sw_iconst (pc' := 77) (v := 0) cx dX10_wantItem_76 iconst_0 rfl ?_
          refine sw_put (pc' := 80) (ws' := (mo_W h cI cJ row att fnd tape tmany sort begs tends word valu (0 : Int32) bits size shts lent imag befo kept)) cx in_X10 tyX10 tyX10_ok nmX10 0 rfl rfl 10 (Nat.le_of_ble_eq_true rfl) fl_RX10_204 rfl (by decide +kernel) (by decide +kernel) (Nat.le_of_ble_eq_true rfl) dX10_wantItem_77 rfl rfl ?_
          obtain rfl := Option.some.inj hf
          exact sw_vret cx hr hQ dX10_wantItem_80
        · replace hf := it_n c8 hf
          refine sw_aload_n (pc' := 66) (i := 0) cx dX10_wantItem_65 rfl 0 rfl rfl ?_
          refine sw_iconst (pc' := 67) (v := 2) cx dX10_wantItem_66 iconst_2 rfl ?_
          refine sw_bipush (pc' := 69) (v := 20) cx dX10_wantItem_67 bipush_20 rfl ?_
          obtain ⟨r9, hr9, hf⟩ := bd_s hf
          refine sw_callVw (pc' := 72) (As := [.int (2 : Int32), .int (20 : Int32)]) (rest := []) (w' := (mo_W h cI cJ r9.1 att fnd tape tmany r9.2.1 r9.2.2.1 r9.2.2.2.1 r9.2.2.2.2.1 r9.2.2.2.2.2.1 r9.2.2.2.2.2.2 bits size shts lent imag befo kept)) cx (k_X10_wantLet l D h cI cJ cK cS row att fnd tape tmany sort begs tends word valu good bits size shts lent imag befo kept (2 : Int32) (20 : Int32) r9 hr9) pk_yX10_wantLet ml_RX10_243 ⟨rfl, rfl⟩ ⟨(Nat.le_of_ble_eq_true rfl), (Nat.le_of_ble_eq_true rfl)⟩ ⟨(Nat.le_of_ble_eq_true rfl), (Nat.le_of_ble_eq_true rfl)⟩ 0 rfl rfl rfl rfl (Nat.le_of_ble_eq_true rfl) rfl dX10_wantItem_69 rfl ?_
          refine sw_goto (tgt := 80) cx dX10_wantItem_72 (by decide) ?_
          obtain rfl := Option.some.inj hf
          exact sw_vret cx hr hQ dX10_wantItem_80
      · replace hf := it_n c6 hf
        refine sw_aload_n (pc' := 46) (i := 0) cx dX10_wantItem_45 rfl 0 rfl rfl ?_
        refine sw_iconst (pc' := 47) (v := 1) cx dX10_wantItem_46 iconst_1 rfl ?_
        refine sw_bipush (pc' := 49) (v := 9) cx dX10_wantItem_47 bipush_9 rfl ?_
        obtain ⟨r10, hr10, hf⟩ := bd_s hf
        refine sw_callVw (pc' := 52) (As := [.int (1 : Int32), .int (9 : Int32)]) (rest := []) (w' := (mo_W h cI cJ r10.1 att fnd tape tmany r10.2.1 r10.2.2.1 r10.2.2.2.1 r10.2.2.2.2.1 r10.2.2.2.2.2.1 r10.2.2.2.2.2.2 bits size shts lent imag befo kept)) cx (k_X10_wantLet l D h cI cJ cK cS row att fnd tape tmany sort begs tends word valu good bits size shts lent imag befo kept (1 : Int32) (9 : Int32) r10 hr10) pk_yX10_wantLet ml_RX10_243 ⟨rfl, rfl⟩ ⟨(Nat.le_of_ble_eq_true rfl), (Nat.le_of_ble_eq_true rfl)⟩ ⟨(Nat.le_of_ble_eq_true rfl), (Nat.le_of_ble_eq_true rfl)⟩ 0 rfl rfl rfl rfl (Nat.le_of_ble_eq_true rfl) rfl dX10_wantItem_49 rfl ?_
        refine sw_goto (tgt := 80) cx dX10_wantItem_52 (by decide) ?_
        obtain rfl := Option.some.inj hf
        exact sw_vret cx hr hQ dX10_wantItem_80
    · replace hf := it_n c4 hf
      refine sw_aload_n (pc' := 29) (i := 0) cx dX10_wantItem_28 rfl 0 rfl rfl ?_
      obtain ⟨r11, hr11, hf⟩ := bd_s hf
      refine sw_callVw (pc' := 32) (As := []) (rest := []) (w' := (mo_W h cI cJ r11.1 att fnd tape tmany r11.2.1 r11.2.2.1 r11.2.2.2.1 r11.2.2.2.2.1 r11.2.2.2.2.2.1 r11.2.2.2.2.2.2 bits size shts lent imag befo kept)) cx (k_X10_wantRock l D h cI cJ cK cS row att fnd tape tmany sort begs tends word valu good bits size shts lent imag befo kept  r11 hr11) pk_yX10_wantRock ml_RX10_238 ⟨rfl, rfl⟩ ⟨(Nat.le_of_ble_eq_true rfl), (Nat.le_of_ble_eq_true rfl)⟩ ⟨(Nat.le_of_ble_eq_true rfl), (Nat.le_of_ble_eq_true rfl)⟩ 0 rfl rfl rfl rfl (Nat.le_of_ble_eq_true rfl) rfl dX10_wantItem_29 rfl ?_
      refine sw_goto (tgt := 80) cx dX10_wantItem_32 (by decide) ?_
      obtain rfl := Option.some.inj hf
      exact sw_vret cx hr hQ dX10_wantItem_80
  · replace hf := it_n c2 hf
    refine sw_aload_n (pc' := 8) (i := 0) cx dX10_wantItem_7 rfl 0 rfl rfl ?_
    refine sw_aload_n (pc' := 9) (i := 0) cx dX10_wantItem_8 rfl 0 rfl rfl ?_
    obtain ⟨r12, hr12, hf⟩ := bd_s hf
    refine sw_callVw (pc' := 12) (As := []) (rest := [.ref (h 0)]) (w' := (mo_W h cI cJ row att fnd tape tmany sort begs tends word valu good bits size shts lent imag befo kept)) cx (k_X10_kindHere l D h cI cJ cK cS row att fnd tape tmany sort begs tends word valu good bits size shts lent imag befo kept  r12 hr12) pk_yX10_kindHere ml_RX10_230 ⟨rfl, rfl⟩ ⟨(Nat.le_of_ble_eq_true rfl), (Nat.le_of_ble_eq_true rfl)⟩ ⟨(Nat.le_of_ble_eq_true rfl), (Nat.le_of_ble_eq_true rfl)⟩ 0 rfl rfl rfl rfl (Nat.le_of_ble_eq_true rfl) rfl dX10_wantItem_9 rfl ?_
    obtain ⟨r13, hr13, hf⟩ := bd_s hf
    refine sw_callVw (pc' := 15) (As := [.int r12]) (rest := []) (w' := (mo_W h cI cJ r13.1 att fnd tape tmany r13.2.1 r13.2.2.1 r13.2.2.2.1 r13.2.2.2.2.1 r13.2.2.2.2.2.1 r13.2.2.2.2.2.2 bits size shts lent imag befo kept)) cx (k_X10_wantFine l D h cI cJ cK cS row att fnd tape tmany sort begs tends word valu good bits size shts lent imag befo kept r12 r13 hr13) pk_yX10_wantFine ml_RX10_233 ⟨rfl, rfl⟩ ⟨(Nat.le_of_ble_eq_true rfl), (Nat.le_of_ble_eq_true rfl)⟩ ⟨(Nat.le_of_ble_eq_true rfl), (Nat.le_of_ble_eq_true rfl)⟩ 0 rfl rfl rfl rfl (Nat.le_of_ble_eq_true rfl) rfl dX10_wantItem_12 rfl ?_
    refine sw_goto (tgt := 80) cx dX10_wantItem_15 (by decide) ?_
    obtain rfl := Option.some.inj hf
    exact sw_vret cx hr hQ dX10_wantItem_80
abbrev rm_X10_moveAll_imag : Room := ({ frames := 0, cells := 0, slots := 0, locals := 0 } : Room)
set_option maxRecDepth 100000 in
set_option maxHeartbeats 4000000 in
theorem k_X10_moveAll_imag (l : Launch) (D : sf_D) (h : Nat → Nat) (cI cJ cK cS : ClassId) (row : Nat → Int32) (att : Int32) (fnd : Nat → Int32) (tape : Nat → Int32) (tmany : Int32) (sort : Int32) (begs : Int32) (tends : Int32) (word : Int64) (valu : Int32) (good : Int32) (bits : Nat → Int32) (size : Nat → Int32) (shts : Nat → Int64) (lent : Nat → Int64) (imag : Nat → Int32) (befo : Nat → Int32) (kept : Int32) (a0 : Int32) (res : (Nat → Int32) × (Nat → Int32)) (hf : f_X10_moveAll_imag row imag a0 = some res) : sf_Ct l yX10_moveAll cX10_moveAll 4 none rm_X10_moveAll_imag D (sf_ty cI cJ cK cS) [.ref (h 0), .int a0, .ref (h 8)] (mo_W h cI cJ row att fnd tape tmany sort begs tends word valu good bits size shts lent imag befo kept) none (mo_W h cI cJ res.1 att fnd tape tmany sort begs tends word valu good bits size shts lent res.2 befo kept) := by
  refine sf_met (lv := [(0, .ref (h 0)), (1, .int a0), (2, .ref (h 8))]) (by decide) (Nat.le_of_ble_eq_true rfl) rfl ?_
  intro p e s m args below meth c A Q cx hr hQ
  have cx : sf_Cx p m meth c cX10_moveAll 4 s args RX10 D (sf_ty cI cJ cK cS) A := cx
  have B34 : ∀ (kk : (Nat → Int32) → (Nat → Int32) → Int32 → Int32 → Option ((Nat → Int32) × (Nat → Int32))), (∀ (row : Nat → Int32) (imag : Nat → Int32) (x1 : Int32) (x3 : Int32), kk row imag x1 x3 = some res → sf_W p l e rm_X10_moveAll_imag s m args below meth c 0 0 Q 4 D A (mo_W h cI cJ row att fnd tape tmany sort begs tends word valu good bits size shts lent imag befo kept) [(0, .ref (h 0)), (1, .int x1), (2, .ref (h 8)), (3, .int x3)] 2 []) → ∀ (row : Nat → Int32) (imag : Nat → Int32) (x1 : Int32) (x3 : Int32), f_X10_moveAll_imag_b34 kk row imag x1 x3 = some res → sf_W p l e rm_X10_moveAll_imag s m args below meth c 0 0 Q 4 D A (mo_W h cI cJ row att fnd tape tmany sort begs tends word valu good bits size shts lent imag befo kept) [(0, .ref (h 0)), (1, .int x1), (2, .ref (h 8)), (3, .int x3)] 34 [] := by
    intro kk hkk row imag x1 x3 hf
    unfold f_X10_moveAll_imag_b34 at hf
    refine sw_iinc (pc' := 37) (v := (x3 + (1 : Int32))) (lv' := [(3, .int (x3 + (1 : Int32))), (0, .ref (h 0)), (1, .int x1), (2, .ref (h 8))]) cx dX10_moveAll_34 3 rfl rfl (Nat.le_of_ble_eq_true rfl) rfl rfl ?_
    refine sw_goto (tgt := 2) cx dX10_moveAll_37 (by decide) ?_
    exact sw_lv [1, 2, 3, 0] rfl (hkk row imag x1 (x3 + (1 : Int32)) hf)
  have B2 : ∀ (n : Nat), ∀ (row : Nat → Int32) (imag : Nat → Int32) (x1 : Int32) (x3 : Int32), f_X10_moveAll_imag_b2 n row imag x1 x3 = some res → sf_W p l e rm_X10_moveAll_imag s m args below meth c 0 0 Q 4 D A (mo_W h cI cJ row att fnd tape tmany sort begs tends word valu good bits size shts lent imag befo kept) [(0, .ref (h 0)), (1, .int x1), (2, .ref (h 8)), (3, .int x3)] 2 [] := by
    intro n
    induction n with
    | zero => intro row imag x1 x3 hf; rw [f_X10_moveAll_imag_b2] at hf; cases hf
    | succ n ih =>
      intro row imag x1 x3 hf
      rw [f_X10_moveAll_imag_b2] at hf
      refine sw_iload_n (pc' := 3) (i := 3) cx dX10_moveAll_2 rfl 3 rfl rfl ?_
      refine sw_sipush (pc' := 6) (v := 255) cx dX10_moveAll_3 sipush_255 rfl ?_
      refine sw_icmp_ge (pc' := 9) (tgt := 40) cx dX10_moveAll_6 (by decide) rfl (fun c1 => ?_) (fun c1 => ?_)
      · replace hf := it_p c1 hf
        obtain rfl := Option.some.inj hf
        exact sw_vret cx hr hQ dX10_moveAll_40
      · replace hf := it_n c1 hf
        refine sw_iload_n (pc' := 10) (i := 1) cx dX10_moveAll_9 rfl 1 rfl rfl ?_
        refine sw_if_eq (pc' := 13) (tgt := 25) cx dX10_moveAll_10 (by decide) rfl (fun c2 => ?_) (fun c2 => ?_)
        · replace hf := it_p c2 hf
          refine sw_aload_n (pc' := 26) (i := 0) cx dX10_moveAll_25 rfl 0 rfl rfl ?_
          refine sw_get (pc' := 29) cx in_X10 0 rfl rfl 0 (Nat.le_of_ble_eq_true rfl) fl_RX10_7 rfl dX10_moveAll_26 rfl ?_
          refine sw_iload_n (pc' := 30) (i := 3) cx dX10_moveAll_29 rfl 3 rfl rfl ?_
          refine sw_aload_n (pc' := 31) (i := 2) cx dX10_moveAll_30 rfl 2 rfl rfl ?_
          refine sw_iload_n (pc' := 32) (i := 3) cx dX10_moveAll_31 rfl 3 rfl rfl ?_
          obtain ⟨h3, hf⟩ := gx_s hf
          refine sw_iald (pc' := 33) cx 8 0 rfl rfl h3 dX10_moveAll_32 rfl ?_
          obtain ⟨h4, hf⟩ := gx_s hf
          refine sw_iast (pc' := 34) (ws' := (mo_W h cI cJ (upd row (x3).toNatClampNeg (imag (x3).toNatClampNeg)) att fnd tape tmany sort begs tends word valu good bits size shts lent imag befo kept)) cx 1 0 rfl rfl h4 dX10_moveAll_33 rfl rfl ?_
          exact sw_lv [0, 1, 2, 3] rfl (B34 _ ih (upd row (x3).toNatClampNeg (imag (x3).toNatClampNeg)) imag x1 x3 hf)
        · replace hf := it_n c2 hf
          refine sw_aload_n (pc' := 14) (i := 2) cx dX10_moveAll_13 rfl 2 rfl rfl ?_
          refine sw_iload_n (pc' := 15) (i := 3) cx dX10_moveAll_14 rfl 3 rfl rfl ?_
          refine sw_aload_n (pc' := 16) (i := 0) cx dX10_moveAll_15 rfl 0 rfl rfl ?_
          refine sw_get (pc' := 19) cx in_X10 0 rfl rfl 0 (Nat.le_of_ble_eq_true rfl) fl_RX10_7 rfl dX10_moveAll_16 rfl ?_
          refine sw_iload_n (pc' := 20) (i := 3) cx dX10_moveAll_19 rfl 3 rfl rfl ?_
          obtain ⟨h5, hf⟩ := gx_s hf
          refine sw_iald (pc' := 21) cx 1 0 rfl rfl h5 dX10_moveAll_20 rfl ?_
          obtain ⟨h6, hf⟩ := gx_s hf
          refine sw_iast (pc' := 22) (ws' := (mo_W h cI cJ row att fnd tape tmany sort begs tends word valu good bits size shts lent (upd imag (x3).toNatClampNeg (row (x3).toNatClampNeg)) befo kept)) cx 8 0 rfl rfl h6 dX10_moveAll_21 rfl rfl ?_
          refine sw_goto (tgt := 34) cx dX10_moveAll_22 (by decide) ?_
          exact sw_lv [0, 1, 2, 3] rfl (B34 _ ih row (upd imag (x3).toNatClampNeg (row (x3).toNatClampNeg)) x1 x3 hf)
  unfold f_X10_moveAll_imag at hf
  refine sw_iconst (pc' := 1) (v := 0) cx dX10_moveAll_0 iconst_0 rfl ?_
  refine sw_istore_n (pc' := 2) (i := 3) (lv' := [(3, .int (0 : Int32)), (0, .ref (h 0)), (1, .int a0), (2, .ref (h 8))]) cx dX10_moveAll_1 rfl (Nat.le_of_ble_eq_true rfl) rfl rfl ?_
  exact sw_lv [1, 2, 3, 0] rfl (B2 1000 row imag a0 (0 : Int32) hf)
abbrev rm_X10_moveAll_befo : Room := ({ frames := 0, cells := 0, slots := 0, locals := 0 } : Room)
set_option maxRecDepth 100000 in
set_option maxHeartbeats 4000000 in
theorem k_X10_moveAll_befo (l : Launch) (D : sf_D) (h : Nat → Nat) (cI cJ cK cS : ClassId) (row : Nat → Int32) (att : Int32) (fnd : Nat → Int32) (tape : Nat → Int32) (tmany : Int32) (sort : Int32) (begs : Int32) (tends : Int32) (word : Int64) (valu : Int32) (good : Int32) (bits : Nat → Int32) (size : Nat → Int32) (shts : Nat → Int64) (lent : Nat → Int64) (imag : Nat → Int32) (befo : Nat → Int32) (kept : Int32) (a0 : Int32) (res : (Nat → Int32) × (Nat → Int32)) (hf : f_X10_moveAll_befo row befo a0 = some res) : sf_Ct l yX10_moveAll cX10_moveAll 4 none rm_X10_moveAll_befo D (sf_ty cI cJ cK cS) [.ref (h 0), .int a0, .ref (h 9)] (mo_W h cI cJ row att fnd tape tmany sort begs tends word valu good bits size shts lent imag befo kept) none (mo_W h cI cJ res.1 att fnd tape tmany sort begs tends word valu good bits size shts lent imag res.2 kept) := by
  refine sf_met (lv := [(0, .ref (h 0)), (1, .int a0), (2, .ref (h 9))]) (by decide) (Nat.le_of_ble_eq_true rfl) rfl ?_
  intro p e s m args below meth c A Q cx hr hQ
  have cx : sf_Cx p m meth c cX10_moveAll 4 s args RX10 D (sf_ty cI cJ cK cS) A := cx
  have B34 : ∀ (kk : (Nat → Int32) → (Nat → Int32) → Int32 → Int32 → Option ((Nat → Int32) × (Nat → Int32))), (∀ (row : Nat → Int32) (befo : Nat → Int32) (x1 : Int32) (x3 : Int32), kk row befo x1 x3 = some res → sf_W p l e rm_X10_moveAll_befo s m args below meth c 0 0 Q 4 D A (mo_W h cI cJ row att fnd tape tmany sort begs tends word valu good bits size shts lent imag befo kept) [(0, .ref (h 0)), (1, .int x1), (2, .ref (h 9)), (3, .int x3)] 2 []) → ∀ (row : Nat → Int32) (befo : Nat → Int32) (x1 : Int32) (x3 : Int32), f_X10_moveAll_befo_b34 kk row befo x1 x3 = some res → sf_W p l e rm_X10_moveAll_befo s m args below meth c 0 0 Q 4 D A (mo_W h cI cJ row att fnd tape tmany sort begs tends word valu good bits size shts lent imag befo kept) [(0, .ref (h 0)), (1, .int x1), (2, .ref (h 9)), (3, .int x3)] 34 [] := by
    intro kk hkk row befo x1 x3 hf
    unfold f_X10_moveAll_befo_b34 at hf
    refine sw_iinc (pc' := 37) (v := (x3 + (1 : Int32))) (lv' := [(3, .int (x3 + (1 : Int32))), (0, .ref (h 0)), (1, .int x1), (2, .ref (h 9))]) cx dX10_moveAll_34 3 rfl rfl (Nat.le_of_ble_eq_true rfl) rfl rfl ?_
    refine sw_goto (tgt := 2) cx dX10_moveAll_37 (by decide) ?_
    exact sw_lv [1, 2, 3, 0] rfl (hkk row befo x1 (x3 + (1 : Int32)) hf)
  have B2 : ∀ (n : Nat), ∀ (row : Nat → Int32) (befo : Nat → Int32) (x1 : Int32) (x3 : Int32), f_X10_moveAll_befo_b2 n row befo x1 x3 = some res → sf_W p l e rm_X10_moveAll_befo s m args below meth c 0 0 Q 4 D A (mo_W h cI cJ row att fnd tape tmany sort begs tends word valu good bits size shts lent imag befo kept) [(0, .ref (h 0)), (1, .int x1), (2, .ref (h 9)), (3, .int x3)] 2 [] := by
    intro n
    induction n with
    | zero => intro row befo x1 x3 hf; rw [f_X10_moveAll_befo_b2] at hf; cases hf
    | succ n ih =>
      intro row befo x1 x3 hf
      rw [f_X10_moveAll_befo_b2] at hf
      refine sw_iload_n (pc' := 3) (i := 3) cx dX10_moveAll_2 rfl 3 rfl rfl ?_
      refine sw_sipush (pc' := 6) (v := 255) cx dX10_moveAll_3 sipush_255 rfl ?_
      refine sw_icmp_ge (pc' := 9) (tgt := 40) cx dX10_moveAll_6 (by decide) rfl (fun c1 => ?_) (fun c1 => ?_)
      · replace hf := it_p c1 hf
        obtain rfl := Option.some.inj hf
        exact sw_vret cx hr hQ dX10_moveAll_40
      · replace hf := it_n c1 hf
        refine sw_iload_n (pc' := 10) (i := 1) cx dX10_moveAll_9 rfl 1 rfl rfl ?_
        refine sw_if_eq (pc' := 13) (tgt := 25) cx dX10_moveAll_10 (by decide) rfl (fun c2 => ?_) (fun c2 => ?_)
        · replace hf := it_p c2 hf
          refine sw_aload_n (pc' := 26) (i := 0) cx dX10_moveAll_25 rfl 0 rfl rfl ?_
          refine sw_get (pc' := 29) cx in_X10 0 rfl rfl 0 (Nat.le_of_ble_eq_true rfl) fl_RX10_7 rfl dX10_moveAll_26 rfl ?_
          refine sw_iload_n (pc' := 30) (i := 3) cx dX10_moveAll_29 rfl 3 rfl rfl ?_
          refine sw_aload_n (pc' := 31) (i := 2) cx dX10_moveAll_30 rfl 2 rfl rfl ?_
          refine sw_iload_n (pc' := 32) (i := 3) cx dX10_moveAll_31 rfl 3 rfl rfl ?_
          obtain ⟨h3, hf⟩ := gx_s hf
          refine sw_iald (pc' := 33) cx 9 0 rfl rfl h3 dX10_moveAll_32 rfl ?_
          obtain ⟨h4, hf⟩ := gx_s hf
          refine sw_iast (pc' := 34) (ws' := (mo_W h cI cJ (upd row (x3).toNatClampNeg (befo (x3).toNatClampNeg)) att fnd tape tmany sort begs tends word valu good bits size shts lent imag befo kept)) cx 1 0 rfl rfl h4 dX10_moveAll_33 rfl rfl ?_
          exact sw_lv [0, 1, 2, 3] rfl (B34 _ ih (upd row (x3).toNatClampNeg (befo (x3).toNatClampNeg)) befo x1 x3 hf)
        · replace hf := it_n c2 hf
          refine sw_aload_n (pc' := 14) (i := 2) cx dX10_moveAll_13 rfl 2 rfl rfl ?_
          refine sw_iload_n (pc' := 15) (i := 3) cx dX10_moveAll_14 rfl 3 rfl rfl ?_
          refine sw_aload_n (pc' := 16) (i := 0) cx dX10_moveAll_15 rfl 0 rfl rfl ?_
          refine sw_get (pc' := 19) cx in_X10 0 rfl rfl 0 (Nat.le_of_ble_eq_true rfl) fl_RX10_7 rfl dX10_moveAll_16 rfl ?_
          refine sw_iload_n (pc' := 20) (i := 3) cx dX10_moveAll_19 rfl 3 rfl rfl ?_
          obtain ⟨h5, hf⟩ := gx_s hf
          refine sw_iald (pc' := 21) cx 1 0 rfl rfl h5 dX10_moveAll_20 rfl ?_
          obtain ⟨h6, hf⟩ := gx_s hf
          refine sw_iast (pc' := 22) (ws' := (mo_W h cI cJ row att fnd tape tmany sort begs tends word valu good bits size shts lent imag (upd befo (x3).toNatClampNeg (row (x3).toNatClampNeg)) kept)) cx 9 0 rfl rfl h6 dX10_moveAll_21 rfl rfl ?_
          refine sw_goto (tgt := 34) cx dX10_moveAll_22 (by decide) ?_
          exact sw_lv [0, 1, 2, 3] rfl (B34 _ ih row (upd befo (x3).toNatClampNeg (row (x3).toNatClampNeg)) x1 x3 hf)
  unfold f_X10_moveAll_befo at hf
  refine sw_iconst (pc' := 1) (v := 0) cx dX10_moveAll_0 iconst_0 rfl ?_
  refine sw_istore_n (pc' := 2) (i := 3) (lv' := [(3, .int (0 : Int32)), (0, .ref (h 0)), (1, .int a0), (2, .ref (h 9))]) cx dX10_moveAll_1 rfl (Nat.le_of_ble_eq_true rfl) rfl rfl ?_
  exact sw_lv [1, 2, 3, 0] rfl (B2 1000 row befo a0 (0 : Int32) hf)
abbrev rm_X10_court : Room := ({ frames := 7, cells := 0, slots := 0, locals := 155 } : Room)
set_option maxRecDepth 100000 in
set_option maxHeartbeats 4000000 in
theorem k_X10_court (l : Launch) (D : sf_D) (h : Nat → Nat) (cI cJ cK cS : ClassId) (row : Nat → Int32) (att : Int32) (fnd : Nat → Int32) (tape : Nat → Int32) (tmany : Int32) (sort : Int32) (begs : Int32) (tends : Int32) (word : Int64) (valu : Int32) (good : Int32) (bits : Nat → Int32) (size : Nat → Int32) (shts : Nat → Int64) (lent : Nat → Int64) (imag : Nat → Int32) (befo : Nat → Int32) (kept : Int32)  (res : Int32 × (Nat → Int32) × Int32 × Int32 × Int32 × Int32 × Int64 × Int32 × Int32 × (Nat → Int32)) (hf : f_X10_court row att tape tmany sort begs tends word valu good befo = some res) : sf_Ct l yX10_court cX10_court 3 (some .int) rm_X10_court D (sf_ty cI cJ cK cS) [.ref (h 0)] (mo_W h cI cJ row att fnd tape tmany sort begs tends word valu good bits size shts lent imag befo kept) (some (.int res.1)) (mo_W h cI cJ res.2.1 att fnd tape res.2.2.1 res.2.2.2.1 res.2.2.2.2.1 res.2.2.2.2.2.1 res.2.2.2.2.2.2.1 res.2.2.2.2.2.2.2.1 res.2.2.2.2.2.2.2.2.1 bits size shts lent imag res.2.2.2.2.2.2.2.2.2 kept) := by
  refine sf_met (lv := [(0, .ref (h 0))]) (by decide) (Nat.le_of_ble_eq_true rfl) rfl ?_
  intro p e s m args below meth c A Q cx hr hQ
  have cx : sf_Cx p m meth c cX10_court 3 s args RX10 D (sf_ty cI cJ cK cS) A := cx
  have B67 : ∀ (kk : (Nat → Int32) → Int32 → Int32 → Int32 → Int32 → Int64 → Int32 → Int32 → (Nat → Int32) → Int32 → Int32 → Option (Int32 × (Nat → Int32) × Int32 × Int32 × Int32 × Int32 × Int64 × Int32 × Int32 × (Nat → Int32))), (∀ (row : Nat → Int32) (tmany : Int32) (sort : Int32) (begs : Int32) (tends : Int32) (word : Int64) (valu : Int32) (good : Int32) (befo : Nat → Int32) (x1 : Int32) (x2 : Int32), kk row tmany sort begs tends word valu good befo x1 x2 = some res → sf_W p l e rm_X10_court s m args below meth c 0 0 Q 3 D A (mo_W h cI cJ row att fnd tape tmany sort begs tends word valu good bits size shts lent imag befo kept) [(0, .ref (h 0)), (1, .int x1), (2, .int x2)] 23 []) → ∀ (row : Nat → Int32) (tmany : Int32) (sort : Int32) (begs : Int32) (tends : Int32) (word : Int64) (valu : Int32) (good : Int32) (befo : Nat → Int32) (x1 : Int32) (s0 : Int32), f_X10_court_b67 att tape kk row tmany sort begs tends word valu good befo x1 s0 = some res → sf_W p l e rm_X10_court s m args below meth c 0 0 Q 3 D A (mo_W h cI cJ row att fnd tape tmany sort begs tends word valu good bits size shts lent imag befo kept) [(0, .ref (h 0)), (1, .int x1)] 67 [.int s0] := by
    intro kk hkk row tmany sort begs tends word valu good befo x1 s0 hf
    unfold f_X10_court_b67 at hf
    refine sw_istore_n (pc' := 68) (i := 2) (lv' := [(2, .int s0), (0, .ref (h 0)), (1, .int x1)]) cx dX10_court_67 rfl (Nat.le_of_ble_eq_true rfl) rfl rfl ?_
    refine sw_goto (tgt := 23) cx dX10_court_68 (by decide) ?_
    exact sw_lv [1, 2, 0] rfl (hkk row tmany sort begs tends word valu good befo x1 s0 hf)
  have B66 : ∀ (kk : (Nat → Int32) → Int32 → Int32 → Int32 → Int32 → Int64 → Int32 → Int32 → (Nat → Int32) → Int32 → Int32 → Option (Int32 × (Nat → Int32) × Int32 × Int32 × Int32 × Int32 × Int64 × Int32 × Int32 × (Nat → Int32))), (∀ (row : Nat → Int32) (tmany : Int32) (sort : Int32) (begs : Int32) (tends : Int32) (word : Int64) (valu : Int32) (good : Int32) (befo : Nat → Int32) (x1 : Int32) (x2 : Int32), kk row tmany sort begs tends word valu good befo x1 x2 = some res → sf_W p l e rm_X10_court s m args below meth c 0 0 Q 3 D A (mo_W h cI cJ row att fnd tape tmany sort begs tends word valu good bits size shts lent imag befo kept) [(0, .ref (h 0)), (1, .int x1), (2, .int x2)] 23 []) → ∀ (row : Nat → Int32) (tmany : Int32) (sort : Int32) (begs : Int32) (tends : Int32) (word : Int64) (valu : Int32) (good : Int32) (befo : Nat → Int32) (x1 : Int32), f_X10_court_b66 att tape kk row tmany sort begs tends word valu good befo x1 = some res → sf_W p l e rm_X10_court s m args below meth c 0 0 Q 3 D A (mo_W h cI cJ row att fnd tape tmany sort begs tends word valu good bits size shts lent imag befo kept) [(0, .ref (h 0)), (1, .int x1)] 66 [] := by
    intro kk hkk row tmany sort begs tends word valu good befo x1 hf
    unfold f_X10_court_b66 at hf
    refine sw_iconst (pc' := 67) (v := 0) cx dX10_court_66 iconst_0 rfl ?_
    exact sw_lv [0, 1] rfl (B67 kk hkk row tmany sort begs tends word valu good befo x1 (0 : Int32) hf)
  have B91 : ∀ (row : Nat → Int32) (tmany : Int32) (sort : Int32) (begs : Int32) (tends : Int32) (word : Int64) (valu : Int32) (good : Int32) (befo : Nat → Int32) (x1 : Int32) (s0 : Int32), f_X10_court_b91 att tape row tmany sort begs tends word valu good befo x1 s0 = some res → sf_W p l e rm_X10_court s m args below meth c 0 0 Q 3 D A (mo_W h cI cJ row att fnd tape tmany sort begs tends word valu good bits size shts lent imag befo kept) [(0, .ref (h 0)), (1, .int x1)] 91 [.int s0, .ref (h 0)] := by
    intro row tmany sort begs tends word valu good befo x1 s0 hf
    unfold f_X10_court_b91 at hf
    obtain ⟨h10, hf⟩ := gb_s hf
    refine sw_put (pc' := 94) (ws' := (mo_W h cI cJ row att fnd tape tmany sort begs tends word valu s0 bits size shts lent imag befo kept)) cx in_X10 tyX10 tyX10_ok nmX10 0 rfl rfl 10 (Nat.le_of_ble_eq_true rfl) fl_RX10_204 rfl h10.1 h10.2 (Nat.le_of_ble_eq_true rfl) dX10_court_91 rfl rfl ?_
    refine sw_aload_n (pc' := 95) (i := 0) cx dX10_court_94 rfl 0 rfl rfl ?_
    refine sw_iconst (pc' := 96) (v := 0) cx dX10_court_95 iconst_0 rfl ?_
    refine sw_put (pc' := 99) (ws' := (mo_W h cI cJ row att fnd tape (0 : Int32) sort begs tends word valu s0 bits size shts lent imag befo kept)) cx in_X10 tyX10 tyX10_ok nmX10 0 rfl rfl 4 (Nat.le_of_ble_eq_true rfl) fl_RX10_154 rfl rfl rfl (Nat.le_of_ble_eq_true rfl) dX10_court_96 rfl rfl ?_
    refine sw_aload_n (pc' := 100) (i := 0) cx dX10_court_99 rfl 0 rfl rfl ?_
    refine sw_get (pc' := 103) cx in_X10 0 rfl rfl 10 (Nat.le_of_ble_eq_true rfl) fl_RX10_204 rfl dX10_court_100 rfl ?_
    refine sw_if_ne (pc' := 106) (tgt := 122) cx dX10_court_103 (by decide) rfl (fun c11 => ?_) (fun c11 => ?_)
    · replace hf := it_n c11 hf
      refine sw_iload_n (pc' := 123) (i := 1) cx dX10_court_122 rfl 1 rfl rfl ?_
      obtain rfl := Option.some.inj hf
      exact sw_iret cx hr hQ dX10_court_123
    · replace hf := it_p c11 hf
      refine sw_aload_n (pc' := 107) (i := 0) cx dX10_court_106 rfl 0 rfl rfl ?_
      refine sw_iconst (pc' := 108) (v := 0) cx dX10_court_107 iconst_0 rfl ?_
      refine sw_aload_n (pc' := 109) (i := 0) cx dX10_court_108 rfl 0 rfl rfl ?_
      refine sw_get (pc' := 112) cx in_X10 0 rfl rfl 16 (Nat.le_of_ble_eq_true rfl) fl_RX10_35 rfl dX10_court_109 rfl ?_
      obtain ⟨r12, hr12, hf⟩ := bd_s hf
      refine sw_callVw (pc' := 115) (As := [.int (0 : Int32), .ref (h 9)]) (rest := []) (w' := (mo_W h cI cJ r12.1 att fnd tape (0 : Int32) sort begs tends word valu s0 bits size shts lent imag r12.2 kept)) cx (k_X10_moveAll_befo l D h cI cJ cK cS row att fnd tape (0 : Int32) sort begs tends word valu s0 bits size shts lent imag befo kept (0 : Int32) r12 hr12) pk_yX10_moveAll ml_RX10_249 ⟨rfl, rfl⟩ ⟨(Nat.le_of_ble_eq_true rfl), (Nat.le_of_ble_eq_true rfl)⟩ ⟨(Nat.le_of_ble_eq_true rfl), (Nat.le_of_ble_eq_true rfl)⟩ 0 rfl rfl rfl rfl (Nat.le_of_ble_eq_true rfl) rfl dX10_court_112 rfl ?_
      refine sw_iconst (pc' := 116) (v := -1) cx dX10_court_115 iconst_m1 rfl ?_
      refine sw_aload_n (pc' := 117) (i := 0) cx dX10_court_116 rfl 0 rfl rfl ?_
      refine sw_get (pc' := 120) cx in_X10 0 rfl rfl 6 (Nat.le_of_ble_eq_true rfl) fl_RX10_160 rfl dX10_court_117 rfl ?_
      refine sw_isub (pc' := 121) cx dX10_court_120 rfl ?_
      obtain rfl := Option.some.inj hf
      exact sw_iret cx hr hQ dX10_court_121
  have B90 : ∀ (row : Nat → Int32) (tmany : Int32) (sort : Int32) (begs : Int32) (tends : Int32) (word : Int64) (valu : Int32) (good : Int32) (befo : Nat → Int32) (x1 : Int32), f_X10_court_b90 att tape row tmany sort begs tends word valu good befo x1 = some res → sf_W p l e rm_X10_court s m args below meth c 0 0 Q 3 D A (mo_W h cI cJ row att fnd tape tmany sort begs tends word valu good bits size shts lent imag befo kept) [(0, .ref (h 0)), (1, .int x1)] 90 [.ref (h 0)] := by
    intro row tmany sort begs tends word valu good befo x1 hf
    unfold f_X10_court_b90 at hf
    refine sw_iconst (pc' := 91) (v := 0) cx dX10_court_90 iconst_0 rfl ?_
    exact sw_lv [0, 1] rfl (B91 row tmany sort begs tends word valu good befo x1 (0 : Int32) hf)
  have B23 : ∀ (n : Nat), ∀ (row : Nat → Int32) (tmany : Int32) (sort : Int32) (begs : Int32) (tends : Int32) (word : Int64) (valu : Int32) (good : Int32) (befo : Nat → Int32) (x1 : Int32) (x2 : Int32), f_X10_court_b23 att tape n row tmany sort begs tends word valu good befo x1 x2 = some res → sf_W p l e rm_X10_court s m args below meth c 0 0 Q 3 D A (mo_W h cI cJ row att fnd tape tmany sort begs tends word valu good bits size shts lent imag befo kept) [(0, .ref (h 0)), (1, .int x1), (2, .int x2)] 23 [] := by
    intro n
    induction n with
    | zero => intro row tmany sort begs tends word valu good befo x1 x2 hf; rw [f_X10_court_b23] at hf; cases hf
    | succ n ih =>
      intro row tmany sort begs tends word valu good befo x1 x2 hf
      rw [f_X10_court_b23] at hf
      refine sw_iload_n (pc' := 24) (i := 2) cx dX10_court_23 rfl 2 rfl rfl ?_
      refine sw_if_eq (pc' := 27) (tgt := 71) cx dX10_court_24 (by decide) rfl (fun c2 => ?_) (fun c2 => ?_)
      · replace hf := it_p c2 hf
        refine sw_aload_n (pc' := 72) (i := 0) cx dX10_court_71 rfl 0 rfl rfl ?_
        refine sw_aload_n (pc' := 73) (i := 0) cx dX10_court_72 rfl 0 rfl rfl ?_
        refine sw_get (pc' := 76) cx in_X10 0 rfl rfl 10 (Nat.le_of_ble_eq_true rfl) fl_RX10_204 rfl dX10_court_73 rfl ?_
        refine sw_if_eq (pc' := 79) (tgt := 90) cx dX10_court_76 (by decide) rfl (fun c3 => ?_) (fun c3 => ?_)
        · replace hf := it_p c3 hf
          exact sw_lv [0, 1] rfl (B90 row tmany sort begs tends word valu good befo x1 hf)
        · replace hf := it_n c3 hf
          refine sw_aload_n (pc' := 80) (i := 0) cx dX10_court_79 rfl 0 rfl rfl ?_
          refine sw_get (pc' := 83) cx in_X10 0 rfl rfl 5 (Nat.le_of_ble_eq_true rfl) fl_RX10_172 rfl dX10_court_80 rfl ?_
          refine sw_if_ne (pc' := 86) (tgt := 90) cx dX10_court_83 (by decide) rfl (fun c4 => ?_) (fun c4 => ?_)
          · replace hf := it_n c4 hf
            exact sw_lv [0, 1] rfl (B90 row tmany sort begs tends word valu good befo x1 hf)
          · replace hf := it_p c4 hf
            refine sw_iconst (pc' := 87) (v := 1) cx dX10_court_86 iconst_1 rfl ?_
            refine sw_goto (tgt := 91) cx dX10_court_87 (by decide) ?_
            exact sw_lv [0, 1] rfl (B91 row tmany sort begs tends word valu good befo x1 (1 : Int32) hf)
      · replace hf := it_n c2 hf
        refine sw_aload_n (pc' := 28) (i := 0) cx dX10_court_27 rfl 0 rfl rfl ?_
        obtain ⟨r5, hr5, hf⟩ := bd_s hf
        refine sw_callVw (pc' := 31) (As := []) (rest := []) (w' := (mo_W h cI cJ row att fnd tape tmany r5.1 r5.2.1 r5.2.2.1 r5.2.2.2.1 r5.2.2.2.2 good bits size shts lent imag befo kept)) cx (k_X10_advance l D h cI cJ cK cS row att fnd tape tmany sort begs tends word valu good bits size shts lent imag befo kept  r5 hr5) pk_yX10_advance ml_RX10_208 ⟨rfl, rfl⟩ ⟨(Nat.le_of_ble_eq_true rfl), (Nat.le_of_ble_eq_true rfl)⟩ ⟨(Nat.le_of_ble_eq_true rfl), (Nat.le_of_ble_eq_true rfl)⟩ 0 rfl rfl rfl rfl (Nat.le_of_ble_eq_true rfl) rfl dX10_court_28 rfl ?_
        refine sw_aload_n (pc' := 32) (i := 0) cx dX10_court_31 rfl 0 rfl rfl ?_
        obtain ⟨r6, hr6, hf⟩ := bd_s hf
        refine sw_callVw (pc' := 35) (As := []) (rest := []) (w' := (mo_W h cI cJ r6.1 att fnd tape tmany r6.2.1 r6.2.2.1 r6.2.2.2.1 r6.2.2.2.2.1 r6.2.2.2.2.2.1 r6.2.2.2.2.2.2 bits size shts lent imag befo kept)) cx (k_X10_wantItem l D h cI cJ cK cS row att fnd tape tmany r5.1 r5.2.1 r5.2.2.1 r5.2.2.2.1 r5.2.2.2.2 good bits size shts lent imag befo kept  r6 hr6) pk_yX10_wantItem ml_RX10_253 ⟨rfl, rfl⟩ ⟨(Nat.le_of_ble_eq_true rfl), (Nat.le_of_ble_eq_true rfl)⟩ ⟨(Nat.le_of_ble_eq_true rfl), (Nat.le_of_ble_eq_true rfl)⟩ 0 rfl rfl rfl rfl (Nat.le_of_ble_eq_true rfl) rfl dX10_court_32 rfl ?_
        refine sw_iinc (pc' := 38) (v := (x1 + (1 : Int32))) (lv' := [(1, .int (x1 + (1 : Int32))), (0, .ref (h 0)), (2, .int x2)]) cx dX10_court_35 1 rfl rfl (Nat.le_of_ble_eq_true rfl) rfl rfl ?_
        refine sw_aload_n (pc' := 39) (i := 0) cx dX10_court_38 rfl 1 rfl rfl ?_
        refine sw_get (pc' := 42) cx in_X10 0 rfl rfl 10 (Nat.le_of_ble_eq_true rfl) fl_RX10_204 rfl dX10_court_39 rfl ?_
        refine sw_if_eq (pc' := 45) (tgt := 66) cx dX10_court_42 (by decide) rfl (fun c7 => ?_) (fun c7 => ?_)
        · replace hf := it_p c7 hf
          exact sw_lv [1, 0] rfl (B66 _ ih r6.1 tmany r6.2.1 r6.2.2.1 r6.2.2.2.1 r6.2.2.2.2.1 r6.2.2.2.2.2.1 r6.2.2.2.2.2.2 befo (x1 + (1 : Int32)) hf)
        · replace hf := it_n c7 hf
          refine sw_aload_n (pc' := 46) (i := 0) cx dX10_court_45 rfl 1 rfl rfl ?_
          refine sw_get (pc' := 49) cx in_X10 0 rfl rfl 5 (Nat.le_of_ble_eq_true rfl) fl_RX10_172 rfl dX10_court_46 rfl ?_
          refine sw_iconst (pc' := 50) (v := 3) cx dX10_court_49 iconst_3 rfl ?_
          refine sw_icmp_ne (pc' := 53) (tgt := 66) cx dX10_court_50 (by decide) rfl (fun c8 => ?_) (fun c8 => ?_)
          · replace hf := it_n c8 hf
            exact sw_lv [1, 0] rfl (B66 _ ih r6.1 tmany r6.2.1 r6.2.2.1 r6.2.2.2.1 r6.2.2.2.2.1 r6.2.2.2.2.2.1 r6.2.2.2.2.2.2 befo (x1 + (1 : Int32)) hf)
          · replace hf := it_p c8 hf
            refine sw_aload_n (pc' := 54) (i := 0) cx dX10_court_53 rfl 1 rfl rfl ?_
            refine sw_get (pc' := 57) cx in_X10 0 rfl rfl 9 (Nat.le_of_ble_eq_true rfl) fl_RX10_179 rfl dX10_court_54 rfl ?_
            refine sw_bipush (pc' := 59) (v := 59) cx dX10_court_57 bipush_59 rfl ?_
            refine sw_icmp_ne (pc' := 62) (tgt := 66) cx dX10_court_59 (by decide) rfl (fun c9 => ?_) (fun c9 => ?_)
            · replace hf := it_n c9 hf
              exact sw_lv [1, 0] rfl (B66 _ ih r6.1 tmany r6.2.1 r6.2.2.1 r6.2.2.2.1 r6.2.2.2.2.1 r6.2.2.2.2.2.1 r6.2.2.2.2.2.2 befo (x1 + (1 : Int32)) hf)
            · replace hf := it_p c9 hf
              refine sw_iconst (pc' := 63) (v := 1) cx dX10_court_62 iconst_1 rfl ?_
              refine sw_goto (tgt := 67) cx dX10_court_63 (by decide) ?_
              exact sw_lv [1, 0] rfl (B67 _ ih r6.1 tmany r6.2.1 r6.2.2.1 r6.2.2.2.1 r6.2.2.2.2.1 r6.2.2.2.2.2.1 r6.2.2.2.2.2.2 befo (x1 + (1 : Int32)) (1 : Int32) hf)
  unfold f_X10_court at hf
  refine sw_aload_n (pc' := 1) (i := 0) cx dX10_court_0 rfl 0 rfl rfl ?_
  refine sw_iconst (pc' := 2) (v := 1) cx dX10_court_1 iconst_1 rfl ?_
  refine sw_aload_n (pc' := 3) (i := 0) cx dX10_court_2 rfl 0 rfl rfl ?_
  refine sw_get (pc' := 6) cx in_X10 0 rfl rfl 16 (Nat.le_of_ble_eq_true rfl) fl_RX10_35 rfl dX10_court_3 rfl ?_
  obtain ⟨r1, hr1, hf⟩ := bd_s hf
  refine sw_callVw (pc' := 9) (As := [.int (1 : Int32), .ref (h 9)]) (rest := []) (w' := (mo_W h cI cJ r1.1 att fnd tape tmany sort begs tends word valu good bits size shts lent imag r1.2 kept)) cx (k_X10_moveAll_befo l D h cI cJ cK cS row att fnd tape tmany sort begs tends word valu good bits size shts lent imag befo kept (1 : Int32) r1 hr1) pk_yX10_moveAll ml_RX10_249 ⟨rfl, rfl⟩ ⟨(Nat.le_of_ble_eq_true rfl), (Nat.le_of_ble_eq_true rfl)⟩ ⟨(Nat.le_of_ble_eq_true rfl), (Nat.le_of_ble_eq_true rfl)⟩ 0 rfl rfl rfl rfl (Nat.le_of_ble_eq_true rfl) rfl dX10_court_6 rfl ?_
  refine sw_aload_n (pc' := 10) (i := 0) cx dX10_court_9 rfl 0 rfl rfl ?_
  refine sw_iconst (pc' := 11) (v := 0) cx dX10_court_10 iconst_0 rfl ?_
  refine sw_put (pc' := 14) (ws' := (mo_W h cI cJ r1.1 att fnd tape tmany sort begs (0 : Int32) word valu good bits size shts lent imag r1.2 kept)) cx in_X10 tyX10 tyX10_ok nmX10 0 rfl rfl 7 (Nat.le_of_ble_eq_true rfl) fl_RX10_157 rfl rfl rfl (Nat.le_of_ble_eq_true rfl) dX10_court_11 rfl rfl ?_
  refine sw_aload_n (pc' := 15) (i := 0) cx dX10_court_14 rfl 0 rfl rfl ?_
  refine sw_iconst (pc' := 16) (v := 1) cx dX10_court_15 iconst_1 rfl ?_
  refine sw_put (pc' := 19) (ws' := (mo_W h cI cJ r1.1 att fnd tape tmany sort begs (0 : Int32) word valu (1 : Int32) bits size shts lent imag r1.2 kept)) cx in_X10 tyX10 tyX10_ok nmX10 0 rfl rfl 10 (Nat.le_of_ble_eq_true rfl) fl_RX10_204 rfl (by decide +kernel) (by decide +kernel) (Nat.le_of_ble_eq_true rfl) dX10_court_16 rfl rfl ?_
  refine sw_iconst (pc' := 20) (v := 0) cx dX10_court_19 iconst_0 rfl ?_
  refine sw_istore_n (pc' := 21) (i := 1) (lv' := [(1, .int (0 : Int32)), (0, .ref (h 0))]) cx dX10_court_20 rfl (Nat.le_of_ble_eq_true rfl) rfl rfl ?_
  refine sw_iconst (pc' := 22) (v := 1) cx dX10_court_21 iconst_1 rfl ?_
  refine sw_istore_n (pc' := 23) (i := 2) (lv' := [(2, .int (1 : Int32)), (1, .int (0 : Int32)), (0, .ref (h 0))]) cx dX10_court_22 rfl (Nat.le_of_ble_eq_true rfl) rfl rfl ?_
  exact sw_lv [2, 1, 0] rfl (B23 1000 r1.1 tmany sort begs (0 : Int32) word valu (1 : Int32) r1.2 (0 : Int32) (1 : Int32) hf)
abbrev rm_X10_isSheet : Room := ({ frames := 1, cells := 0, slots := 0, locals := 22 } : Room)
set_option maxRecDepth 100000 in
set_option maxHeartbeats 4000000 in
theorem k_X10_isSheet (l : Launch) (D : sf_D) (h : Nat → Nat) (cI cJ cK cS : ClassId)  (a0 : Int32) (res : Int32) (hf : f_X10_isSheet a0 = some res) : sf_Ct l yX10_isSheet cX10_isSheet 1 (some .boolean) rm_X10_isSheet D (sf_ty cI cJ cK cS) [.int a0] [] (some (.int res)) [] := by
  refine sf_met (lv := [(0, .int a0)]) (by decide) (Nat.le_of_ble_eq_true rfl) rfl ?_
  intro p e s m args below meth c A Q cx hr hQ
  have cx : sf_Cx p m meth c cX10_isSheet 1 s args RX10 D (sf_ty cI cJ cK cS) A := cx
  unfold f_X10_isSheet at hf
  refine sw_iload_n (pc' := 1) (i := 0) cx dX10_isSheet_0 rfl 0 rfl rfl ?_
  refine sw_iconst (pc' := 2) (v := 0) cx dX10_isSheet_1 iconst_0 rfl ?_
  refine sw_iconst (pc' := 3) (v := 3) cx dX10_isSheet_2 iconst_3 rfl ?_
  obtain ⟨r1, hr1, hf⟩ := bd_s hf
  refine sw_callS (pc' := 6) (As := [.int a0, .int (0 : Int32), .int (3 : Int32)]) (rest := []) cx (k_X10_in l D h cI cJ cK cS a0 (0 : Int32) (3 : Int32) r1 hr1) pk_yX10_in ml_RX10_47 ⟨rfl, rfl⟩ ⟨(Nat.le_of_ble_eq_true rfl), (Nat.le_of_ble_eq_true rfl)⟩ ⟨(Nat.le_of_ble_eq_true rfl), (Nat.le_of_ble_eq_true rfl)⟩ [] rfl rfl rfl (wn := []) rfl rfl (Nat.le_of_ble_eq_true rfl) rfl dX10_isSheet_3 rfl ?_
  obtain ⟨h2, hf⟩ := gb_s hf
  obtain rfl := Option.some.inj hf
  exact sw_zret cx hr h2.1 hQ dX10_isSheet_6
abbrev rm_X10_narrow : Room := ({ frames := 0, cells := 0, slots := 0, locals := 0 } : Room)
set_option maxRecDepth 100000 in
set_option maxHeartbeats 4000000 in
theorem k_X10_narrow (l : Launch) (D : sf_D) (h : Nat → Nat) (cI cJ cK cS : ClassId)  (a0 : Int32) (a1 : Int64) (res : Int64) (hf : f_X10_narrow a0 a1 = some res) : sf_Ct l yX10_narrow cX10_narrow 3 (some .long) rm_X10_narrow D (sf_ty cI cJ cK cS) [.int a0, .long a1] [] (some (.long res)) [] := by
  refine sf_met (lv := [(0, .int a0), (1, .long a1)]) (by decide) (Nat.le_of_ble_eq_true rfl) rfl ?_
  intro p e s m args below meth c A Q cx hr hQ
  have cx : sf_Cx p m meth c cX10_narrow 3 s args RX10 D (sf_ty cI cJ cK cS) A := cx
  unfold f_X10_narrow at hf
  refine sw_iload_n (pc' := 1) (i := 0) cx dX10_narrow_0 rfl 0 rfl rfl ?_
  refine sw_bipush (pc' := 3) (v := 8) cx dX10_narrow_1 bipush_8 rfl ?_
  refine sw_icmp_ne (pc' := 6) (tgt := 16) cx dX10_narrow_3 (by decide) rfl (fun c1 => ?_) (fun c1 => ?_)
  · replace hf := it_n c1 hf
    refine sw_iload_n (pc' := 17) (i := 0) cx dX10_narrow_16 rfl 0 rfl rfl ?_
    refine sw_bipush (pc' := 19) (v := 16) cx dX10_narrow_17 bipush_16 rfl ?_
    refine sw_icmp_ne (pc' := 22) (tgt := 32) cx dX10_narrow_19 (by decide) rfl (fun c2 => ?_) (fun c2 => ?_)
    · replace hf := it_n c2 hf
      refine sw_lload_n (pc' := 33) (i := 1) cx dX10_narrow_32 rfl 1 rfl rfl ?_
      obtain rfl := Option.some.inj hf
      exact sw_lret cx hr hQ dX10_narrow_33
    · replace hf := it_p c2 hf
      refine sw_lload_n (pc' := 23) (i := 1) cx dX10_narrow_22 rfl 1 rfl rfl ?_
      refine sw_bipush (pc' := 25) (v := 48) cx dX10_narrow_23 bipush_48 rfl ?_
      refine sw_lshl (pc' := 26) cx dX10_narrow_25 rfl ?_
      refine sw_bipush (pc' := 28) (v := 48) cx dX10_narrow_26 bipush_48 rfl ?_
      refine sw_lshr (pc' := 29) cx dX10_narrow_28 rfl ?_
      refine sw_goto (tgt := 33) cx dX10_narrow_29 (by decide) ?_
      obtain rfl := Option.some.inj hf
      exact sw_lret cx hr hQ dX10_narrow_33
  · replace hf := it_p c1 hf
    refine sw_lload_n (pc' := 7) (i := 1) cx dX10_narrow_6 rfl 1 rfl rfl ?_
    refine sw_bipush (pc' := 9) (v := 56) cx dX10_narrow_7 bipush_56 rfl ?_
    refine sw_lshl (pc' := 10) cx dX10_narrow_9 rfl ?_
    refine sw_bipush (pc' := 12) (v := 56) cx dX10_narrow_10 bipush_56 rfl ?_
    refine sw_lshr (pc' := 13) cx dX10_narrow_12 rfl ?_
    refine sw_goto (tgt := 33) cx dX10_narrow_13 (by decide) ?_
    obtain rfl := Option.some.inj hf
    exact sw_lret cx hr hQ dX10_narrow_33
