abbrev rm_X9_found : Room := ({ frames := 1, cells := 0, slots := 0, locals := 22 } : Room)
set_option maxRecDepth 100000 in
set_option maxHeartbeats 4000000 in
theorem k_X9_found (l : Launch) (D : sf_D) (g m0 m1 m2 ka sa sn : Nat → Nat) (cI cJ cK cS : ClassId) (mu : MtS) (tr : MtS) (ke : MtS) (kp : Int32) (tby : Nat → Int32) (tlen : Int32) (ttok : Int32) (tsta : Int32) (tbeh : Int32) (tnum : Int32) (ttak : Int32) (sh : Nat → ShS) (fi : Nat → Int32) (a0 : Int32) (res : Int32 × (Nat → Int32)) (hf : f_X9_found fi a0 = some res) : sf_Ct l yX9_found cX9_found 2 (some .int) rm_X9_found D (sf_ty cI cJ cK cS) [.ref (g 0), .int a0] (sx_W g m0 m1 m2 ka sa sn cI cJ cK cS mu tr ke kp tby tlen ttok tsta tbeh tnum ttak sh fi) (some (.int res.1)) (sx_W g m0 m1 m2 ka sa sn cI cJ cK cS mu tr ke kp tby tlen ttok tsta tbeh tnum ttak sh res.2) := by
  refine sf_met (lv := [(0, .ref (g 0)), (1, .int a0)]) (by decide) (Nat.le_of_ble_eq_true rfl) rfl ?_
  intro p e s m args below meth c A Q cx hr hQ
  have cx : sf_Cx p m meth c cX9_found 2 s args RX9 D (sf_ty cI cJ cK cS) A := cx
  have B20 : ∀ (fi : Nat → Int32) (x1 : Int32), f_X9_found_b20 fi x1 = some res → sf_W p l e rm_X9_found s m args below meth c 0 0 Q 2 D A (sx_W g m0 m1 m2 ka sa sn cI cJ cK cS mu tr ke kp tby tlen ttok tsta tbeh tnum ttak sh fi) [(1, .int x1)] 20 [] := by
    intro fi x1 hf
    unfold f_X9_found_b20 at hf
    refine sw_ldc_w (pc' := 23) cx ct_RX9_257 dX9_found_20 rfl ?_
    refine sw_iload_n (pc' := 24) (i := 1) cx dX9_found_23 rfl 0 rfl rfl ?_
    refine sw_isub (pc' := 25) cx dX9_found_24 rfl ?_
    obtain rfl := Option.some.inj hf
    exact sw_iret cx hr hQ dX9_found_25
  unfold f_X9_found at hf
  refine sw_iload_n (pc' := 1) (i := 1) cx dX9_found_0 rfl 1 rfl rfl ?_
  refine sw_iconst (pc' := 2) (v := 0) cx dX9_found_1 iconst_0 rfl ?_
  refine sw_bipush (pc' := 4) (v := 6) cx dX9_found_2 bipush_6 rfl ?_
  obtain ⟨r1, hr1, hf⟩ := bd_s hf
  refine sw_callS (pc' := 7) (As := [.int a0, .int (0 : Int32), .int (6 : Int32)]) (rest := []) cx (k_X9_isWithin l D cI cJ cK cS a0 (0 : Int32) (6 : Int32) r1 hr1) pk_yX9_isWithin ml_RX9_64 ⟨rfl, rfl⟩ ⟨(Nat.le_of_ble_eq_true rfl), (Nat.le_of_ble_eq_true rfl)⟩ ⟨(Nat.le_of_ble_eq_true rfl), (Nat.le_of_ble_eq_true rfl)⟩ [] rfl rfl rfl (wn := (sx_W g m0 m1 m2 ka sa sn cI cJ cK cS mu tr ke kp tby tlen ttok tsta tbeh tnum ttak sh fi)) rfl rfl (Nat.le_of_ble_eq_true rfl) rfl dX9_found_4 rfl ?_
  refine sw_if_eq (pc' := 10) (tgt := 20) cx dX9_found_7 (by decide) rfl (fun c2 => ?_) (fun c2 => ?_)
  · replace hf := it_p c2 hf
    exact sw_lv [1] rfl (B20 fi a0 hf)
  · replace hf := it_n c2 hf
    refine sw_aload_n (pc' := 11) (i := 0) cx dX9_found_10 rfl 0 rfl rfl ?_
    refine sw_get (pc' := 14) cx in_X9 0 rfl rfl 6 (Nat.le_of_ble_eq_true rfl) fl_RX9_56 rfl dX9_found_11 rfl ?_
    refine sw_iload_n (pc' := 15) (i := 1) cx dX9_found_14 rfl 1 rfl rfl ?_
    refine sw_dup2 (pc' := 16) cx dX9_found_15 rfl rfl rfl ?_
    obtain ⟨h3, hf⟩ := gx_s hf
    refine sw_iald (pc' := 17) cx 49 0 rfl rfl h3 dX9_found_16 rfl ?_
    refine sw_iconst (pc' := 18) (v := 1) cx dX9_found_17 iconst_1 rfl ?_
    refine sw_iadd (pc' := 19) cx dX9_found_18 rfl ?_
    obtain ⟨h4, hf⟩ := gx_s hf
    refine sw_iast (pc' := 20) (ws' := (sx_W g m0 m1 m2 ka sa sn cI cJ cK cS mu tr ke kp tby tlen ttok tsta tbeh tnum ttak sh (upd fi (a0).toNatClampNeg ((fi (a0).toNatClampNeg) + (1 : Int32))))) cx 49 0 rfl rfl h4 dX9_found_19 rfl rfl ?_
    exact sw_lv [1] rfl (B20 (upd fi (a0).toNatClampNeg ((fi (a0).toNatClampNeg) + (1 : Int32))) a0 hf)
abbrev rm_X9_rock : Room := ({ frames := 2, cells := 0, slots := 0, locals := 43 } : Room)
set_option maxRecDepth 100000 in
set_option maxHeartbeats 4000000 in
theorem k_X9_rock (l : Launch) (D : sf_D) (g m0 m1 m2 ka sa sn : Nat → Nat) (cI cJ cK cS : ClassId) (mu : MtS) (tr : MtS) (ke : MtS) (kp : Int32) (tby : Nat → Int32) (tlen : Int32) (ttok : Int32) (tsta : Int32) (tbeh : Int32) (tnum : Int32) (ttak : Int32) (sh : Nat → ShS) (fi : Nat → Int32) (a0 : Int32) (a1 : Int32) (res : Int32 × MtS × (Nat → Int32)) (hf : f_X9_rock mu fi a0 a1 = some res) : sf_Ct l yX9_rock cX9_rock 4 (some .int) rm_X9_rock D (sf_ty cI cJ cK cS) [.ref (g 0), .int a0, .int a1] (sx_W g m0 m1 m2 ka sa sn cI cJ cK cS mu tr ke kp tby tlen ttok tsta tbeh tnum ttak sh fi) (some (.int res.1)) (sx_W g m0 m1 m2 ka sa sn cI cJ cK cS res.2.1 tr ke kp tby tlen ttok tsta tbeh tnum ttak sh res.2.2) := by
  refine sf_met (lv := [(0, .ref (g 0)), (1, .int a0), (2, .int a1)]) (by decide) (Nat.le_of_ble_eq_true rfl) rfl ?_
  intro p e s m args below meth c A Q cx hr hQ
  have cx : sf_Cx p m meth c cX9_rock 4 s args RX9 D (sf_ty cI cJ cK cS) A := cx
  have B17 : ∀ (mu : MtS) (fi : Nat → Int32), f_X9_rock_b17 mu fi = some res → sf_W p l e rm_X9_rock s m args below meth c 0 0 Q 4 D A (sx_W g m0 m1 m2 ka sa sn cI cJ cK cS mu tr ke kp tby tlen ttok tsta tbeh tnum ttak sh fi) [(0, .ref (g 0))] 17 [] := by
    intro mu fi hf
    unfold f_X9_rock_b17 at hf
    refine sw_aload_n (pc' := 18) (i := 0) cx dX9_rock_17 rfl 0 rfl rfl ?_
    refine sw_iconst (pc' := 19) (v := 0) cx dX9_rock_18 iconst_0 rfl ?_
    obtain ⟨r7, hr7, hf⟩ := bd_s hf
    refine sw_callVw (pc' := 22) (As := [.int (0 : Int32)]) (rest := []) (w' := (sx_W g m0 m1 m2 ka sa sn cI cJ cK cS mu tr ke kp tby tlen ttok tsta tbeh tnum ttak sh r7.2)) cx (k_X9_found l D g m0 m1 m2 ka sa sn cI cJ cK cS mu tr ke kp tby tlen ttok tsta tbeh tnum ttak sh fi (0 : Int32) r7 hr7) pk_yX9_found ml_RX9_68 ⟨rfl, rfl⟩ ⟨(Nat.le_of_ble_eq_true rfl), (Nat.le_of_ble_eq_true rfl)⟩ ⟨(Nat.le_of_ble_eq_true rfl), (Nat.le_of_ble_eq_true rfl)⟩ 0 rfl rfl rfl rfl (Nat.le_of_ble_eq_true rfl) rfl dX9_rock_19 rfl ?_
    obtain rfl := Option.some.inj hf
    exact sw_iret cx hr hQ dX9_rock_22
  unfold f_X9_rock at hf
  refine sw_iload_n (pc' := 1) (i := 1) cx dX9_rock_0 rfl 1 rfl rfl ?_
  obtain ⟨r1, hr1, hf⟩ := bd_s hf
  refine sw_callS (pc' := 4) (As := [.int a0]) (rest := []) cx (k_X9_isPlace l D cI cJ cK cS a0 r1 hr1) pk_yX9_isPlace ml_RX9_60 ⟨rfl, rfl⟩ ⟨(Nat.le_of_ble_eq_true rfl), (Nat.le_of_ble_eq_true rfl)⟩ ⟨(Nat.le_of_ble_eq_true rfl), (Nat.le_of_ble_eq_true rfl)⟩ [] rfl rfl rfl (wn := (sx_W g m0 m1 m2 ka sa sn cI cJ cK cS mu tr ke kp tby tlen ttok tsta tbeh tnum ttak sh fi)) rfl rfl (Nat.le_of_ble_eq_true rfl) rfl dX9_rock_1 rfl ?_
  refine sw_if_eq (pc' := 7) (tgt := 17) cx dX9_rock_4 (by decide) rfl (fun c2 => ?_) (fun c2 => ?_)
  · replace hf := it_p c2 hf
    exact sw_lv [0] rfl (B17 mu fi hf)
  · replace hf := it_n c2 hf
    refine sw_iload_n (pc' := 8) (i := 2) cx dX9_rock_7 rfl 2 rfl rfl ?_
    refine sw_iconst (pc' := 9) (v := 1) cx dX9_rock_8 iconst_1 rfl ?_
    refine sw_bipush (pc' := 11) (v := 9) cx dX9_rock_9 bipush_9 rfl ?_
    obtain ⟨r3, hr3, hf⟩ := bd_s hf
    refine sw_callS (pc' := 14) (As := [.int a1, .int (1 : Int32), .int (9 : Int32)]) (rest := []) cx (k_X9_isWithin l D cI cJ cK cS a1 (1 : Int32) (9 : Int32) r3 hr3) pk_yX9_isWithin ml_RX9_64 ⟨rfl, rfl⟩ ⟨(Nat.le_of_ble_eq_true rfl), (Nat.le_of_ble_eq_true rfl)⟩ ⟨(Nat.le_of_ble_eq_true rfl), (Nat.le_of_ble_eq_true rfl)⟩ [] rfl rfl rfl (wn := (sx_W g m0 m1 m2 ka sa sn cI cJ cK cS mu tr ke kp tby tlen ttok tsta tbeh tnum ttak sh fi)) rfl rfl (Nat.le_of_ble_eq_true rfl) rfl dX9_rock_11 rfl ?_
    refine sw_if_ne (pc' := 17) (tgt := 23) cx dX9_rock_14 (by decide) rfl (fun c4 => ?_) (fun c4 => ?_)
    · replace hf := it_n c4 hf
      refine sw_aload_n (pc' := 24) (i := 0) cx dX9_rock_23 rfl 0 rfl rfl ?_
      refine sw_get (pc' := 27) cx in_X9 0 rfl rfl 0 (Nat.le_of_ble_eq_true rfl) fl_RX9_32 rfl dX9_rock_24 rfl ?_
      refine sw_getN (pc' := 30) cx in_X4 1 rfl rfl 1 (Nat.le_of_ble_eq_true rfl) fn_RX9_72 rfl dX9_rock_27 rfl ?_
      refine sw_iload_n (pc' := 31) (i := 1) cx dX9_rock_30 rfl 1 rfl rfl ?_
      obtain ⟨h5, hf⟩ := gx_s hf
      refine sw_iald (pc' := 32) cx 2 0 rfl rfl h5 dX9_rock_31 rfl ?_
      refine sw_istore_n (pc' := 33) (i := 3) (lv' := [(3, .int ((mu.1 1) (a0).toNatClampNeg)), (0, .ref (g 0)), (1, .int a0), (2, .int a1)]) cx dX9_rock_32 rfl (Nat.le_of_ble_eq_true rfl) rfl rfl ?_
      refine sw_aload_n (pc' := 34) (i := 0) cx dX9_rock_33 rfl 1 rfl rfl ?_
      refine sw_get (pc' := 37) cx in_X9 0 rfl rfl 0 (Nat.le_of_ble_eq_true rfl) fl_RX9_32 rfl dX9_rock_34 rfl ?_
      refine sw_getN (pc' := 40) cx in_X4 1 rfl rfl 1 (Nat.le_of_ble_eq_true rfl) fn_RX9_72 rfl dX9_rock_37 rfl ?_
      refine sw_iload_n (pc' := 41) (i := 1) cx dX9_rock_40 rfl 2 rfl rfl ?_
      refine sw_iload_n (pc' := 42) (i := 2) cx dX9_rock_41 rfl 3 rfl rfl ?_
      obtain ⟨h6, hf⟩ := gx_s hf
      refine sw_iast (pc' := 43) (ws' := (sx_W g m0 m1 m2 ka sa sn cI cJ cK cS (mt_mk (mu.1 0 0) (mu.1 0 1) (mu.1 0 2) (mu.1 0 3) (mu.1 0 4) (upd (mu.1 1) (a0).toNatClampNeg a1) (mu.1 2) (mu.1 3) (mu.1 4) (mu.1 5) (mu.1 6) (mu.1 7) (mu.1 8) (mu.1 9) mu.2) tr ke kp tby tlen ttok tsta tbeh tnum ttak sh fi)) cx 2 0 rfl rfl h6 dX9_rock_42 rfl rfl ?_
      refine sw_iload_n (pc' := 44) (i := 3) cx dX9_rock_43 rfl 0 rfl rfl ?_
      obtain rfl := Option.some.inj hf
      exact sw_iret cx hr hQ dX9_rock_44
    · replace hf := it_p c4 hf
      exact sw_lv [0] rfl (B17 mu fi hf)
abbrev rm_X9_let : Room := ({ frames := 2, cells := 0, slots := 0, locals := 43 } : Room)
set_option maxRecDepth 100000 in
set_option maxHeartbeats 4000000 in
theorem k_X9_let (l : Launch) (D : sf_D) (g m0 m1 m2 ka sa sn : Nat → Nat) (cI cJ cK cS : ClassId) (mu : MtS) (tr : MtS) (ke : MtS) (kp : Int32) (tby : Nat → Int32) (tlen : Int32) (ttok : Int32) (tsta : Int32) (tbeh : Int32) (tnum : Int32) (ttak : Int32) (sh : Nat → ShS) (fi : Nat → Int32) (a0 : Int32) (a1 : Int32) (res : Int32 × MtS × (Nat → Int32)) (hf : f_X9_let mu fi a0 a1 = some res) : sf_Ct l yX9_let cX9_let 4 (some .int) rm_X9_let D (sf_ty cI cJ cK cS) [.ref (g 0), .int a0, .int a1] (sx_W g m0 m1 m2 ka sa sn cI cJ cK cS mu tr ke kp tby tlen ttok tsta tbeh tnum ttak sh fi) (some (.int res.1)) (sx_W g m0 m1 m2 ka sa sn cI cJ cK cS res.2.1 tr ke kp tby tlen ttok tsta tbeh tnum ttak sh res.2.2) := by
  refine sf_met (lv := [(0, .ref (g 0)), (1, .int a0), (2, .int a1)]) (by decide) (Nat.le_of_ble_eq_true rfl) rfl ?_
  intro p e s m args below meth c A Q cx hr hQ
  have cx : sf_Cx p m meth c cX9_let 4 s args RX9 D (sf_ty cI cJ cK cS) A := cx
  have B65 : ∀ (mu : MtS) (fi : Nat → Int32), f_X9_let_b65 mu fi = some res → sf_W p l e rm_X9_let s m args below meth c 0 0 Q 4 D A (sx_W g m0 m1 m2 ka sa sn cI cJ cK cS mu tr ke kp tby tlen ttok tsta tbeh tnum ttak sh fi) [(0, .ref (g 0))] 65 [] := by
    intro mu fi hf
    unfold f_X9_let_b65 at hf
    refine sw_aload_n (pc' := 66) (i := 0) cx dX9_let_65 rfl 0 rfl rfl ?_
    refine sw_iconst (pc' := 67) (v := 0) cx dX9_let_66 iconst_0 rfl ?_
    obtain ⟨r7, hr7, hf⟩ := bd_s hf
    refine sw_callVw (pc' := 70) (As := [.int (0 : Int32)]) (rest := []) (w' := (sx_W g m0 m1 m2 ka sa sn cI cJ cK cS mu tr ke kp tby tlen ttok tsta tbeh tnum ttak sh r7.2)) cx (k_X9_found l D g m0 m1 m2 ka sa sn cI cJ cK cS mu tr ke kp tby tlen ttok tsta tbeh tnum ttak sh fi (0 : Int32) r7 hr7) pk_yX9_found ml_RX9_68 ⟨rfl, rfl⟩ ⟨(Nat.le_of_ble_eq_true rfl), (Nat.le_of_ble_eq_true rfl)⟩ ⟨(Nat.le_of_ble_eq_true rfl), (Nat.le_of_ble_eq_true rfl)⟩ 0 rfl rfl rfl rfl (Nat.le_of_ble_eq_true rfl) rfl dX9_let_67 rfl ?_
    obtain rfl := Option.some.inj hf
    exact sw_iret cx hr hQ dX9_let_70
  have B32 : ∀ (mu : MtS) (fi : Nat → Int32) (x1 : Int32) (x2 : Int32), f_X9_let_b32 mu fi x1 x2 = some res → sf_W p l e rm_X9_let s m args below meth c 0 0 Q 4 D A (sx_W g m0 m1 m2 ka sa sn cI cJ cK cS mu tr ke kp tby tlen ttok tsta tbeh tnum ttak sh fi) [(0, .ref (g 0)), (1, .int x1), (2, .int x2)] 32 [] := by
    intro mu fi x1 x2 hf
    unfold f_X9_let_b32 at hf
    refine sw_iload_n (pc' := 33) (i := 1) cx dX9_let_32 rfl 1 rfl rfl ?_
    refine sw_iconst (pc' := 34) (v := 1) cx dX9_let_33 iconst_1 rfl ?_
    refine sw_icmp_ne (pc' := 37) (tgt := 65) cx dX9_let_34 (by decide) rfl (fun c4 => ?_) (fun c4 => ?_)
    · replace hf := it_n c4 hf
      exact sw_lv [0] rfl (B65 mu fi hf)
    · replace hf := it_p c4 hf
      refine sw_iload_n (pc' := 38) (i := 2) cx dX9_let_37 rfl 2 rfl rfl ?_
      refine sw_iconst (pc' := 39) (v := 0) cx dX9_let_38 iconst_0 rfl ?_
      refine sw_bipush (pc' := 41) (v := 20) cx dX9_let_39 bipush_20 rfl ?_
      obtain ⟨r5, hr5, hf⟩ := bd_s hf
      refine sw_callS (pc' := 44) (As := [.int x2, .int (0 : Int32), .int (20 : Int32)]) (rest := []) cx (k_X9_isWithin l D cI cJ cK cS x2 (0 : Int32) (20 : Int32) r5 hr5) pk_yX9_isWithin ml_RX9_64 ⟨rfl, rfl⟩ ⟨(Nat.le_of_ble_eq_true rfl), (Nat.le_of_ble_eq_true rfl)⟩ ⟨(Nat.le_of_ble_eq_true rfl), (Nat.le_of_ble_eq_true rfl)⟩ [] rfl rfl rfl (wn := (sx_W g m0 m1 m2 ka sa sn cI cJ cK cS mu tr ke kp tby tlen ttok tsta tbeh tnum ttak sh fi)) rfl rfl (Nat.le_of_ble_eq_true rfl) rfl dX9_let_41 rfl ?_
      refine sw_if_eq (pc' := 47) (tgt := 65) cx dX9_let_44 (by decide) rfl (fun c6 => ?_) (fun c6 => ?_)
      · replace hf := it_p c6 hf
        exact sw_lv [0] rfl (B65 mu fi hf)
      · replace hf := it_n c6 hf
        refine sw_aload_n (pc' := 48) (i := 0) cx dX9_let_47 rfl 0 rfl rfl ?_
        refine sw_get (pc' := 51) cx in_X9 0 rfl rfl 0 (Nat.le_of_ble_eq_true rfl) fl_RX9_32 rfl dX9_let_48 rfl ?_
        refine sw_getN (pc' := 54) cx in_X4 1 rfl rfl 8 (Nat.le_of_ble_eq_true rfl) fn_RX9_79 rfl dX9_let_51 rfl ?_
        refine sw_istore_n (pc' := 55) (i := 3) (lv' := [(3, .int (mu.1 0 2)), (0, .ref (g 0)), (1, .int x1), (2, .int x2)]) cx dX9_let_54 rfl (Nat.le_of_ble_eq_true rfl) rfl rfl ?_
        refine sw_aload_n (pc' := 56) (i := 0) cx dX9_let_55 rfl 1 rfl rfl ?_
        refine sw_get (pc' := 59) cx in_X9 0 rfl rfl 0 (Nat.le_of_ble_eq_true rfl) fl_RX9_32 rfl dX9_let_56 rfl ?_
        refine sw_iload_n (pc' := 60) (i := 2) cx dX9_let_59 rfl 3 rfl rfl ?_
        refine sw_putN (pc' := 63) (ws' := (sx_W g m0 m1 m2 ka sa sn cI cJ cK cS (mt_mk (mu.1 0 0) (mu.1 0 1) x2 (mu.1 0 3) (mu.1 0 4) (mu.1 1) (mu.1 2) (mu.1 3) (mu.1 4) (mu.1 5) (mu.1 6) (mu.1 7) (mu.1 8) (mu.1 9) mu.2) tr ke kp tby tlen ttok tsta tbeh tnum ttak sh fi)) cx in_X4 tyX4 tyX4_ok nmX4 1 rfl rfl 8 (Nat.le_of_ble_eq_true rfl) fn_RX9_79 rfl rfl rfl (Nat.le_of_ble_eq_true rfl) dX9_let_60 rfl rfl ?_
        refine sw_iload_n (pc' := 64) (i := 3) cx dX9_let_63 rfl 0 rfl rfl ?_
        obtain rfl := Option.some.inj hf
        exact sw_iret cx hr hQ dX9_let_64
  unfold f_X9_let at hf
  refine sw_iload_n (pc' := 1) (i := 1) cx dX9_let_0 rfl 1 rfl rfl ?_
  refine sw_if_ne (pc' := 4) (tgt := 32) cx dX9_let_1 (by decide) rfl (fun c1 => ?_) (fun c1 => ?_)
  · replace hf := it_n c1 hf
    exact sw_lv [0, 1, 2] rfl (B32 mu fi a0 a1 hf)
  · replace hf := it_p c1 hf
    refine sw_iload_n (pc' := 5) (i := 2) cx dX9_let_4 rfl 2 rfl rfl ?_
    refine sw_iconst (pc' := 6) (v := 0) cx dX9_let_5 iconst_0 rfl ?_
    refine sw_bipush (pc' := 8) (v := 9) cx dX9_let_6 bipush_9 rfl ?_
    obtain ⟨r2, hr2, hf⟩ := bd_s hf
    refine sw_callS (pc' := 11) (As := [.int a1, .int (0 : Int32), .int (9 : Int32)]) (rest := []) cx (k_X9_isWithin l D cI cJ cK cS a1 (0 : Int32) (9 : Int32) r2 hr2) pk_yX9_isWithin ml_RX9_64 ⟨rfl, rfl⟩ ⟨(Nat.le_of_ble_eq_true rfl), (Nat.le_of_ble_eq_true rfl)⟩ ⟨(Nat.le_of_ble_eq_true rfl), (Nat.le_of_ble_eq_true rfl)⟩ [] rfl rfl rfl (wn := (sx_W g m0 m1 m2 ka sa sn cI cJ cK cS mu tr ke kp tby tlen ttok tsta tbeh tnum ttak sh fi)) rfl rfl (Nat.le_of_ble_eq_true rfl) rfl dX9_let_8 rfl ?_
    refine sw_if_eq (pc' := 14) (tgt := 32) cx dX9_let_11 (by decide) rfl (fun c3 => ?_) (fun c3 => ?_)
    · replace hf := it_p c3 hf
      exact sw_lv [0, 1, 2] rfl (B32 mu fi a0 a1 hf)
    · replace hf := it_n c3 hf
      refine sw_aload_n (pc' := 15) (i := 0) cx dX9_let_14 rfl 0 rfl rfl ?_
      refine sw_get (pc' := 18) cx in_X9 0 rfl rfl 0 (Nat.le_of_ble_eq_true rfl) fl_RX9_32 rfl dX9_let_15 rfl ?_
      refine sw_getN (pc' := 21) cx in_X4 1 rfl rfl 7 (Nat.le_of_ble_eq_true rfl) fn_RX9_75 rfl dX9_let_18 rfl ?_
      refine sw_istore_n (pc' := 22) (i := 3) (lv' := [(3, .int (mu.1 0 1)), (0, .ref (g 0)), (1, .int a0), (2, .int a1)]) cx dX9_let_21 rfl (Nat.le_of_ble_eq_true rfl) rfl rfl ?_
      refine sw_aload_n (pc' := 23) (i := 0) cx dX9_let_22 rfl 1 rfl rfl ?_
      refine sw_get (pc' := 26) cx in_X9 0 rfl rfl 0 (Nat.le_of_ble_eq_true rfl) fl_RX9_32 rfl dX9_let_23 rfl ?_
      refine sw_iload_n (pc' := 27) (i := 2) cx dX9_let_26 rfl 3 rfl rfl ?_
      refine sw_putN (pc' := 30) (ws' := (sx_W g m0 m1 m2 ka sa sn cI cJ cK cS (mt_mk (mu.1 0 0) a1 (mu.1 0 2) (mu.1 0 3) (mu.1 0 4) (mu.1 1) (mu.1 2) (mu.1 3) (mu.1 4) (mu.1 5) (mu.1 6) (mu.1 7) (mu.1 8) (mu.1 9) mu.2) tr ke kp tby tlen ttok tsta tbeh tnum ttak sh fi)) cx in_X4 tyX4 tyX4_ok nmX4 1 rfl rfl 7 (Nat.le_of_ble_eq_true rfl) fn_RX9_75 rfl rfl rfl (Nat.le_of_ble_eq_true rfl) dX9_let_27 rfl rfl ?_
      refine sw_iload_n (pc' := 31) (i := 3) cx dX9_let_30 rfl 0 rfl rfl ?_
      obtain rfl := Option.some.inj hf
      exact sw_iret cx hr hQ dX9_let_31
abbrev rm_X9_fine : Room := ({ frames := 2, cells := 0, slots := 0, locals := 44 } : Room)
set_option maxRecDepth 100000 in
set_option maxHeartbeats 4000000 in
theorem k_X9_fine (l : Launch) (D : sf_D) (g m0 m1 m2 ka sa sn : Nat → Nat) (cI cJ cK cS : ClassId) (mu : MtS) (tr : MtS) (ke : MtS) (kp : Int32) (tby : Nat → Int32) (tlen : Int32) (ttok : Int32) (tsta : Int32) (tbeh : Int32) (tnum : Int32) (ttak : Int32) (sh : Nat → ShS) (fi : Nat → Int32) (a0 : Int32) (a1 : Int32) (a2 : Int32) (res : Int32 × MtS × (Nat → Int32)) (hf : f_X9_fine mu fi a0 a1 a2 = some res) : sf_Ct l yX9_fine cX9_fine 4 (some .int) rm_X9_fine D (sf_ty cI cJ cK cS) [.ref (g 0), .int a0, .int a1, .int a2] (sx_W g m0 m1 m2 ka sa sn cI cJ cK cS mu tr ke kp tby tlen ttok tsta tbeh tnum ttak sh fi) (some (.int res.1)) (sx_W g m0 m1 m2 ka sa sn cI cJ cK cS res.2.1 tr ke kp tby tlen ttok tsta tbeh tnum ttak sh res.2.2) := by
  refine sf_met (lv := [(0, .ref (g 0)), (1, .int a0), (2, .int a1), (3, .int a2)]) (by decide) (Nat.le_of_ble_eq_true rfl) rfl ?_
  intro p e s m args below meth c A Q cx hr hQ
  have cx : sf_Cx p m meth c cX9_fine 4 s args RX9 D (sf_ty cI cJ cK cS) A := cx
  have B24 : ∀ (mu : MtS) (fi : Nat → Int32), f_X9_fine_b24 mu fi = some res → sf_W p l e rm_X9_fine s m args below meth c 0 0 Q 4 D A (sx_W g m0 m1 m2 ka sa sn cI cJ cK cS mu tr ke kp tby tlen ttok tsta tbeh tnum ttak sh fi) [(0, .ref (g 0))] 24 [] := by
    intro mu fi hf
    unfold f_X9_fine_b24 at hf
    refine sw_aload_n (pc' := 25) (i := 0) cx dX9_fine_24 rfl 0 rfl rfl ?_
    refine sw_iconst (pc' := 26) (v := 0) cx dX9_fine_25 iconst_0 rfl ?_
    obtain ⟨r11, hr11, hf⟩ := bd_s hf
    refine sw_callVw (pc' := 29) (As := [.int (0 : Int32)]) (rest := []) (w' := (sx_W g m0 m1 m2 ka sa sn cI cJ cK cS mu tr ke kp tby tlen ttok tsta tbeh tnum ttak sh r11.2)) cx (k_X9_found l D g m0 m1 m2 ka sa sn cI cJ cK cS mu tr ke kp tby tlen ttok tsta tbeh tnum ttak sh fi (0 : Int32) r11 hr11) pk_yX9_found ml_RX9_68 ⟨rfl, rfl⟩ ⟨(Nat.le_of_ble_eq_true rfl), (Nat.le_of_ble_eq_true rfl)⟩ ⟨(Nat.le_of_ble_eq_true rfl), (Nat.le_of_ble_eq_true rfl)⟩ 0 rfl rfl rfl rfl (Nat.le_of_ble_eq_true rfl) rfl dX9_fine_26 rfl ?_
    obtain rfl := Option.some.inj hf
    exact sw_iret cx hr hQ dX9_fine_29
  unfold f_X9_fine at hf
  refine sw_iload_n (pc' := 1) (i := 1) cx dX9_fine_0 rfl 1 rfl rfl ?_
  obtain ⟨r1, hr1, hf⟩ := bd_s hf
  refine sw_callS (pc' := 4) (As := [.int a0]) (rest := []) cx (k_X9_isKind l D cI cJ cK cS a0 r1 hr1) pk_yX9_isKind ml_RX9_82 ⟨rfl, rfl⟩ ⟨(Nat.le_of_ble_eq_true rfl), (Nat.le_of_ble_eq_true rfl)⟩ ⟨(Nat.le_of_ble_eq_true rfl), (Nat.le_of_ble_eq_true rfl)⟩ [] rfl rfl rfl (wn := (sx_W g m0 m1 m2 ka sa sn cI cJ cK cS mu tr ke kp tby tlen ttok tsta tbeh tnum ttak sh fi)) rfl rfl (Nat.le_of_ble_eq_true rfl) rfl dX9_fine_1 rfl ?_
  refine sw_if_eq (pc' := 7) (tgt := 24) cx dX9_fine_4 (by decide) rfl (fun c2 => ?_) (fun c2 => ?_)
  · replace hf := it_p c2 hf
    exact sw_lv [0] rfl (B24 mu fi hf)
  · replace hf := it_n c2 hf
    refine sw_iload_n (pc' := 8) (i := 2) cx dX9_fine_7 rfl 2 rfl rfl ?_
    refine sw_iconst (pc' := 9) (v := 1) cx dX9_fine_8 iconst_1 rfl ?_
    refine sw_bipush (pc' := 11) (v := 40) cx dX9_fine_9 bipush_40 rfl ?_
    obtain ⟨r3, hr3, hf⟩ := bd_s hf
    refine sw_callS (pc' := 14) (As := [.int a1, .int (1 : Int32), .int (40 : Int32)]) (rest := []) cx (k_X9_isWithin l D cI cJ cK cS a1 (1 : Int32) (40 : Int32) r3 hr3) pk_yX9_isWithin ml_RX9_64 ⟨rfl, rfl⟩ ⟨(Nat.le_of_ble_eq_true rfl), (Nat.le_of_ble_eq_true rfl)⟩ ⟨(Nat.le_of_ble_eq_true rfl), (Nat.le_of_ble_eq_true rfl)⟩ [] rfl rfl rfl (wn := (sx_W g m0 m1 m2 ka sa sn cI cJ cK cS mu tr ke kp tby tlen ttok tsta tbeh tnum ttak sh fi)) rfl rfl (Nat.le_of_ble_eq_true rfl) rfl dX9_fine_11 rfl ?_
    refine sw_if_eq (pc' := 17) (tgt := 24) cx dX9_fine_14 (by decide) rfl (fun c4 => ?_) (fun c4 => ?_)
    · replace hf := it_p c4 hf
      exact sw_lv [0] rfl (B24 mu fi hf)
    · replace hf := it_n c4 hf
      refine sw_iload_n (pc' := 18) (i := 3) cx dX9_fine_17 rfl 3 rfl rfl ?_
      obtain ⟨r5, hr5, hf⟩ := bd_s hf
      refine sw_callS (pc' := 21) (As := [.int a2]) (rest := []) cx (k_X9_isPlace l D cI cJ cK cS a2 r5 hr5) pk_yX9_isPlace ml_RX9_60 ⟨rfl, rfl⟩ ⟨(Nat.le_of_ble_eq_true rfl), (Nat.le_of_ble_eq_true rfl)⟩ ⟨(Nat.le_of_ble_eq_true rfl), (Nat.le_of_ble_eq_true rfl)⟩ [] rfl rfl rfl (wn := (sx_W g m0 m1 m2 ka sa sn cI cJ cK cS mu tr ke kp tby tlen ttok tsta tbeh tnum ttak sh fi)) rfl rfl (Nat.le_of_ble_eq_true rfl) rfl dX9_fine_18 rfl ?_
      refine sw_if_ne (pc' := 24) (tgt := 30) cx dX9_fine_21 (by decide) rfl (fun c6 => ?_) (fun c6 => ?_)
      · replace hf := it_n c6 hf
        refine sw_aload_n (pc' := 31) (i := 0) cx dX9_fine_30 rfl 0 rfl rfl ?_
        refine sw_get (pc' := 34) cx in_X9 0 rfl rfl 0 (Nat.le_of_ble_eq_true rfl) fl_RX9_32 rfl dX9_fine_31 rfl ?_
        obtain ⟨r7, hr7, hf⟩ := bd_s hf
        refine sw_callV (pc' := 37) (As := []) (rest := []) cx (k_X4_isFull l D m0 (g 5) ka cI cJ cK cS mu  r7 hr7) pk_yX4_isFull ml_RX9_85 ⟨rfl, rfl⟩ ⟨(Nat.le_of_ble_eq_true rfl), (Nat.le_of_ble_eq_true rfl)⟩ ⟨(Nat.le_of_ble_eq_true rfl), (Nat.le_of_ble_eq_true rfl)⟩ [1, 2, 3, 4, 5, 6, 7, 8, 9, 10, 31, 32, 33, 34, 35, 36, 37] sx_C_mu sx_n_mu (mt_fst _ _ _ _ _ _ _) (wn := (sx_W g m0 m1 m2 ka sa sn cI cJ cK cS mu tr ke kp tby tlen ttok tsta tbeh tnum ttak sh fi)) sx_w_mu 0 rfl rfl rfl rfl (Nat.le_of_ble_eq_true rfl) rfl dX9_fine_34 rfl ?_
        refine sw_if_eq (pc' := 40) (tgt := 46) cx dX9_fine_37 (by decide) rfl (fun c8 => ?_) (fun c8 => ?_)
        · replace hf := it_p c8 hf
          refine sw_aload_n (pc' := 47) (i := 0) cx dX9_fine_46 rfl 0 rfl rfl ?_
          refine sw_get (pc' := 50) cx in_X9 0 rfl rfl 0 (Nat.le_of_ble_eq_true rfl) fl_RX9_32 rfl dX9_fine_47 rfl ?_
          refine sw_iload_n (pc' := 51) (i := 1) cx dX9_fine_50 rfl 1 rfl rfl ?_
          refine sw_iload_n (pc' := 52) (i := 2) cx dX9_fine_51 rfl 2 rfl rfl ?_
          refine sw_iload_n (pc' := 53) (i := 3) cx dX9_fine_52 rfl 3 rfl rfl ?_
          refine sw_iconst (pc' := 54) (v := 3) cx dX9_fine_53 iconst_3 rfl ?_
          obtain ⟨r9, hr9, hf⟩ := bd_s hf
          refine sw_callV (pc' := 57) (As := [.int a0, .int a1, .int a2, .int (3 : Int32)]) (rest := []) cx (k_X4_addFine l D m0 (g 5) ka cI cJ cK cS mu a0 a1 a2 (3 : Int32) r9 hr9) pk_yX4_addFine ml_RX9_89 ⟨rfl, rfl⟩ ⟨(Nat.le_of_ble_eq_true rfl), (Nat.le_of_ble_eq_true rfl)⟩ ⟨(Nat.le_of_ble_eq_true rfl), (Nat.le_of_ble_eq_true rfl)⟩ [1, 2, 3, 4, 5, 6, 7, 8, 9, 10, 31, 32, 33, 34, 35, 36, 37] sx_C_mu sx_n_mu (mt_fst _ _ _ _ _ _ _) (wn := (sx_W g m0 m1 m2 ka sa sn cI cJ cK cS r9 tr ke kp tby tlen ttok tsta tbeh tnum ttak sh fi)) sx_w_mu 0 rfl rfl rfl rfl (Nat.le_of_ble_eq_true rfl) rfl dX9_fine_54 rfl ?_
          refine sw_aload_n (pc' := 58) (i := 0) cx dX9_fine_57 rfl 0 rfl rfl ?_
          refine sw_get (pc' := 61) cx in_X9 0 rfl rfl 0 (Nat.le_of_ble_eq_true rfl) fl_RX9_32 rfl dX9_fine_58 rfl ?_
          refine sw_getN (pc' := 64) cx in_X4 1 rfl rfl 10 (Nat.le_of_ble_eq_true rfl) fn_RX9_93 rfl dX9_fine_61 rfl ?_
          refine sw_iconst (pc' := 65) (v := 1) cx dX9_fine_64 iconst_1 rfl ?_
          refine sw_isub (pc' := 66) cx dX9_fine_65 rfl ?_
          obtain rfl := Option.some.inj hf
          exact sw_iret cx hr hQ dX9_fine_66
        · replace hf := it_n c8 hf
          refine sw_aload_n (pc' := 41) (i := 0) cx dX9_fine_40 rfl 0 rfl rfl ?_
          refine sw_iconst (pc' := 42) (v := 1) cx dX9_fine_41 iconst_1 rfl ?_
          obtain ⟨r10, hr10, hf⟩ := bd_s hf
          refine sw_callVw (pc' := 45) (As := [.int (1 : Int32)]) (rest := []) (w' := (sx_W g m0 m1 m2 ka sa sn cI cJ cK cS mu tr ke kp tby tlen ttok tsta tbeh tnum ttak sh r10.2)) cx (k_X9_found l D g m0 m1 m2 ka sa sn cI cJ cK cS mu tr ke kp tby tlen ttok tsta tbeh tnum ttak sh fi (1 : Int32) r10 hr10) pk_yX9_found ml_RX9_68 ⟨rfl, rfl⟩ ⟨(Nat.le_of_ble_eq_true rfl), (Nat.le_of_ble_eq_true rfl)⟩ ⟨(Nat.le_of_ble_eq_true rfl), (Nat.le_of_ble_eq_true rfl)⟩ 0 rfl rfl rfl rfl (Nat.le_of_ble_eq_true rfl) rfl dX9_fine_42 rfl ?_
          obtain rfl := Option.some.inj hf
          exact sw_iret cx hr hQ dX9_fine_45
      · replace hf := it_p c6 hf
        exact sw_lv [0] rfl (B24 mu fi hf)
abbrev rm_X9_of : Room := ({ frames := 4, cells := 0, slots := 0, locals := 87 } : Room)
set_option maxRecDepth 100000 in
set_option maxHeartbeats 4000000 in
theorem k_X9_of (l : Launch) (D : sf_D) (g m0 m1 m2 ka sa sn : Nat → Nat) (cI cJ cK cS : ClassId) (mu : MtS) (tr : MtS) (ke : MtS) (kp : Int32) (tby : Nat → Int32) (tlen : Int32) (ttok : Int32) (tsta : Int32) (tbeh : Int32) (tnum : Int32) (ttak : Int32) (sh : Nat → ShS) (fi : Nat → Int32) (a0 : Int32) (a1 : Int32) (res : Int32 × (Nat → Int32)) (hf : f_X9_of mu fi a0 a1 = some res) : sf_Ct l yX9_of cX9_of 3 (some .int) rm_X9_of D (sf_ty cI cJ cK cS) [.ref (g 0), .int a0, .int a1] (sx_W g m0 m1 m2 ka sa sn cI cJ cK cS mu tr ke kp tby tlen ttok tsta tbeh tnum ttak sh fi) (some (.int res.1)) (sx_W g m0 m1 m2 ka sa sn cI cJ cK cS mu tr ke kp tby tlen ttok tsta tbeh tnum ttak sh res.2) := by
  refine sf_met (lv := [(0, .ref (g 0)), (1, .int a0), (2, .int a1)]) (by decide) (Nat.le_of_ble_eq_true rfl) rfl ?_
  intro p e s m args below meth c A Q cx hr hQ
  have cx : sf_Cx p m meth c cX9_of 3 s args RX9 D (sf_ty cI cJ cK cS) A := cx
  unfold f_X9_of at hf
  refine sw_aload_n (pc' := 1) (i := 0) cx dX9_of_0 rfl 0 rfl rfl ?_
  refine sw_get (pc' := 4) cx in_X9 0 rfl rfl 0 (Nat.le_of_ble_eq_true rfl) fl_RX9_32 rfl dX9_of_1 rfl ?_
  refine sw_iload_n (pc' := 5) (i := 1) cx dX9_of_4 rfl 1 rfl rfl ?_
  obtain ⟨r1, hr1, hf⟩ := bd_s hf
  refine sw_callV (pc' := 8) (As := [.int a0]) (rest := []) cx (k_X4_hasFine l D m0 (g 5) ka cI cJ cK cS mu a0 r1 hr1) pk_yX4_hasFine ml_RX9_96 ⟨rfl, rfl⟩ ⟨(Nat.le_of_ble_eq_true rfl), (Nat.le_of_ble_eq_true rfl)⟩ ⟨(Nat.le_of_ble_eq_true rfl), (Nat.le_of_ble_eq_true rfl)⟩ [1, 2, 3, 4, 5, 6, 7, 8, 9, 10, 31, 32, 33, 34, 35, 36, 37] sx_C_mu sx_n_mu (mt_fst _ _ _ _ _ _ _) (wn := (sx_W g m0 m1 m2 ka sa sn cI cJ cK cS mu tr ke kp tby tlen ttok tsta tbeh tnum ttak sh fi)) sx_w_mu 0 rfl rfl rfl rfl (Nat.le_of_ble_eq_true rfl) rfl dX9_of_5 rfl ?_
  refine sw_if_ne (pc' := 11) (tgt := 17) cx dX9_of_8 (by decide) rfl (fun c2 => ?_) (fun c2 => ?_)
  · replace hf := it_n c2 hf
    refine sw_iload_n (pc' := 18) (i := 2) cx dX9_of_17 rfl 2 rfl rfl ?_
    by_cases c3 : a1 = (0 : Int32)
    · replace hf := it_p c3 hf
      refine sw_tableEq (tgt := 64) cx c3 dX9_of_18 (by decide +kernel) (by decide +kernel) rfl (by decide) ?_
      refine sw_aload_n (pc' := 65) (i := 0) cx dX9_of_64 rfl 0 rfl rfl ?_
      refine sw_get (pc' := 68) cx in_X9 0 rfl rfl 0 (Nat.le_of_ble_eq_true rfl) fl_RX9_32 rfl dX9_of_65 rfl ?_
      refine sw_getN (pc' := 71) cx in_X4 1 rfl rfl 11 (Nat.le_of_ble_eq_true rfl) fn_RX9_99 rfl dX9_of_68 rfl ?_
      refine sw_iload_n (pc' := 72) (i := 1) cx dX9_of_71 rfl 1 rfl rfl ?_
      obtain ⟨h4, hf⟩ := gx_s hf
      refine sw_iald (pc' := 73) cx 6 0 rfl rfl h4 dX9_of_72 rfl ?_
      obtain rfl := Option.some.inj hf
      exact sw_iret cx hr hQ dX9_of_73
    replace hf := it_n c3 hf
    by_cases c5 : a1 = (1 : Int32)
    · replace hf := it_p c5 hf
      refine sw_tableEq (tgt := 74) cx c5 dX9_of_18 (by decide +kernel) (by decide +kernel) rfl (by decide) ?_
      refine sw_aload_n (pc' := 75) (i := 0) cx dX9_of_74 rfl 0 rfl rfl ?_
      refine sw_get (pc' := 78) cx in_X9 0 rfl rfl 0 (Nat.le_of_ble_eq_true rfl) fl_RX9_32 rfl dX9_of_75 rfl ?_
      refine sw_getN (pc' := 81) cx in_X4 1 rfl rfl 12 (Nat.le_of_ble_eq_true rfl) fn_RX9_102 rfl dX9_of_78 rfl ?_
      refine sw_iload_n (pc' := 82) (i := 1) cx dX9_of_81 rfl 1 rfl rfl ?_
      obtain ⟨h6, hf⟩ := gx_s hf
      refine sw_iald (pc' := 83) cx 7 0 rfl rfl h6 dX9_of_82 rfl ?_
      obtain rfl := Option.some.inj hf
      exact sw_iret cx hr hQ dX9_of_83
    replace hf := it_n c5 hf
    by_cases c7 : a1 = (2 : Int32)
    · replace hf := it_p c7 hf
      refine sw_tableEq (tgt := 84) cx c7 dX9_of_18 (by decide +kernel) (by decide +kernel) rfl (by decide) ?_
      refine sw_aload_n (pc' := 85) (i := 0) cx dX9_of_84 rfl 0 rfl rfl ?_
      refine sw_get (pc' := 88) cx in_X9 0 rfl rfl 0 (Nat.le_of_ble_eq_true rfl) fl_RX9_32 rfl dX9_of_85 rfl ?_
      refine sw_getN (pc' := 91) cx in_X4 1 rfl rfl 13 (Nat.le_of_ble_eq_true rfl) fn_RX9_105 rfl dX9_of_88 rfl ?_
      refine sw_iload_n (pc' := 92) (i := 1) cx dX9_of_91 rfl 1 rfl rfl ?_
      obtain ⟨h8, hf⟩ := gx_s hf
      refine sw_iald (pc' := 93) cx 8 0 rfl rfl h8 dX9_of_92 rfl ?_
      obtain rfl := Option.some.inj hf
      exact sw_iret cx hr hQ dX9_of_93
    replace hf := it_n c7 hf
    by_cases c9 : a1 = (3 : Int32)
    · replace hf := it_p c9 hf
      refine sw_tableEq (tgt := 94) cx c9 dX9_of_18 (by decide +kernel) (by decide +kernel) rfl (by decide) ?_
      refine sw_aload_n (pc' := 95) (i := 0) cx dX9_of_94 rfl 0 rfl rfl ?_
      refine sw_get (pc' := 98) cx in_X9 0 rfl rfl 0 (Nat.le_of_ble_eq_true rfl) fl_RX9_32 rfl dX9_of_95 rfl ?_
      refine sw_getN (pc' := 101) cx in_X4 1 rfl rfl 14 (Nat.le_of_ble_eq_true rfl) fn_RX9_108 rfl dX9_of_98 rfl ?_
      refine sw_iload_n (pc' := 102) (i := 1) cx dX9_of_101 rfl 1 rfl rfl ?_
      obtain ⟨h10, hf⟩ := gx_s hf
      refine sw_iald (pc' := 103) cx 9 0 rfl rfl h10 dX9_of_102 rfl ?_
      obtain rfl := Option.some.inj hf
      exact sw_iret cx hr hQ dX9_of_103
    replace hf := it_n c9 hf
    by_cases c11 : a1 = (4 : Int32)
    · replace hf := it_p c11 hf
      refine sw_tableEq (tgt := 104) cx c11 dX9_of_18 (by decide +kernel) (by decide +kernel) rfl (by decide) ?_
      refine sw_aload_n (pc' := 105) (i := 0) cx dX9_of_104 rfl 0 rfl rfl ?_
      refine sw_get (pc' := 108) cx in_X9 0 rfl rfl 0 (Nat.le_of_ble_eq_true rfl) fl_RX9_32 rfl dX9_of_105 rfl ?_
      refine sw_getN (pc' := 111) cx in_X4 1 rfl rfl 15 (Nat.le_of_ble_eq_true rfl) fn_RX9_111 rfl dX9_of_108 rfl ?_
      refine sw_iload_n (pc' := 112) (i := 1) cx dX9_of_111 rfl 1 rfl rfl ?_
      obtain ⟨h12, hf⟩ := gx_s hf
      refine sw_iald (pc' := 113) cx 10 0 rfl rfl h12 dX9_of_112 rfl ?_
      obtain rfl := Option.some.inj hf
      exact sw_iret cx hr hQ dX9_of_113
    replace hf := it_n c11 hf
    by_cases c13 : a1 = (5 : Int32)
    · replace hf := it_p c13 hf
      refine sw_tableEq (tgt := 114) cx c13 dX9_of_18 (by decide +kernel) (by decide +kernel) rfl (by decide) ?_
      refine sw_aload_n (pc' := 115) (i := 0) cx dX9_of_114 rfl 0 rfl rfl ?_
      refine sw_get (pc' := 118) cx in_X9 0 rfl rfl 0 (Nat.le_of_ble_eq_true rfl) fl_RX9_32 rfl dX9_of_115 rfl ?_
      refine sw_iload_n (pc' := 119) (i := 1) cx dX9_of_118 rfl 1 rfl rfl ?_
      obtain ⟨r14, hr14, hf⟩ := bd_s hf
      refine sw_callV (pc' := 122) (As := [.int a0]) (rest := []) cx (k_X4_worksOf l D m0 (g 5) ka cI cJ cK cS mu a0 r14 hr14) pk_yX4_worksOf ml_RX9_114 ⟨rfl, rfl⟩ ⟨(Nat.le_of_ble_eq_true rfl), (Nat.le_of_ble_eq_true rfl)⟩ ⟨(Nat.le_of_ble_eq_true rfl), (Nat.le_of_ble_eq_true rfl)⟩ [1, 2, 3, 4, 5, 6, 7, 8, 9, 10, 31, 32, 33, 34, 35, 36, 37] sx_C_mu sx_n_mu (mt_fst _ _ _ _ _ _ _) (wn := (sx_W g m0 m1 m2 ka sa sn cI cJ cK cS mu tr ke kp tby tlen ttok tsta tbeh tnum ttak sh fi)) sx_w_mu 0 rfl rfl rfl rfl (Nat.le_of_ble_eq_true rfl) rfl dX9_of_119 rfl ?_
      obtain rfl := Option.some.inj hf
      exact sw_iret cx hr hQ dX9_of_122
    replace hf := it_n c13 hf
    by_cases c15 : a1 = (6 : Int32)
    · replace hf := it_p c15 hf
      refine sw_tableEq (tgt := 123) cx c15 dX9_of_18 (by decide +kernel) (by decide +kernel) rfl (by decide) ?_
      refine sw_aload_n (pc' := 124) (i := 0) cx dX9_of_123 rfl 0 rfl rfl ?_
      refine sw_get (pc' := 127) cx in_X9 0 rfl rfl 0 (Nat.le_of_ble_eq_true rfl) fl_RX9_32 rfl dX9_of_124 rfl ?_
      refine sw_iload_n (pc' := 128) (i := 1) cx dX9_of_127 rfl 1 rfl rfl ?_
      refine sw_aload_n (pc' := 129) (i := 0) cx dX9_of_128 rfl 0 rfl rfl ?_
      refine sw_get (pc' := 132) cx in_X9 0 rfl rfl 0 (Nat.le_of_ble_eq_true rfl) fl_RX9_32 rfl dX9_of_129 rfl ?_
      refine sw_getN (pc' := 135) cx in_X4 1 rfl rfl 13 (Nat.le_of_ble_eq_true rfl) fn_RX9_105 rfl dX9_of_132 rfl ?_
      refine sw_iload_n (pc' := 136) (i := 1) cx dX9_of_135 rfl 1 rfl rfl ?_
      obtain ⟨h16, hf⟩ := gx_s hf
      refine sw_iald (pc' := 137) cx 8 0 rfl rfl h16 dX9_of_136 rfl ?_
      obtain ⟨r17, hr17, hf⟩ := bd_s hf
      refine sw_callV (pc' := 140) (As := [.int a0, .int ((mu.1 7) (a0).toNatClampNeg)]) (rest := []) cx (k_X4_highOf l D m0 (g 5) ka cI cJ cK cS mu a0 ((mu.1 7) (a0).toNatClampNeg) r17 hr17) pk_yX4_highOf ml_RX9_117 ⟨rfl, rfl⟩ ⟨(Nat.le_of_ble_eq_true rfl), (Nat.le_of_ble_eq_true rfl)⟩ ⟨(Nat.le_of_ble_eq_true rfl), (Nat.le_of_ble_eq_true rfl)⟩ [1, 2, 3, 4, 5, 6, 7, 8, 9, 10, 31, 32, 33, 34, 35, 36, 37] sx_C_mu sx_n_mu (mt_fst _ _ _ _ _ _ _) (wn := (sx_W g m0 m1 m2 ka sa sn cI cJ cK cS mu tr ke kp tby tlen ttok tsta tbeh tnum ttak sh fi)) sx_w_mu 0 rfl rfl rfl rfl (Nat.le_of_ble_eq_true rfl) rfl dX9_of_137 rfl ?_
      obtain rfl := Option.some.inj hf
      exact sw_iret cx hr hQ dX9_of_140
    replace hf := it_n c15 hf
    by_cases c18 : a1 = (7 : Int32)
    · replace hf := it_p c18 hf
      refine sw_tableEq (tgt := 141) cx c18 dX9_of_18 (by decide +kernel) (by decide +kernel) rfl (by decide) ?_
      refine sw_aload_n (pc' := 142) (i := 0) cx dX9_of_141 rfl 0 rfl rfl ?_
      refine sw_get (pc' := 145) cx in_X9 0 rfl rfl 0 (Nat.le_of_ble_eq_true rfl) fl_RX9_32 rfl dX9_of_142 rfl ?_
      refine sw_iload_n (pc' := 146) (i := 1) cx dX9_of_145 rfl 1 rfl rfl ?_
      obtain ⟨r19, hr19, hf⟩ := bd_s hf
      refine sw_callV (pc' := 149) (As := [.int a0]) (rest := []) cx (k_X4_cutBy l D m0 (g 5) ka cI cJ cK cS mu a0 r19 hr19) pk_yX4_cutBy ml_RX9_121 ⟨rfl, rfl⟩ ⟨(Nat.le_of_ble_eq_true rfl), (Nat.le_of_ble_eq_true rfl)⟩ ⟨(Nat.le_of_ble_eq_true rfl), (Nat.le_of_ble_eq_true rfl)⟩ [1, 2, 3, 4, 5, 6, 7, 8, 9, 10, 31, 32, 33, 34, 35, 36, 37] sx_C_mu sx_n_mu (mt_fst _ _ _ _ _ _ _) (wn := (sx_W g m0 m1 m2 ka sa sn cI cJ cK cS mu tr ke kp tby tlen ttok tsta tbeh tnum ttak sh fi)) sx_w_mu 0 rfl rfl rfl rfl (Nat.le_of_ble_eq_true rfl) rfl dX9_of_146 rfl ?_
      obtain rfl := Option.some.inj hf
      exact sw_iret cx hr hQ dX9_of_149
    replace hf := it_n c18 hf
    refine sw_tableOut (tgt := 150) cx dX9_of_18 (by have := sf_ne (k := 0) c3 (by decide +kernel); have := sf_ne (k := 1) c5 (by decide +kernel); have := sf_ne (k := 2) c7 (by decide +kernel); have := sf_ne (k := 3) c9 (by decide +kernel); have := sf_ne (k := 4) c11 (by decide +kernel); have := sf_ne (k := 5) c13 (by decide +kernel); have := sf_ne (k := 6) c15 (by decide +kernel); have := sf_ne (k := 7) c18 (by decide +kernel); omega) (by decide) ?_
    refine sw_aload_n (pc' := 151) (i := 0) cx dX9_of_150 rfl 0 rfl rfl ?_
    refine sw_iconst (pc' := 152) (v := 0) cx dX9_of_151 iconst_0 rfl ?_
    obtain ⟨r20, hr20, hf⟩ := bd_s hf
    refine sw_callVw (pc' := 155) (As := [.int (0 : Int32)]) (rest := []) (w' := (sx_W g m0 m1 m2 ka sa sn cI cJ cK cS mu tr ke kp tby tlen ttok tsta tbeh tnum ttak sh r20.2)) cx (k_X9_found l D g m0 m1 m2 ka sa sn cI cJ cK cS mu tr ke kp tby tlen ttok tsta tbeh tnum ttak sh fi (0 : Int32) r20 hr20) pk_yX9_found ml_RX9_68 ⟨rfl, rfl⟩ ⟨(Nat.le_of_ble_eq_true rfl), (Nat.le_of_ble_eq_true rfl)⟩ ⟨(Nat.le_of_ble_eq_true rfl), (Nat.le_of_ble_eq_true rfl)⟩ 0 rfl rfl rfl rfl (Nat.le_of_ble_eq_true rfl) rfl dX9_of_152 rfl ?_
    obtain rfl := Option.some.inj hf
    exact sw_iret cx hr hQ dX9_of_155
  · replace hf := it_p c2 hf
    refine sw_aload_n (pc' := 12) (i := 0) cx dX9_of_11 rfl 0 rfl rfl ?_
    refine sw_iconst (pc' := 13) (v := 0) cx dX9_of_12 iconst_0 rfl ?_
    obtain ⟨r21, hr21, hf⟩ := bd_s hf
    refine sw_callVw (pc' := 16) (As := [.int (0 : Int32)]) (rest := []) (w' := (sx_W g m0 m1 m2 ka sa sn cI cJ cK cS mu tr ke kp tby tlen ttok tsta tbeh tnum ttak sh r21.2)) cx (k_X9_found l D g m0 m1 m2 ka sa sn cI cJ cK cS mu tr ke kp tby tlen ttok tsta tbeh tnum ttak sh fi (0 : Int32) r21 hr21) pk_yX9_found ml_RX9_68 ⟨rfl, rfl⟩ ⟨(Nat.le_of_ble_eq_true rfl), (Nat.le_of_ble_eq_true rfl)⟩ ⟨(Nat.le_of_ble_eq_true rfl), (Nat.le_of_ble_eq_true rfl)⟩ 0 rfl rfl rfl rfl (Nat.le_of_ble_eq_true rfl) rfl dX9_of_13 rfl ?_
    obtain rfl := Option.some.inj hf
    exact sw_iret cx hr hQ dX9_of_16
abbrev rm_X9_set : Room := ({ frames := 2, cells := 0, slots := 0, locals := 43 } : Room)
set_option maxRecDepth 100000 in
set_option maxHeartbeats 4000000 in
theorem k_X9_set (l : Launch) (D : sf_D) (g m0 m1 m2 ka sa sn : Nat → Nat) (cI cJ cK cS : ClassId) (mu : MtS) (tr : MtS) (ke : MtS) (kp : Int32) (tby : Nat → Int32) (tlen : Int32) (ttok : Int32) (tsta : Int32) (tbeh : Int32) (tnum : Int32) (ttak : Int32) (sh : Nat → ShS) (fi : Nat → Int32) (a0 : Int32) (a1 : Int32) (a2 : Int32) (res : Int32 × MtS × (Nat → Int32)) (hf : f_X9_set mu fi a0 a1 a2 = some res) : sf_Ct l yX9_set cX9_set 5 (some .int) rm_X9_set D (sf_ty cI cJ cK cS) [.ref (g 0), .int a0, .int a1, .int a2] (sx_W g m0 m1 m2 ka sa sn cI cJ cK cS mu tr ke kp tby tlen ttok tsta tbeh tnum ttak sh fi) (some (.int res.1)) (sx_W g m0 m1 m2 ka sa sn cI cJ cK cS res.2.1 tr ke kp tby tlen ttok tsta tbeh tnum ttak sh res.2.2) := by
  refine sf_met (lv := [(0, .ref (g 0)), (1, .int a0), (2, .int a1), (3, .int a2)]) (by decide) (Nat.le_of_ble_eq_true rfl) rfl ?_
  intro p e s m args below meth c A Q cx hr hQ
  have cx : sf_Cx p m meth c cX9_set 5 s args RX9 D (sf_ty cI cJ cK cS) A := cx
  have B130 : ∀ (mu : MtS) (fi : Nat → Int32), f_X9_set_b130 mu fi = some res → sf_W p l e rm_X9_set s m args below meth c 0 0 Q 5 D A (sx_W g m0 m1 m2 ka sa sn cI cJ cK cS mu tr ke kp tby tlen ttok tsta tbeh tnum ttak sh fi) [(0, .ref (g 0))] 130 [] := by
    intro mu fi hf
    unfold f_X9_set_b130 at hf
    refine sw_aload_n (pc' := 131) (i := 0) cx dX9_set_130 rfl 0 rfl rfl ?_
    refine sw_iconst (pc' := 132) (v := 0) cx dX9_set_131 iconst_0 rfl ?_
    obtain ⟨r19, hr19, hf⟩ := bd_s hf
    refine sw_callVw (pc' := 135) (As := [.int (0 : Int32)]) (rest := []) (w' := (sx_W g m0 m1 m2 ka sa sn cI cJ cK cS mu tr ke kp tby tlen ttok tsta tbeh tnum ttak sh r19.2)) cx (k_X9_found l D g m0 m1 m2 ka sa sn cI cJ cK cS mu tr ke kp tby tlen ttok tsta tbeh tnum ttak sh fi (0 : Int32) r19 hr19) pk_yX9_found ml_RX9_68 ⟨rfl, rfl⟩ ⟨(Nat.le_of_ble_eq_true rfl), (Nat.le_of_ble_eq_true rfl)⟩ ⟨(Nat.le_of_ble_eq_true rfl), (Nat.le_of_ble_eq_true rfl)⟩ 0 rfl rfl rfl rfl (Nat.le_of_ble_eq_true rfl) rfl dX9_set_132 rfl ?_
    obtain rfl := Option.some.inj hf
    exact sw_iret cx hr hQ dX9_set_135
  have B91 : ∀ (mu : MtS) (fi : Nat → Int32) (x1 : Int32) (x2 : Int32) (x3 : Int32), f_X9_set_b91 mu fi x1 x2 x3 = some res → sf_W p l e rm_X9_set s m args below meth c 0 0 Q 5 D A (sx_W g m0 m1 m2 ka sa sn cI cJ cK cS mu tr ke kp tby tlen ttok tsta tbeh tnum ttak sh fi) [(0, .ref (g 0)), (1, .int x1), (2, .int x2), (3, .int x3)] 91 [] := by
    intro mu fi x1 x2 x3 hf
    unfold f_X9_set_b91 at hf
    refine sw_iload_n (pc' := 92) (i := 2) cx dX9_set_91 rfl 2 rfl rfl ?_
    refine sw_iconst (pc' := 93) (v := 3) cx dX9_set_92 iconst_3 rfl ?_
    refine sw_icmp_ne (pc' := 96) (tgt := 130) cx dX9_set_93 (by decide) rfl (fun c14 => ?_) (fun c14 => ?_)
    · replace hf := it_n c14 hf
      exact sw_lv [0] rfl (B130 mu fi hf)
    · replace hf := it_p c14 hf
      refine sw_iload_n (pc' := 97) (i := 3) cx dX9_set_96 rfl 3 rfl rfl ?_
      refine sw_iconst (pc' := 98) (v := 1) cx dX9_set_97 iconst_1 rfl ?_
      refine sw_bipush (pc' := 100) (v := 9) cx dX9_set_98 bipush_9 rfl ?_
      obtain ⟨r15, hr15, hf⟩ := bd_s hf
      refine sw_callS (pc' := 103) (As := [.int x3, .int (1 : Int32), .int (9 : Int32)]) (rest := []) cx (k_X9_isWithin l D cI cJ cK cS x3 (1 : Int32) (9 : Int32) r15 hr15) pk_yX9_isWithin ml_RX9_64 ⟨rfl, rfl⟩ ⟨(Nat.le_of_ble_eq_true rfl), (Nat.le_of_ble_eq_true rfl)⟩ ⟨(Nat.le_of_ble_eq_true rfl), (Nat.le_of_ble_eq_true rfl)⟩ [] rfl rfl rfl (wn := (sx_W g m0 m1 m2 ka sa sn cI cJ cK cS mu tr ke kp tby tlen ttok tsta tbeh tnum ttak sh fi)) rfl rfl (Nat.le_of_ble_eq_true rfl) rfl dX9_set_100 rfl ?_
      refine sw_if_eq (pc' := 106) (tgt := 130) cx dX9_set_103 (by decide) rfl (fun c16 => ?_) (fun c16 => ?_)
      · replace hf := it_p c16 hf
        exact sw_lv [0] rfl (B130 mu fi hf)
      · replace hf := it_n c16 hf
        refine sw_aload_n (pc' := 107) (i := 0) cx dX9_set_106 rfl 0 rfl rfl ?_
        refine sw_get (pc' := 110) cx in_X9 0 rfl rfl 0 (Nat.le_of_ble_eq_true rfl) fl_RX9_32 rfl dX9_set_107 rfl ?_
        refine sw_getN (pc' := 113) cx in_X4 1 rfl rfl 14 (Nat.le_of_ble_eq_true rfl) fn_RX9_108 rfl dX9_set_110 rfl ?_
        refine sw_iload_n (pc' := 114) (i := 1) cx dX9_set_113 rfl 1 rfl rfl ?_
        obtain ⟨h17, hf⟩ := gx_s hf
        refine sw_iald (pc' := 115) cx 9 0 rfl rfl h17 dX9_set_114 rfl ?_
        refine sw_istore (pc' := 117) (i := 4) (lv' := [(4, .int ((mu.1 8) (x1).toNatClampNeg)), (0, .ref (g 0)), (1, .int x1), (2, .int x2), (3, .int x3)]) cx dX9_set_115 (Nat.le_of_ble_eq_true rfl) rfl rfl ?_
        refine sw_aload_n (pc' := 118) (i := 0) cx dX9_set_117 rfl 1 rfl rfl ?_
        refine sw_get (pc' := 121) cx in_X9 0 rfl rfl 0 (Nat.le_of_ble_eq_true rfl) fl_RX9_32 rfl dX9_set_118 rfl ?_
        refine sw_getN (pc' := 124) cx in_X4 1 rfl rfl 14 (Nat.le_of_ble_eq_true rfl) fn_RX9_108 rfl dX9_set_121 rfl ?_
        refine sw_iload_n (pc' := 125) (i := 1) cx dX9_set_124 rfl 2 rfl rfl ?_
        refine sw_iload_n (pc' := 126) (i := 3) cx dX9_set_125 rfl 4 rfl rfl ?_
        obtain ⟨h18, hf⟩ := gx_s hf
        refine sw_iast (pc' := 127) (ws' := (sx_W g m0 m1 m2 ka sa sn cI cJ cK cS (mt_mk (mu.1 0 0) (mu.1 0 1) (mu.1 0 2) (mu.1 0 3) (mu.1 0 4) (mu.1 1) (mu.1 2) (mu.1 3) (mu.1 4) (mu.1 5) (mu.1 6) (mu.1 7) (upd (mu.1 8) (x1).toNatClampNeg x3) (mu.1 9) mu.2) tr ke kp tby tlen ttok tsta tbeh tnum ttak sh fi)) cx 9 0 rfl rfl h18 dX9_set_126 rfl rfl ?_
        refine sw_iload (pc' := 129) (i := 4) cx dX9_set_127 0 rfl rfl ?_
        obtain rfl := Option.some.inj hf
        exact sw_iret cx hr hQ dX9_set_129
  have B56 : ∀ (mu : MtS) (fi : Nat → Int32) (x1 : Int32) (x2 : Int32) (x3 : Int32), f_X9_set_b56 mu fi x1 x2 x3 = some res → sf_W p l e rm_X9_set s m args below meth c 0 0 Q 5 D A (sx_W g m0 m1 m2 ka sa sn cI cJ cK cS mu tr ke kp tby tlen ttok tsta tbeh tnum ttak sh fi) [(0, .ref (g 0)), (1, .int x1), (2, .int x2), (3, .int x3)] 56 [] := by
    intro mu fi x1 x2 x3 hf
    unfold f_X9_set_b56 at hf
    refine sw_iload_n (pc' := 57) (i := 2) cx dX9_set_56 rfl 2 rfl rfl ?_
    refine sw_iconst (pc' := 58) (v := 2) cx dX9_set_57 iconst_2 rfl ?_
    refine sw_icmp_ne (pc' := 61) (tgt := 91) cx dX9_set_58 (by decide) rfl (fun c9 => ?_) (fun c9 => ?_)
    · replace hf := it_n c9 hf
      exact sw_lv [0, 1, 2, 3] rfl (B91 mu fi x1 x2 x3 hf)
    · replace hf := it_p c9 hf
      refine sw_iload_n (pc' := 62) (i := 3) cx dX9_set_61 rfl 3 rfl rfl ?_
      obtain ⟨r10, hr10, hf⟩ := bd_s hf
      refine sw_callS (pc' := 65) (As := [.int x3]) (rest := []) cx (k_X9_isPlace l D cI cJ cK cS x3 r10 hr10) pk_yX9_isPlace ml_RX9_60 ⟨rfl, rfl⟩ ⟨(Nat.le_of_ble_eq_true rfl), (Nat.le_of_ble_eq_true rfl)⟩ ⟨(Nat.le_of_ble_eq_true rfl), (Nat.le_of_ble_eq_true rfl)⟩ [] rfl rfl rfl (wn := (sx_W g m0 m1 m2 ka sa sn cI cJ cK cS mu tr ke kp tby tlen ttok tsta tbeh tnum ttak sh fi)) rfl rfl (Nat.le_of_ble_eq_true rfl) rfl dX9_set_62 rfl ?_
      refine sw_if_eq (pc' := 68) (tgt := 91) cx dX9_set_65 (by decide) rfl (fun c11 => ?_) (fun c11 => ?_)
      · replace hf := it_p c11 hf
        exact sw_lv [0, 1, 2, 3] rfl (B91 mu fi x1 x2 x3 hf)
      · replace hf := it_n c11 hf
        refine sw_aload_n (pc' := 69) (i := 0) cx dX9_set_68 rfl 0 rfl rfl ?_
        refine sw_get (pc' := 72) cx in_X9 0 rfl rfl 0 (Nat.le_of_ble_eq_true rfl) fl_RX9_32 rfl dX9_set_69 rfl ?_
        refine sw_getN (pc' := 75) cx in_X4 1 rfl rfl 13 (Nat.le_of_ble_eq_true rfl) fn_RX9_105 rfl dX9_set_72 rfl ?_
        refine sw_iload_n (pc' := 76) (i := 1) cx dX9_set_75 rfl 1 rfl rfl ?_
        obtain ⟨h12, hf⟩ := gx_s hf
        refine sw_iald (pc' := 77) cx 8 0 rfl rfl h12 dX9_set_76 rfl ?_
        refine sw_istore (pc' := 79) (i := 4) (lv' := [(4, .int ((mu.1 7) (x1).toNatClampNeg)), (0, .ref (g 0)), (1, .int x1), (2, .int x2), (3, .int x3)]) cx dX9_set_77 (Nat.le_of_ble_eq_true rfl) rfl rfl ?_
        refine sw_aload_n (pc' := 80) (i := 0) cx dX9_set_79 rfl 1 rfl rfl ?_
        refine sw_get (pc' := 83) cx in_X9 0 rfl rfl 0 (Nat.le_of_ble_eq_true rfl) fl_RX9_32 rfl dX9_set_80 rfl ?_
        refine sw_iload_n (pc' := 84) (i := 1) cx dX9_set_83 rfl 2 rfl rfl ?_
        refine sw_iload_n (pc' := 85) (i := 3) cx dX9_set_84 rfl 4 rfl rfl ?_
        obtain ⟨r13, hr13, hf⟩ := bd_s hf
        refine sw_callV (pc' := 88) (As := [.int x1, .int x3]) (rest := []) cx (k_X4_moveFine l D m0 (g 5) ka cI cJ cK cS mu x1 x3 r13 hr13) pk_yX4_moveFine ml_RX9_124 ⟨rfl, rfl⟩ ⟨(Nat.le_of_ble_eq_true rfl), (Nat.le_of_ble_eq_true rfl)⟩ ⟨(Nat.le_of_ble_eq_true rfl), (Nat.le_of_ble_eq_true rfl)⟩ [1, 2, 3, 4, 5, 6, 7, 8, 9, 10, 31, 32, 33, 34, 35, 36, 37] sx_C_mu sx_n_mu (mt_fst _ _ _ _ _ _ _) (wn := (sx_W g m0 m1 m2 ka sa sn cI cJ cK cS r13 tr ke kp tby tlen ttok tsta tbeh tnum ttak sh fi)) sx_w_mu 0 rfl rfl rfl rfl (Nat.le_of_ble_eq_true rfl) rfl dX9_set_85 rfl ?_
        refine sw_iload (pc' := 90) (i := 4) cx dX9_set_88 0 rfl rfl ?_
        obtain rfl := Option.some.inj hf
        exact sw_iret cx hr hQ dX9_set_90
  unfold f_X9_set at hf
  refine sw_aload_n (pc' := 1) (i := 0) cx dX9_set_0 rfl 0 rfl rfl ?_
  refine sw_get (pc' := 4) cx in_X9 0 rfl rfl 0 (Nat.le_of_ble_eq_true rfl) fl_RX9_32 rfl dX9_set_1 rfl ?_
  refine sw_iload_n (pc' := 5) (i := 1) cx dX9_set_4 rfl 1 rfl rfl ?_
  obtain ⟨r1, hr1, hf⟩ := bd_s hf
  refine sw_callV (pc' := 8) (As := [.int a0]) (rest := []) cx (k_X4_hasFine l D m0 (g 5) ka cI cJ cK cS mu a0 r1 hr1) pk_yX4_hasFine ml_RX9_96 ⟨rfl, rfl⟩ ⟨(Nat.le_of_ble_eq_true rfl), (Nat.le_of_ble_eq_true rfl)⟩ ⟨(Nat.le_of_ble_eq_true rfl), (Nat.le_of_ble_eq_true rfl)⟩ [1, 2, 3, 4, 5, 6, 7, 8, 9, 10, 31, 32, 33, 34, 35, 36, 37] sx_C_mu sx_n_mu (mt_fst _ _ _ _ _ _ _) (wn := (sx_W g m0 m1 m2 ka sa sn cI cJ cK cS mu tr ke kp tby tlen ttok tsta tbeh tnum ttak sh fi)) sx_w_mu 0 rfl rfl rfl rfl (Nat.le_of_ble_eq_true rfl) rfl dX9_set_5 rfl ?_
  refine sw_if_ne (pc' := 11) (tgt := 17) cx dX9_set_8 (by decide) rfl (fun c2 => ?_) (fun c2 => ?_)
  · replace hf := it_n c2 hf
    refine sw_iload_n (pc' := 18) (i := 2) cx dX9_set_17 rfl 2 rfl rfl ?_
    refine sw_iconst (pc' := 19) (v := 1) cx dX9_set_18 iconst_1 rfl ?_
    refine sw_icmp_ne (pc' := 22) (tgt := 56) cx dX9_set_19 (by decide) rfl (fun c3 => ?_) (fun c3 => ?_)
    · replace hf := it_n c3 hf
      exact sw_lv [0, 1, 2, 3] rfl (B56 mu fi a0 a1 a2 hf)
    · replace hf := it_p c3 hf
      refine sw_iload_n (pc' := 23) (i := 3) cx dX9_set_22 rfl 3 rfl rfl ?_
      refine sw_iconst (pc' := 24) (v := 0) cx dX9_set_23 iconst_0 rfl ?_
      refine sw_bipush (pc' := 26) (v := 40) cx dX9_set_24 bipush_40 rfl ?_
      obtain ⟨r4, hr4, hf⟩ := bd_s hf
      refine sw_callS (pc' := 29) (As := [.int a2, .int (0 : Int32), .int (40 : Int32)]) (rest := []) cx (k_X9_isWithin l D cI cJ cK cS a2 (0 : Int32) (40 : Int32) r4 hr4) pk_yX9_isWithin ml_RX9_64 ⟨rfl, rfl⟩ ⟨(Nat.le_of_ble_eq_true rfl), (Nat.le_of_ble_eq_true rfl)⟩ ⟨(Nat.le_of_ble_eq_true rfl), (Nat.le_of_ble_eq_true rfl)⟩ [] rfl rfl rfl (wn := (sx_W g m0 m1 m2 ka sa sn cI cJ cK cS mu tr ke kp tby tlen ttok tsta tbeh tnum ttak sh fi)) rfl rfl (Nat.le_of_ble_eq_true rfl) rfl dX9_set_26 rfl ?_
      refine sw_if_eq (pc' := 32) (tgt := 56) cx dX9_set_29 (by decide) rfl (fun c5 => ?_) (fun c5 => ?_)
      · replace hf := it_p c5 hf
        exact sw_lv [0, 1, 2, 3] rfl (B56 mu fi a0 a1 a2 hf)
      · replace hf := it_n c5 hf
        refine sw_aload_n (pc' := 33) (i := 0) cx dX9_set_32 rfl 0 rfl rfl ?_
        refine sw_get (pc' := 36) cx in_X9 0 rfl rfl 0 (Nat.le_of_ble_eq_true rfl) fl_RX9_32 rfl dX9_set_33 rfl ?_
        refine sw_getN (pc' := 39) cx in_X4 1 rfl rfl 12 (Nat.le_of_ble_eq_true rfl) fn_RX9_102 rfl dX9_set_36 rfl ?_
        refine sw_iload_n (pc' := 40) (i := 1) cx dX9_set_39 rfl 1 rfl rfl ?_
        obtain ⟨h6, hf⟩ := gx_s hf
        refine sw_iald (pc' := 41) cx 7 0 rfl rfl h6 dX9_set_40 rfl ?_
        refine sw_istore (pc' := 43) (i := 4) (lv' := [(4, .int ((mu.1 6) (a0).toNatClampNeg)), (0, .ref (g 0)), (1, .int a0), (2, .int a1), (3, .int a2)]) cx dX9_set_41 (Nat.le_of_ble_eq_true rfl) rfl rfl ?_
        refine sw_aload_n (pc' := 44) (i := 0) cx dX9_set_43 rfl 1 rfl rfl ?_
        refine sw_get (pc' := 47) cx in_X9 0 rfl rfl 0 (Nat.le_of_ble_eq_true rfl) fl_RX9_32 rfl dX9_set_44 rfl ?_
        refine sw_getN (pc' := 50) cx in_X4 1 rfl rfl 12 (Nat.le_of_ble_eq_true rfl) fn_RX9_102 rfl dX9_set_47 rfl ?_
        refine sw_iload_n (pc' := 51) (i := 1) cx dX9_set_50 rfl 2 rfl rfl ?_
        refine sw_iload_n (pc' := 52) (i := 3) cx dX9_set_51 rfl 4 rfl rfl ?_
        obtain ⟨h7, hf⟩ := gx_s hf
        refine sw_iast (pc' := 53) (ws' := (sx_W g m0 m1 m2 ka sa sn cI cJ cK cS (mt_mk (mu.1 0 0) (mu.1 0 1) (mu.1 0 2) (mu.1 0 3) (mu.1 0 4) (mu.1 1) (mu.1 2) (mu.1 3) (mu.1 4) (mu.1 5) (upd (mu.1 6) (a0).toNatClampNeg a2) (mu.1 7) (mu.1 8) (mu.1 9) mu.2) tr ke kp tby tlen ttok tsta tbeh tnum ttak sh fi)) cx 7 0 rfl rfl h7 dX9_set_52 rfl rfl ?_
        refine sw_iload (pc' := 55) (i := 4) cx dX9_set_53 0 rfl rfl ?_
        obtain rfl := Option.some.inj hf
        exact sw_iret cx hr hQ dX9_set_55
  · replace hf := it_p c2 hf
    refine sw_aload_n (pc' := 12) (i := 0) cx dX9_set_11 rfl 0 rfl rfl ?_
    refine sw_iconst (pc' := 13) (v := 0) cx dX9_set_12 iconst_0 rfl ?_
    obtain ⟨r8, hr8, hf⟩ := bd_s hf
    refine sw_callVw (pc' := 16) (As := [.int (0 : Int32)]) (rest := []) (w' := (sx_W g m0 m1 m2 ka sa sn cI cJ cK cS mu tr ke kp tby tlen ttok tsta tbeh tnum ttak sh r8.2)) cx (k_X9_found l D g m0 m1 m2 ka sa sn cI cJ cK cS mu tr ke kp tby tlen ttok tsta tbeh tnum ttak sh fi (0 : Int32) r8 hr8) pk_yX9_found ml_RX9_68 ⟨rfl, rfl⟩ ⟨(Nat.le_of_ble_eq_true rfl), (Nat.le_of_ble_eq_true rfl)⟩ ⟨(Nat.le_of_ble_eq_true rfl), (Nat.le_of_ble_eq_true rfl)⟩ 0 rfl rfl rfl rfl (Nat.le_of_ble_eq_true rfl) rfl dX9_set_13 rfl ?_
    obtain rfl := Option.some.inj hf
    exact sw_iret cx hr hQ dX9_set_16
abbrev rm_X9_turn : Room := ({ frames := 2, cells := 0, slots := 0, locals := 43 } : Room)
set_option maxRecDepth 100000 in
set_option maxHeartbeats 4000000 in
theorem k_X9_turn (l : Launch) (D : sf_D) (g m0 m1 m2 ka sa sn : Nat → Nat) (cI cJ cK cS : ClassId) (mu : MtS) (tr : MtS) (ke : MtS) (kp : Int32) (tby : Nat → Int32) (tlen : Int32) (ttok : Int32) (tsta : Int32) (tbeh : Int32) (tnum : Int32) (ttak : Int32) (sh : Nat → ShS) (fi : Nat → Int32) (a0 : Int32) (a1 : Int32) (res : Int32 × MtS × (Nat → Int32)) (hf : f_X9_turn mu fi a0 a1 = some res) : sf_Ct l yX9_turn cX9_turn 4 (some .int) rm_X9_turn D (sf_ty cI cJ cK cS) [.ref (g 0), .int a0, .int a1] (sx_W g m0 m1 m2 ka sa sn cI cJ cK cS mu tr ke kp tby tlen ttok tsta tbeh tnum ttak sh fi) (some (.int res.1)) (sx_W g m0 m1 m2 ka sa sn cI cJ cK cS res.2.1 tr ke kp tby tlen ttok tsta tbeh tnum ttak sh res.2.2) := by
  refine sf_met (lv := [(0, .ref (g 0)), (1, .int a0), (2, .int a1)]) (by decide) (Nat.le_of_ble_eq_true rfl) rfl ?_
  intro p e s m args below meth c A Q cx hr hQ
  have cx : sf_Cx p m meth c cX9_turn 4 s args RX9 D (sf_ty cI cJ cK cS) A := cx
  have B18 : ∀ (mu : MtS) (fi : Nat → Int32), f_X9_turn_b18 mu fi = some res → sf_W p l e rm_X9_turn s m args below meth c 0 0 Q 4 D A (sx_W g m0 m1 m2 ka sa sn cI cJ cK cS mu tr ke kp tby tlen ttok tsta tbeh tnum ttak sh fi) [(0, .ref (g 0))] 18 [] := by
    intro mu fi hf
    unfold f_X9_turn_b18 at hf
    refine sw_aload_n (pc' := 19) (i := 0) cx dX9_turn_18 rfl 0 rfl rfl ?_
    refine sw_iconst (pc' := 20) (v := 0) cx dX9_turn_19 iconst_0 rfl ?_
    obtain ⟨r7, hr7, hf⟩ := bd_s hf
    refine sw_callVw (pc' := 23) (As := [.int (0 : Int32)]) (rest := []) (w' := (sx_W g m0 m1 m2 ka sa sn cI cJ cK cS mu tr ke kp tby tlen ttok tsta tbeh tnum ttak sh r7.2)) cx (k_X9_found l D g m0 m1 m2 ka sa sn cI cJ cK cS mu tr ke kp tby tlen ttok tsta tbeh tnum ttak sh fi (0 : Int32) r7 hr7) pk_yX9_found ml_RX9_68 ⟨rfl, rfl⟩ ⟨(Nat.le_of_ble_eq_true rfl), (Nat.le_of_ble_eq_true rfl)⟩ ⟨(Nat.le_of_ble_eq_true rfl), (Nat.le_of_ble_eq_true rfl)⟩ 0 rfl rfl rfl rfl (Nat.le_of_ble_eq_true rfl) rfl dX9_turn_20 rfl ?_
    obtain rfl := Option.some.inj hf
    exact sw_iret cx hr hQ dX9_turn_23
  unfold f_X9_turn at hf
  refine sw_aload_n (pc' := 1) (i := 0) cx dX9_turn_0 rfl 0 rfl rfl ?_
  refine sw_get (pc' := 4) cx in_X9 0 rfl rfl 0 (Nat.le_of_ble_eq_true rfl) fl_RX9_32 rfl dX9_turn_1 rfl ?_
  refine sw_iload_n (pc' := 5) (i := 1) cx dX9_turn_4 rfl 1 rfl rfl ?_
  obtain ⟨r1, hr1, hf⟩ := bd_s hf
  refine sw_callV (pc' := 8) (As := [.int a0]) (rest := []) cx (k_X4_hasFine l D m0 (g 5) ka cI cJ cK cS mu a0 r1 hr1) pk_yX4_hasFine ml_RX9_96 ⟨rfl, rfl⟩ ⟨(Nat.le_of_ble_eq_true rfl), (Nat.le_of_ble_eq_true rfl)⟩ ⟨(Nat.le_of_ble_eq_true rfl), (Nat.le_of_ble_eq_true rfl)⟩ [1, 2, 3, 4, 5, 6, 7, 8, 9, 10, 31, 32, 33, 34, 35, 36, 37] sx_C_mu sx_n_mu (mt_fst _ _ _ _ _ _ _) (wn := (sx_W g m0 m1 m2 ka sa sn cI cJ cK cS mu tr ke kp tby tlen ttok tsta tbeh tnum ttak sh fi)) sx_w_mu 0 rfl rfl rfl rfl (Nat.le_of_ble_eq_true rfl) rfl dX9_turn_5 rfl ?_
  refine sw_if_eq (pc' := 11) (tgt := 18) cx dX9_turn_8 (by decide) rfl (fun c2 => ?_) (fun c2 => ?_)
  · replace hf := it_p c2 hf
    exact sw_lv [0] rfl (B18 mu fi hf)
  · replace hf := it_n c2 hf
    refine sw_iload_n (pc' := 12) (i := 2) cx dX9_turn_11 rfl 2 rfl rfl ?_
    obtain ⟨r3, hr3, hf⟩ := bd_s hf
    refine sw_callS (pc' := 15) (As := [.int a1]) (rest := []) cx (k_X9_isKind l D cI cJ cK cS a1 r3 hr3) pk_yX9_isKind ml_RX9_82 ⟨rfl, rfl⟩ ⟨(Nat.le_of_ble_eq_true rfl), (Nat.le_of_ble_eq_true rfl)⟩ ⟨(Nat.le_of_ble_eq_true rfl), (Nat.le_of_ble_eq_true rfl)⟩ [] rfl rfl rfl (wn := (sx_W g m0 m1 m2 ka sa sn cI cJ cK cS mu tr ke kp tby tlen ttok tsta tbeh tnum ttak sh fi)) rfl rfl (Nat.le_of_ble_eq_true rfl) rfl dX9_turn_12 rfl ?_
    refine sw_if_ne (pc' := 18) (tgt := 24) cx dX9_turn_15 (by decide) rfl (fun c4 => ?_) (fun c4 => ?_)
    · replace hf := it_n c4 hf
      refine sw_aload_n (pc' := 25) (i := 0) cx dX9_turn_24 rfl 0 rfl rfl ?_
      refine sw_get (pc' := 28) cx in_X9 0 rfl rfl 0 (Nat.le_of_ble_eq_true rfl) fl_RX9_32 rfl dX9_turn_25 rfl ?_
      refine sw_getN (pc' := 31) cx in_X4 1 rfl rfl 11 (Nat.le_of_ble_eq_true rfl) fn_RX9_99 rfl dX9_turn_28 rfl ?_
      refine sw_iload_n (pc' := 32) (i := 1) cx dX9_turn_31 rfl 1 rfl rfl ?_
      obtain ⟨h5, hf⟩ := gx_s hf
      refine sw_iald (pc' := 33) cx 6 0 rfl rfl h5 dX9_turn_32 rfl ?_
      refine sw_istore_n (pc' := 34) (i := 3) (lv' := [(3, .int ((mu.1 5) (a0).toNatClampNeg)), (0, .ref (g 0)), (1, .int a0), (2, .int a1)]) cx dX9_turn_33 rfl (Nat.le_of_ble_eq_true rfl) rfl rfl ?_
      refine sw_aload_n (pc' := 35) (i := 0) cx dX9_turn_34 rfl 1 rfl rfl ?_
      refine sw_get (pc' := 38) cx in_X9 0 rfl rfl 0 (Nat.le_of_ble_eq_true rfl) fl_RX9_32 rfl dX9_turn_35 rfl ?_
      refine sw_getN (pc' := 41) cx in_X4 1 rfl rfl 11 (Nat.le_of_ble_eq_true rfl) fn_RX9_99 rfl dX9_turn_38 rfl ?_
      refine sw_iload_n (pc' := 42) (i := 1) cx dX9_turn_41 rfl 2 rfl rfl ?_
      refine sw_iload_n (pc' := 43) (i := 2) cx dX9_turn_42 rfl 3 rfl rfl ?_
      obtain ⟨h6, hf⟩ := gx_s hf
      refine sw_iast (pc' := 44) (ws' := (sx_W g m0 m1 m2 ka sa sn cI cJ cK cS (mt_mk (mu.1 0 0) (mu.1 0 1) (mu.1 0 2) (mu.1 0 3) (mu.1 0 4) (mu.1 1) (mu.1 2) (mu.1 3) (mu.1 4) (upd (mu.1 5) (a0).toNatClampNeg a1) (mu.1 6) (mu.1 7) (mu.1 8) (mu.1 9) mu.2) tr ke kp tby tlen ttok tsta tbeh tnum ttak sh fi)) cx 6 0 rfl rfl h6 dX9_turn_43 rfl rfl ?_
      refine sw_iload_n (pc' := 45) (i := 3) cx dX9_turn_44 rfl 0 rfl rfl ?_
      obtain rfl := Option.some.inj hf
      exact sw_iret cx hr hQ dX9_turn_45
    · replace hf := it_p c4 hf
      exact sw_lv [0] rfl (B18 mu fi hf)
abbrev rm_X9_as : Room := ({ frames := 2, cells := 0, slots := 0, locals := 43 } : Room)
set_option maxRecDepth 100000 in
set_option maxHeartbeats 4000000 in
theorem k_X9_as (l : Launch) (D : sf_D) (g m0 m1 m2 ka sa sn : Nat → Nat) (cI cJ cK cS : ClassId) (mu : MtS) (tr : MtS) (ke : MtS) (kp : Int32) (tby : Nat → Int32) (tlen : Int32) (ttok : Int32) (tsta : Int32) (tbeh : Int32) (tnum : Int32) (ttak : Int32) (sh : Nat → ShS) (fi : Nat → Int32) (a0 : Int32) (a1 : Int32) (res : Int32 × (Nat → Int32)) (hf : f_X9_as mu fi a0 a1 = some res) : sf_Ct l yX9_as cX9_as 3 (some .int) rm_X9_as D (sf_ty cI cJ cK cS) [.ref (g 0), .int a0, .int a1] (sx_W g m0 m1 m2 ka sa sn cI cJ cK cS mu tr ke kp tby tlen ttok tsta tbeh tnum ttak sh fi) (some (.int res.1)) (sx_W g m0 m1 m2 ka sa sn cI cJ cK cS mu tr ke kp tby tlen ttok tsta tbeh tnum ttak sh res.2) := by
  refine sf_met (lv := [(0, .ref (g 0)), (1, .int a0), (2, .int a1)]) (by decide) (Nat.le_of_ble_eq_true rfl) rfl ?_
  intro p e s m args below meth c A Q cx hr hQ
  have cx : sf_Cx p m meth c cX9_as 3 s args RX9 D (sf_ty cI cJ cK cS) A := cx
  have B18 : ∀ (fi : Nat → Int32), f_X9_as_b18 mu fi = some res → sf_W p l e rm_X9_as s m args below meth c 0 0 Q 3 D A (sx_W g m0 m1 m2 ka sa sn cI cJ cK cS mu tr ke kp tby tlen ttok tsta tbeh tnum ttak sh fi) [(0, .ref (g 0))] 18 [] := by
    intro fi hf
    unfold f_X9_as_b18 at hf
    refine sw_aload_n (pc' := 19) (i := 0) cx dX9_as_18 rfl 0 rfl rfl ?_
    refine sw_iconst (pc' := 20) (v := 0) cx dX9_as_19 iconst_0 rfl ?_
    obtain ⟨r11, hr11, hf⟩ := bd_s hf
    refine sw_callVw (pc' := 23) (As := [.int (0 : Int32)]) (rest := []) (w' := (sx_W g m0 m1 m2 ka sa sn cI cJ cK cS mu tr ke kp tby tlen ttok tsta tbeh tnum ttak sh r11.2)) cx (k_X9_found l D g m0 m1 m2 ka sa sn cI cJ cK cS mu tr ke kp tby tlen ttok tsta tbeh tnum ttak sh fi (0 : Int32) r11 hr11) pk_yX9_found ml_RX9_68 ⟨rfl, rfl⟩ ⟨(Nat.le_of_ble_eq_true rfl), (Nat.le_of_ble_eq_true rfl)⟩ ⟨(Nat.le_of_ble_eq_true rfl), (Nat.le_of_ble_eq_true rfl)⟩ 0 rfl rfl rfl rfl (Nat.le_of_ble_eq_true rfl) rfl dX9_as_20 rfl ?_
    obtain rfl := Option.some.inj hf
    exact sw_iret cx hr hQ dX9_as_23
  unfold f_X9_as at hf
  refine sw_aload_n (pc' := 1) (i := 0) cx dX9_as_0 rfl 0 rfl rfl ?_
  refine sw_get (pc' := 4) cx in_X9 0 rfl rfl 0 (Nat.le_of_ble_eq_true rfl) fl_RX9_32 rfl dX9_as_1 rfl ?_
  refine sw_iload_n (pc' := 5) (i := 1) cx dX9_as_4 rfl 1 rfl rfl ?_
  obtain ⟨r1, hr1, hf⟩ := bd_s hf
  refine sw_callV (pc' := 8) (As := [.int a0]) (rest := []) cx (k_X4_hasFine l D m0 (g 5) ka cI cJ cK cS mu a0 r1 hr1) pk_yX4_hasFine ml_RX9_96 ⟨rfl, rfl⟩ ⟨(Nat.le_of_ble_eq_true rfl), (Nat.le_of_ble_eq_true rfl)⟩ ⟨(Nat.le_of_ble_eq_true rfl), (Nat.le_of_ble_eq_true rfl)⟩ [1, 2, 3, 4, 5, 6, 7, 8, 9, 10, 31, 32, 33, 34, 35, 36, 37] sx_C_mu sx_n_mu (mt_fst _ _ _ _ _ _ _) (wn := (sx_W g m0 m1 m2 ka sa sn cI cJ cK cS mu tr ke kp tby tlen ttok tsta tbeh tnum ttak sh fi)) sx_w_mu 0 rfl rfl rfl rfl (Nat.le_of_ble_eq_true rfl) rfl dX9_as_5 rfl ?_
  refine sw_if_eq (pc' := 11) (tgt := 18) cx dX9_as_8 (by decide) rfl (fun c2 => ?_) (fun c2 => ?_)
  · replace hf := it_p c2 hf
    exact sw_lv [0] rfl (B18 fi hf)
  · replace hf := it_n c2 hf
    refine sw_iload_n (pc' := 12) (i := 2) cx dX9_as_11 rfl 2 rfl rfl ?_
    obtain ⟨r3, hr3, hf⟩ := bd_s hf
    refine sw_callS (pc' := 15) (As := [.int a1]) (rest := []) cx (k_X9_isKind l D cI cJ cK cS a1 r3 hr3) pk_yX9_isKind ml_RX9_82 ⟨rfl, rfl⟩ ⟨(Nat.le_of_ble_eq_true rfl), (Nat.le_of_ble_eq_true rfl)⟩ ⟨(Nat.le_of_ble_eq_true rfl), (Nat.le_of_ble_eq_true rfl)⟩ [] rfl rfl rfl (wn := (sx_W g m0 m1 m2 ka sa sn cI cJ cK cS mu tr ke kp tby tlen ttok tsta tbeh tnum ttak sh fi)) rfl rfl (Nat.le_of_ble_eq_true rfl) rfl dX9_as_12 rfl ?_
    refine sw_if_ne (pc' := 18) (tgt := 24) cx dX9_as_15 (by decide) rfl (fun c4 => ?_) (fun c4 => ?_)
    · replace hf := it_n c4 hf
      refine sw_aload_n (pc' := 25) (i := 0) cx dX9_as_24 rfl 0 rfl rfl ?_
      refine sw_get (pc' := 28) cx in_X9 0 rfl rfl 0 (Nat.le_of_ble_eq_true rfl) fl_RX9_32 rfl dX9_as_25 rfl ?_
      refine sw_iload_n (pc' := 29) (i := 1) cx dX9_as_28 rfl 1 rfl rfl ?_
      obtain ⟨r5, hr5, hf⟩ := bd_s hf
      refine sw_callV (pc' := 32) (As := [.int a0]) (rest := []) cx (k_X4_kindOf l D m0 (g 5) ka cI cJ cK cS mu a0 r5 hr5) pk_yX4_kindOf ml_RX9_128 ⟨rfl, rfl⟩ ⟨(Nat.le_of_ble_eq_true rfl), (Nat.le_of_ble_eq_true rfl)⟩ ⟨(Nat.le_of_ble_eq_true rfl), (Nat.le_of_ble_eq_true rfl)⟩ [1, 2, 3, 4, 5, 6, 7, 8, 9, 10, 31, 32, 33, 34, 35, 36, 37] sx_C_mu sx_n_mu (mt_fst _ _ _ _ _ _ _) (wn := (sx_W g m0 m1 m2 ka sa sn cI cJ cK cS mu tr ke kp tby tlen ttok tsta tbeh tnum ttak sh fi)) sx_w_mu 0 rfl rfl rfl rfl (Nat.le_of_ble_eq_true rfl) rfl dX9_as_29 rfl ?_
      refine sw_iload_n (pc' := 33) (i := 2) cx dX9_as_32 rfl 2 rfl rfl ?_
      obtain ⟨h6, hf⟩ := gk_s hf
      obtain ⟨r7, hr7, hf⟩ := bd_s hf
      refine sw_kisOf (pc' := 36) (rest := []) cx 32 (sx_kat _ _ _ _ _ _ _ _ _ _ _ _ _ _ _ _ _ _ _ _ _ _ _ _) r5 h6 hr7 (Nat.le_of_ble_eq_true rfl) (Nat.le_of_ble_eq_true rfl) ⟨(Nat.le_of_ble_eq_true rfl), (Nat.le_of_ble_eq_true rfl)⟩ (Nat.le_of_ble_eq_true rfl) dX9_as_33 rfl ?_
      refine sw_if_ne (pc' := 39) (tgt := 45) cx dX9_as_36 (by decide) rfl (fun c8 => ?_) (fun c8 => ?_)
      · replace hf := it_n c8 hf
        refine sw_aload_n (pc' := 46) (i := 0) cx dX9_as_45 rfl 0 rfl rfl ?_
        refine sw_get (pc' := 49) cx in_X9 0 rfl rfl 0 (Nat.le_of_ble_eq_true rfl) fl_RX9_32 rfl dX9_as_46 rfl ?_
        refine sw_getN (pc' := 52) cx in_X4 1 rfl rfl 12 (Nat.le_of_ble_eq_true rfl) fn_RX9_102 rfl dX9_as_49 rfl ?_
        refine sw_iload_n (pc' := 53) (i := 1) cx dX9_as_52 rfl 1 rfl rfl ?_
        obtain ⟨h9, hf⟩ := gx_s hf
        refine sw_iald (pc' := 54) cx 7 0 rfl rfl h9 dX9_as_53 rfl ?_
        obtain rfl := Option.some.inj hf
        exact sw_iret cx hr hQ dX9_as_54
      · replace hf := it_p c8 hf
        refine sw_aload_n (pc' := 40) (i := 0) cx dX9_as_39 rfl 0 rfl rfl ?_
        refine sw_iconst (pc' := 41) (v := 2) cx dX9_as_40 iconst_2 rfl ?_
        obtain ⟨r10, hr10, hf⟩ := bd_s hf
        refine sw_callVw (pc' := 44) (As := [.int (2 : Int32)]) (rest := []) (w' := (sx_W g m0 m1 m2 ka sa sn cI cJ cK cS mu tr ke kp tby tlen ttok tsta tbeh tnum ttak sh r10.2)) cx (k_X9_found l D g m0 m1 m2 ka sa sn cI cJ cK cS mu tr ke kp tby tlen ttok tsta tbeh tnum ttak sh fi (2 : Int32) r10 hr10) pk_yX9_found ml_RX9_68 ⟨rfl, rfl⟩ ⟨(Nat.le_of_ble_eq_true rfl), (Nat.le_of_ble_eq_true rfl)⟩ ⟨(Nat.le_of_ble_eq_true rfl), (Nat.le_of_ble_eq_true rfl)⟩ 0 rfl rfl rfl rfl (Nat.le_of_ble_eq_true rfl) rfl dX9_as_41 rfl ?_
        obtain rfl := Option.some.inj hf
        exact sw_iret cx hr hQ dX9_as_44
    · replace hf := it_p c4 hf
      exact sw_lv [0] rfl (B18 fi hf)
abbrev rm_X9_placeOf : Room := ({ frames := 2, cells := 0, slots := 0, locals := 43 } : Room)
set_option maxRecDepth 100000 in
set_option maxHeartbeats 4000000 in
theorem k_X9_placeOf (l : Launch) (D : sf_D) (g m0 m1 m2 ka sa sn : Nat → Nat) (cI cJ cK cS : ClassId) (mu : MtS) (tr : MtS) (ke : MtS) (kp : Int32) (tby : Nat → Int32) (tlen : Int32) (ttok : Int32) (tsta : Int32) (tbeh : Int32) (tnum : Int32) (ttak : Int32) (sh : Nat → ShS) (fi : Nat → Int32) (a0 : Int32) (a1 : Int32) (res : Int32 × (Nat → Int32)) (hf : f_X9_placeOf mu fi a0 a1 = some res) : sf_Ct l yX9_placeOf cX9_placeOf 3 (some .int) rm_X9_placeOf D (sf_ty cI cJ cK cS) [.ref (g 0), .int a0, .int a1] (sx_W g m0 m1 m2 ka sa sn cI cJ cK cS mu tr ke kp tby tlen ttok tsta tbeh tnum ttak sh fi) (some (.int res.1)) (sx_W g m0 m1 m2 ka sa sn cI cJ cK cS mu tr ke kp tby tlen ttok tsta tbeh tnum ttak sh res.2) := by
  refine sf_met (lv := [(0, .ref (g 0)), (1, .int a0), (2, .int a1)]) (by decide) (Nat.le_of_ble_eq_true rfl) rfl ?_
  intro p e s m args below meth c A Q cx hr hQ
  have cx : sf_Cx p m meth c cX9_placeOf 3 s args RX9 D (sf_ty cI cJ cK cS) A := cx
  have B16 : ∀ (fi : Nat → Int32), f_X9_placeOf_b16 mu fi = some res → sf_W p l e rm_X9_placeOf s m args below meth c 0 0 Q 3 D A (sx_W g m0 m1 m2 ka sa sn cI cJ cK cS mu tr ke kp tby tlen ttok tsta tbeh tnum ttak sh fi) [(0, .ref (g 0))] 16 [] := by
    intro fi hf
    unfold f_X9_placeOf_b16 at hf
    refine sw_aload_n (pc' := 17) (i := 0) cx dX9_placeOf_16 rfl 0 rfl rfl ?_
    refine sw_iconst (pc' := 18) (v := 0) cx dX9_placeOf_17 iconst_0 rfl ?_
    obtain ⟨r18, hr18, hf⟩ := bd_s hf
    refine sw_callVw (pc' := 21) (As := [.int (0 : Int32)]) (rest := []) (w' := (sx_W g m0 m1 m2 ka sa sn cI cJ cK cS mu tr ke kp tby tlen ttok tsta tbeh tnum ttak sh r18.2)) cx (k_X9_found l D g m0 m1 m2 ka sa sn cI cJ cK cS mu tr ke kp tby tlen ttok tsta tbeh tnum ttak sh fi (0 : Int32) r18 hr18) pk_yX9_found ml_RX9_68 ⟨rfl, rfl⟩ ⟨(Nat.le_of_ble_eq_true rfl), (Nat.le_of_ble_eq_true rfl)⟩ ⟨(Nat.le_of_ble_eq_true rfl), (Nat.le_of_ble_eq_true rfl)⟩ 0 rfl rfl rfl rfl (Nat.le_of_ble_eq_true rfl) rfl dX9_placeOf_18 rfl ?_
    obtain rfl := Option.some.inj hf
    exact sw_iret cx hr hQ dX9_placeOf_21
  unfold f_X9_placeOf at hf
  refine sw_iload_n (pc' := 1) (i := 1) cx dX9_placeOf_0 rfl 1 rfl rfl ?_
  obtain ⟨r1, hr1, hf⟩ := bd_s hf
  refine sw_callS (pc' := 4) (As := [.int a0]) (rest := []) cx (k_X9_isPlace l D cI cJ cK cS a0 r1 hr1) pk_yX9_isPlace ml_RX9_60 ⟨rfl, rfl⟩ ⟨(Nat.le_of_ble_eq_true rfl), (Nat.le_of_ble_eq_true rfl)⟩ ⟨(Nat.le_of_ble_eq_true rfl), (Nat.le_of_ble_eq_true rfl)⟩ [] rfl rfl rfl (wn := (sx_W g m0 m1 m2 ka sa sn cI cJ cK cS mu tr ke kp tby tlen ttok tsta tbeh tnum ttak sh fi)) rfl rfl (Nat.le_of_ble_eq_true rfl) rfl dX9_placeOf_1 rfl ?_
  refine sw_if_eq (pc' := 7) (tgt := 16) cx dX9_placeOf_4 (by decide) rfl (fun c2 => ?_) (fun c2 => ?_)
  · replace hf := it_p c2 hf
    exact sw_lv [0] rfl (B16 fi hf)
  · replace hf := it_n c2 hf
    refine sw_iload_n (pc' := 8) (i := 2) cx dX9_placeOf_7 rfl 2 rfl rfl ?_
    refine sw_iconst (pc' := 9) (v := 0) cx dX9_placeOf_8 iconst_0 rfl ?_
    refine sw_iconst (pc' := 10) (v := 4) cx dX9_placeOf_9 iconst_4 rfl ?_
    obtain ⟨r3, hr3, hf⟩ := bd_s hf
    refine sw_callS (pc' := 13) (As := [.int a1, .int (0 : Int32), .int (4 : Int32)]) (rest := []) cx (k_X9_isWithin l D cI cJ cK cS a1 (0 : Int32) (4 : Int32) r3 hr3) pk_yX9_isWithin ml_RX9_64 ⟨rfl, rfl⟩ ⟨(Nat.le_of_ble_eq_true rfl), (Nat.le_of_ble_eq_true rfl)⟩ ⟨(Nat.le_of_ble_eq_true rfl), (Nat.le_of_ble_eq_true rfl)⟩ [] rfl rfl rfl (wn := (sx_W g m0 m1 m2 ka sa sn cI cJ cK cS mu tr ke kp tby tlen ttok tsta tbeh tnum ttak sh fi)) rfl rfl (Nat.le_of_ble_eq_true rfl) rfl dX9_placeOf_10 rfl ?_
    refine sw_if_ne (pc' := 16) (tgt := 22) cx dX9_placeOf_13 (by decide) rfl (fun c4 => ?_) (fun c4 => ?_)
    · replace hf := it_n c4 hf
      refine sw_iload_n (pc' := 23) (i := 2) cx dX9_placeOf_22 rfl 2 rfl rfl ?_
      refine sw_if_ne (pc' := 26) (tgt := 36) cx dX9_placeOf_23 (by decide) rfl (fun c5 => ?_) (fun c5 => ?_)
      · replace hf := it_n c5 hf
        refine sw_iload_n (pc' := 37) (i := 2) cx dX9_placeOf_36 rfl 2 rfl rfl ?_
        refine sw_iconst (pc' := 38) (v := 1) cx dX9_placeOf_37 iconst_1 rfl ?_
        refine sw_icmp_ne (pc' := 41) (tgt := 58) cx dX9_placeOf_38 (by decide) rfl (fun c6 => ?_) (fun c6 => ?_)
        · replace hf := it_n c6 hf
          refine sw_aload_n (pc' := 59) (i := 0) cx dX9_placeOf_58 rfl 0 rfl rfl ?_
          refine sw_get (pc' := 62) cx in_X9 0 rfl rfl 0 (Nat.le_of_ble_eq_true rfl) fl_RX9_32 rfl dX9_placeOf_59 rfl ?_
          refine sw_iload_n (pc' := 63) (i := 1) cx dX9_placeOf_62 rfl 1 rfl rfl ?_
          obtain ⟨r7, hr7, hf⟩ := bd_s hf
          refine sw_callV (pc' := 66) (As := [.int a0]) (rest := []) cx (k_X4_isWhole l D m0 (g 5) ka cI cJ cK cS mu a0 r7 hr7) pk_yX4_isWhole ml_RX9_136 ⟨rfl, rfl⟩ ⟨(Nat.le_of_ble_eq_true rfl), (Nat.le_of_ble_eq_true rfl)⟩ ⟨(Nat.le_of_ble_eq_true rfl), (Nat.le_of_ble_eq_true rfl)⟩ [1, 2, 3, 4, 5, 6, 7, 8, 9, 10, 31, 32, 33, 34, 35, 36, 37] sx_C_mu sx_n_mu (mt_fst _ _ _ _ _ _ _) (wn := (sx_W g m0 m1 m2 ka sa sn cI cJ cK cS mu tr ke kp tby tlen ttok tsta tbeh tnum ttak sh fi)) sx_w_mu 0 rfl rfl rfl rfl (Nat.le_of_ble_eq_true rfl) rfl dX9_placeOf_63 rfl ?_
          refine sw_if_ne (pc' := 69) (tgt := 75) cx dX9_placeOf_66 (by decide) rfl (fun c8 => ?_) (fun c8 => ?_)
          · replace hf := it_n c8 hf
            refine sw_iload_n (pc' := 76) (i := 2) cx dX9_placeOf_75 rfl 2 rfl rfl ?_
            refine sw_iconst (pc' := 77) (v := 2) cx dX9_placeOf_76 iconst_2 rfl ?_
            refine sw_icmp_ne (pc' := 80) (tgt := 90) cx dX9_placeOf_77 (by decide) rfl (fun c9 => ?_) (fun c9 => ?_)
            · replace hf := it_n c9 hf
              refine sw_iload_n (pc' := 91) (i := 2) cx dX9_placeOf_90 rfl 2 rfl rfl ?_
              refine sw_iconst (pc' := 92) (v := 3) cx dX9_placeOf_91 iconst_3 rfl ?_
              refine sw_icmp_ne (pc' := 95) (tgt := 107) cx dX9_placeOf_92 (by decide) rfl (fun c10 => ?_) (fun c10 => ?_)
              · replace hf := it_n c10 hf
                refine sw_aload_n (pc' := 108) (i := 0) cx dX9_placeOf_107 rfl 0 rfl rfl ?_
                refine sw_get (pc' := 111) cx in_X9 0 rfl rfl 0 (Nat.le_of_ble_eq_true rfl) fl_RX9_32 rfl dX9_placeOf_108 rfl ?_
                refine sw_getN (pc' := 114) cx in_X4 1 rfl rfl 4 (Nat.le_of_ble_eq_true rfl) fn_RX9_145 rfl dX9_placeOf_111 rfl ?_
                refine sw_iload_n (pc' := 115) (i := 1) cx dX9_placeOf_114 rfl 1 rfl rfl ?_
                obtain ⟨h11, hf⟩ := gx_s hf
                refine sw_iald (pc' := 116) cx 5 0 rfl rfl h11 dX9_placeOf_115 rfl ?_
                obtain rfl := Option.some.inj hf
                exact sw_iret cx hr hQ dX9_placeOf_116
              · replace hf := it_p c10 hf
                refine sw_aload_n (pc' := 96) (i := 0) cx dX9_placeOf_95 rfl 0 rfl rfl ?_
                refine sw_get (pc' := 99) cx in_X9 0 rfl rfl 0 (Nat.le_of_ble_eq_true rfl) fl_RX9_32 rfl dX9_placeOf_96 rfl ?_
                refine sw_getN (pc' := 102) cx in_X4 1 rfl rfl 3 (Nat.le_of_ble_eq_true rfl) fn_RX9_142 rfl dX9_placeOf_99 rfl ?_
                refine sw_iload_n (pc' := 103) (i := 1) cx dX9_placeOf_102 rfl 1 rfl rfl ?_
                obtain ⟨h12, hf⟩ := gx_s hf
                refine sw_iald (pc' := 104) cx 4 0 rfl rfl h12 dX9_placeOf_103 rfl ?_
                refine sw_goto (tgt := 116) cx dX9_placeOf_104 (by decide) ?_
                obtain rfl := Option.some.inj hf
                exact sw_iret cx hr hQ dX9_placeOf_116
            · replace hf := it_p c9 hf
              refine sw_aload_n (pc' := 81) (i := 0) cx dX9_placeOf_80 rfl 0 rfl rfl ?_
              refine sw_get (pc' := 84) cx in_X9 0 rfl rfl 0 (Nat.le_of_ble_eq_true rfl) fl_RX9_32 rfl dX9_placeOf_81 rfl ?_
              refine sw_getN (pc' := 87) cx in_X4 1 rfl rfl 2 (Nat.le_of_ble_eq_true rfl) fn_RX9_139 rfl dX9_placeOf_84 rfl ?_
              refine sw_iload_n (pc' := 88) (i := 1) cx dX9_placeOf_87 rfl 1 rfl rfl ?_
              obtain ⟨h13, hf⟩ := gx_s hf
              refine sw_iald (pc' := 89) cx 3 0 rfl rfl h13 dX9_placeOf_88 rfl ?_
              obtain rfl := Option.some.inj hf
              exact sw_iret cx hr hQ dX9_placeOf_89
          · replace hf := it_p c8 hf
            refine sw_aload_n (pc' := 70) (i := 0) cx dX9_placeOf_69 rfl 0 rfl rfl ?_
            refine sw_iconst (pc' := 71) (v := 4) cx dX9_placeOf_70 iconst_4 rfl ?_
            obtain ⟨r14, hr14, hf⟩ := bd_s hf
            refine sw_callVw (pc' := 74) (As := [.int (4 : Int32)]) (rest := []) (w' := (sx_W g m0 m1 m2 ka sa sn cI cJ cK cS mu tr ke kp tby tlen ttok tsta tbeh tnum ttak sh r14.2)) cx (k_X9_found l D g m0 m1 m2 ka sa sn cI cJ cK cS mu tr ke kp tby tlen ttok tsta tbeh tnum ttak sh fi (4 : Int32) r14 hr14) pk_yX9_found ml_RX9_68 ⟨rfl, rfl⟩ ⟨(Nat.le_of_ble_eq_true rfl), (Nat.le_of_ble_eq_true rfl)⟩ ⟨(Nat.le_of_ble_eq_true rfl), (Nat.le_of_ble_eq_true rfl)⟩ 0 rfl rfl rfl rfl (Nat.le_of_ble_eq_true rfl) rfl dX9_placeOf_71 rfl ?_
            obtain rfl := Option.some.inj hf
            exact sw_iret cx hr hQ dX9_placeOf_74
        · replace hf := it_p c6 hf
          refine sw_aload_n (pc' := 42) (i := 0) cx dX9_placeOf_41 rfl 0 rfl rfl ?_
          refine sw_get (pc' := 45) cx in_X9 0 rfl rfl 0 (Nat.le_of_ble_eq_true rfl) fl_RX9_32 rfl dX9_placeOf_42 rfl ?_
          refine sw_iload_n (pc' := 46) (i := 1) cx dX9_placeOf_45 rfl 1 rfl rfl ?_
          obtain ⟨r15, hr15, hf⟩ := bd_s hf
          refine sw_callV (pc' := 49) (As := [.int a0]) (rest := []) cx (k_X4_isWhole l D m0 (g 5) ka cI cJ cK cS mu a0 r15 hr15) pk_yX4_isWhole ml_RX9_136 ⟨rfl, rfl⟩ ⟨(Nat.le_of_ble_eq_true rfl), (Nat.le_of_ble_eq_true rfl)⟩ ⟨(Nat.le_of_ble_eq_true rfl), (Nat.le_of_ble_eq_true rfl)⟩ [1, 2, 3, 4, 5, 6, 7, 8, 9, 10, 31, 32, 33, 34, 35, 36, 37] sx_C_mu sx_n_mu (mt_fst _ _ _ _ _ _ _) (wn := (sx_W g m0 m1 m2 ka sa sn cI cJ cK cS mu tr ke kp tby tlen ttok tsta tbeh tnum ttak sh fi)) sx_w_mu 0 rfl rfl rfl rfl (Nat.le_of_ble_eq_true rfl) rfl dX9_placeOf_46 rfl ?_
          refine sw_if_eq (pc' := 52) (tgt := 56) cx dX9_placeOf_49 (by decide) rfl (fun c16 => ?_) (fun c16 => ?_)
          · replace hf := it_p c16 hf
            refine sw_iconst (pc' := 57) (v := 0) cx dX9_placeOf_56 iconst_0 rfl ?_
            obtain rfl := Option.some.inj hf
            exact sw_iret cx hr hQ dX9_placeOf_57
          · replace hf := it_n c16 hf
            refine sw_iconst (pc' := 53) (v := 1) cx dX9_placeOf_52 iconst_1 rfl ?_
            refine sw_goto (tgt := 57) cx dX9_placeOf_53 (by decide) ?_
            obtain rfl := Option.some.inj hf
            exact sw_iret cx hr hQ dX9_placeOf_57
      · replace hf := it_p c5 hf
        refine sw_aload_n (pc' := 27) (i := 0) cx dX9_placeOf_26 rfl 0 rfl rfl ?_
        refine sw_get (pc' := 30) cx in_X9 0 rfl rfl 0 (Nat.le_of_ble_eq_true rfl) fl_RX9_32 rfl dX9_placeOf_27 rfl ?_
        refine sw_getN (pc' := 33) cx in_X4 1 rfl rfl 1 (Nat.le_of_ble_eq_true rfl) fn_RX9_72 rfl dX9_placeOf_30 rfl ?_
        refine sw_iload_n (pc' := 34) (i := 1) cx dX9_placeOf_33 rfl 1 rfl rfl ?_
        obtain ⟨h17, hf⟩ := gx_s hf
        refine sw_iald (pc' := 35) cx 2 0 rfl rfl h17 dX9_placeOf_34 rfl ?_
        obtain rfl := Option.some.inj hf
        exact sw_iret cx hr hQ dX9_placeOf_35
    · replace hf := it_p c4 hf
      exact sw_lv [0] rfl (B16 fi hf)
abbrev rm_X9_whole : Room := ({ frames := 0, cells := 0, slots := 0, locals := 0 } : Room)
set_option maxRecDepth 100000 in
set_option maxHeartbeats 4000000 in
theorem k_X9_whole (l : Launch) (D : sf_D) (g m0 m1 m2 ka sa sn : Nat → Nat) (cI cJ cK cS : ClassId) (mu : MtS) (tr : MtS) (ke : MtS) (kp : Int32) (tby : Nat → Int32) (tlen : Int32) (ttok : Int32) (tsta : Int32) (tbeh : Int32) (tnum : Int32) (ttak : Int32) (sh : Nat → ShS) (fi : Nat → Int32)  (res : Int64) (hf : f_X9_whole mu = some res) : sf_Ct l yX9_whole cX9_whole 1 (some .long) rm_X9_whole D (sf_ty cI cJ cK cS) [.ref (g 0)] (sx_W g m0 m1 m2 ka sa sn cI cJ cK cS mu tr ke kp tby tlen ttok tsta tbeh tnum ttak sh fi) (some (.long res)) (sx_W g m0 m1 m2 ka sa sn cI cJ cK cS mu tr ke kp tby tlen ttok tsta tbeh tnum ttak sh fi) := by
  refine sf_met (lv := [(0, .ref (g 0))]) (by decide) (Nat.le_of_ble_eq_true rfl) rfl ?_
  intro p e s m args below meth c A Q cx hr hQ
  have cx : sf_Cx p m meth c cX9_whole 1 s args RX9 D (sf_ty cI cJ cK cS) A := cx
  unfold f_X9_whole at hf
  refine sw_aload_n (pc' := 1) (i := 0) cx dX9_whole_0 rfl 0 rfl rfl ?_
  refine sw_get (pc' := 4) cx in_X9 0 rfl rfl 0 (Nat.le_of_ble_eq_true rfl) fl_RX9_32 rfl dX9_whole_1 rfl ?_
  refine sw_getN (pc' := 7) cx in_X4 1 rfl rfl 5 (Nat.le_of_ble_eq_true rfl) fn_RX9_148 rfl dX9_whole_4 rfl ?_
  obtain rfl := Option.some.inj hf
  exact sw_lret cx hr hQ dX9_whole_7
abbrev rm_X9_make : Room := ({ frames := 2, cells := 0, slots := 0, locals := 43 } : Room)
set_option maxRecDepth 100000 in
set_option maxHeartbeats 4000000 in
theorem k_X9_make (l : Launch) (D : sf_D) (g m0 m1 m2 ka sa sn : Nat → Nat) (cI cJ cK cS : ClassId) (mu : MtS) (tr : MtS) (ke : MtS) (kp : Int32) (tby : Nat → Int32) (tlen : Int32) (ttok : Int32) (tsta : Int32) (tbeh : Int32) (tnum : Int32) (ttak : Int32) (sh : Nat → ShS) (fi : Nat → Int32) (a0 : Int32) (a1 : Int32) (a2 : Int32) (res : Int32 × MtS × (Nat → Int32)) (hf : f_X9_make mu fi a0 a1 a2 = some res) : sf_Ct l yX9_make cX9_make 4 (some .int) rm_X9_make D (sf_ty cI cJ cK cS) [.ref (g 0), .int a0, .int a1, .int a2] (sx_W g m0 m1 m2 ka sa sn cI cJ cK cS mu tr ke kp tby tlen ttok tsta tbeh tnum ttak sh fi) (some (.int res.1)) (sx_W g m0 m1 m2 ka sa sn cI cJ cK cS res.2.1 tr ke kp tby tlen ttok tsta tbeh tnum ttak sh res.2.2) := by
  refine sf_met (lv := [(0, .ref (g 0)), (1, .int a0), (2, .int a1), (3, .int a2)]) (by decide) (Nat.le_of_ble_eq_true rfl) rfl ?_
  intro p e s m args below meth c A Q cx hr hQ
  have cx : sf_Cx p m meth c cX9_make 4 s args RX9 D (sf_ty cI cJ cK cS) A := cx
  have B18 : ∀ (mu : MtS) (fi : Nat → Int32), f_X9_make_b18 mu fi = some res → sf_W p l e rm_X9_make s m args below meth c 0 0 Q 4 D A (sx_W g m0 m1 m2 ka sa sn cI cJ cK cS mu tr ke kp tby tlen ttok tsta tbeh tnum ttak sh fi) [(0, .ref (g 0))] 18 [] := by
    intro mu fi hf
    unfold f_X9_make_b18 at hf
    refine sw_aload_n (pc' := 19) (i := 0) cx dX9_make_18 rfl 0 rfl rfl ?_
    refine sw_iconst (pc' := 20) (v := 0) cx dX9_make_19 iconst_0 rfl ?_
    obtain ⟨r10, hr10, hf⟩ := bd_s hf
    refine sw_callVw (pc' := 23) (As := [.int (0 : Int32)]) (rest := []) (w' := (sx_W g m0 m1 m2 ka sa sn cI cJ cK cS mu tr ke kp tby tlen ttok tsta tbeh tnum ttak sh r10.2)) cx (k_X9_found l D g m0 m1 m2 ka sa sn cI cJ cK cS mu tr ke kp tby tlen ttok tsta tbeh tnum ttak sh fi (0 : Int32) r10 hr10) pk_yX9_found ml_RX9_68 ⟨rfl, rfl⟩ ⟨(Nat.le_of_ble_eq_true rfl), (Nat.le_of_ble_eq_true rfl)⟩ ⟨(Nat.le_of_ble_eq_true rfl), (Nat.le_of_ble_eq_true rfl)⟩ 0 rfl rfl rfl rfl (Nat.le_of_ble_eq_true rfl) rfl dX9_make_20 rfl ?_
    obtain rfl := Option.some.inj hf
    exact sw_iret cx hr hQ dX9_make_23
  unfold f_X9_make at hf
  refine sw_iload_n (pc' := 1) (i := 1) cx dX9_make_0 rfl 1 rfl rfl ?_
  obtain ⟨r1, hr1, hf⟩ := bd_s hf
  refine sw_callS (pc' := 4) (As := [.int a0]) (rest := []) cx (k_X9_isPlace l D cI cJ cK cS a0 r1 hr1) pk_yX9_isPlace ml_RX9_60 ⟨rfl, rfl⟩ ⟨(Nat.le_of_ble_eq_true rfl), (Nat.le_of_ble_eq_true rfl)⟩ ⟨(Nat.le_of_ble_eq_true rfl), (Nat.le_of_ble_eq_true rfl)⟩ [] rfl rfl rfl (wn := (sx_W g m0 m1 m2 ka sa sn cI cJ cK cS mu tr ke kp tby tlen ttok tsta tbeh tnum ttak sh fi)) rfl rfl (Nat.le_of_ble_eq_true rfl) rfl dX9_make_1 rfl ?_
  refine sw_if_eq (pc' := 7) (tgt := 18) cx dX9_make_4 (by decide) rfl (fun c2 => ?_) (fun c2 => ?_)
  · replace hf := it_p c2 hf
    exact sw_lv [0] rfl (B18 mu fi hf)
  · replace hf := it_n c2 hf
    refine sw_aload_n (pc' := 8) (i := 0) cx dX9_make_7 rfl 0 rfl rfl ?_
    refine sw_get (pc' := 11) cx in_X9 0 rfl rfl 0 (Nat.le_of_ble_eq_true rfl) fl_RX9_32 rfl dX9_make_8 rfl ?_
    refine sw_iload_n (pc' := 12) (i := 3) cx dX9_make_11 rfl 3 rfl rfl ?_
    obtain ⟨r3, hr3, hf⟩ := bd_s hf
    refine sw_callV (pc' := 15) (As := [.int a2]) (rest := []) cx (k_X4_hasFine l D m0 (g 5) ka cI cJ cK cS mu a2 r3 hr3) pk_yX4_hasFine ml_RX9_96 ⟨rfl, rfl⟩ ⟨(Nat.le_of_ble_eq_true rfl), (Nat.le_of_ble_eq_true rfl)⟩ ⟨(Nat.le_of_ble_eq_true rfl), (Nat.le_of_ble_eq_true rfl)⟩ [1, 2, 3, 4, 5, 6, 7, 8, 9, 10, 31, 32, 33, 34, 35, 36, 37] sx_C_mu sx_n_mu (mt_fst _ _ _ _ _ _ _) (wn := (sx_W g m0 m1 m2 ka sa sn cI cJ cK cS mu tr ke kp tby tlen ttok tsta tbeh tnum ttak sh fi)) sx_w_mu 0 rfl rfl rfl rfl (Nat.le_of_ble_eq_true rfl) rfl dX9_make_12 rfl ?_
    refine sw_if_ne (pc' := 18) (tgt := 24) cx dX9_make_15 (by decide) rfl (fun c4 => ?_) (fun c4 => ?_)
    · replace hf := it_n c4 hf
      refine sw_aload_n (pc' := 25) (i := 0) cx dX9_make_24 rfl 0 rfl rfl ?_
      refine sw_get (pc' := 28) cx in_X9 0 rfl rfl 0 (Nat.le_of_ble_eq_true rfl) fl_RX9_32 rfl dX9_make_25 rfl ?_
      refine sw_iload_n (pc' := 29) (i := 1) cx dX9_make_28 rfl 1 rfl rfl ?_
      obtain ⟨r5, hr5, hf⟩ := bd_s hf
      refine sw_callV (pc' := 32) (As := [.int a0]) (rest := []) cx (k_X4_isWhole l D m0 (g 5) ka cI cJ cK cS mu a0 r5 hr5) pk_yX4_isWhole ml_RX9_136 ⟨rfl, rfl⟩ ⟨(Nat.le_of_ble_eq_true rfl), (Nat.le_of_ble_eq_true rfl)⟩ ⟨(Nat.le_of_ble_eq_true rfl), (Nat.le_of_ble_eq_true rfl)⟩ [1, 2, 3, 4, 5, 6, 7, 8, 9, 10, 31, 32, 33, 34, 35, 36, 37] sx_C_mu sx_n_mu (mt_fst _ _ _ _ _ _ _) (wn := (sx_W g m0 m1 m2 ka sa sn cI cJ cK cS mu tr ke kp tby tlen ttok tsta tbeh tnum ttak sh fi)) sx_w_mu 0 rfl rfl rfl rfl (Nat.le_of_ble_eq_true rfl) rfl dX9_make_29 rfl ?_
      refine sw_iload_n (pc' := 33) (i := 2) cx dX9_make_32 rfl 2 rfl rfl ?_
      refine sw_icmp_ne (pc' := 36) (tgt := 38) cx dX9_make_33 (by decide) rfl (fun c6 => ?_) (fun c6 => ?_)
      · replace hf := it_n c6 hf
        refine sw_iload_n (pc' := 39) (i := 2) cx dX9_make_38 rfl 2 rfl rfl ?_
        refine sw_if_eq (pc' := 42) (tgt := 56) cx dX9_make_39 (by decide) rfl (fun c7 => ?_) (fun c7 => ?_)
        · replace hf := it_p c7 hf
          refine sw_aload_n (pc' := 57) (i := 0) cx dX9_make_56 rfl 0 rfl rfl ?_
          refine sw_get (pc' := 60) cx in_X9 0 rfl rfl 0 (Nat.le_of_ble_eq_true rfl) fl_RX9_32 rfl dX9_make_57 rfl ?_
          refine sw_iload_n (pc' := 61) (i := 1) cx dX9_make_60 rfl 1 rfl rfl ?_
          obtain ⟨r8, hr8, hf⟩ := bd_s hf
          refine sw_callV (pc' := 64) (As := [.int a0]) (rest := []) cx (k_X4_breakUp l D m0 (g 5) ka cI cJ cK cS mu a0 r8 hr8) pk_yX4_breakUp ml_RX9_156 ⟨rfl, rfl⟩ ⟨(Nat.le_of_ble_eq_true rfl), (Nat.le_of_ble_eq_true rfl)⟩ ⟨(Nat.le_of_ble_eq_true rfl), (Nat.le_of_ble_eq_true rfl)⟩ [1, 2, 3, 4, 5, 6, 7, 8, 9, 10, 31, 32, 33, 34, 35, 36, 37] sx_C_mu sx_n_mu (mt_fst _ _ _ _ _ _ _) (wn := (sx_W g m0 m1 m2 ka sa sn cI cJ cK cS r8 tr ke kp tby tlen ttok tsta tbeh tnum ttak sh fi)) sx_w_mu 0 rfl rfl rfl rfl (Nat.le_of_ble_eq_true rfl) rfl dX9_make_61 rfl ?_
          refine sw_iconst (pc' := 65) (v := 1) cx dX9_make_64 iconst_1 rfl ?_
          obtain rfl := Option.some.inj hf
          exact sw_iret cx hr hQ dX9_make_65
        · replace hf := it_n c7 hf
          refine sw_aload_n (pc' := 43) (i := 0) cx dX9_make_42 rfl 0 rfl rfl ?_
          refine sw_get (pc' := 46) cx in_X9 0 rfl rfl 0 (Nat.le_of_ble_eq_true rfl) fl_RX9_32 rfl dX9_make_43 rfl ?_
          refine sw_iload_n (pc' := 47) (i := 1) cx dX9_make_46 rfl 1 rfl rfl ?_
          refine sw_bipush (pc' := 49) (v := 10) cx dX9_make_47 bipush_10 rfl ?_
          refine sw_iload_n (pc' := 50) (i := 3) cx dX9_make_49 rfl 3 rfl rfl ?_
          obtain ⟨r9, hr9, hf⟩ := bd_s hf
          refine sw_callV (pc' := 53) (As := [.int a0, .int (10 : Int32), .int a2]) (rest := []) cx (k_X4_cut l D m0 (g 5) ka cI cJ cK cS mu a0 (10 : Int32) a2 r9 hr9) pk_yX4_cut ml_RX9_152 ⟨rfl, rfl⟩ ⟨(Nat.le_of_ble_eq_true rfl), (Nat.le_of_ble_eq_true rfl)⟩ ⟨(Nat.le_of_ble_eq_true rfl), (Nat.le_of_ble_eq_true rfl)⟩ [1, 2, 3, 4, 5, 6, 7, 8, 9, 10, 31, 32, 33, 34, 35, 36, 37] sx_C_mu sx_n_mu (mt_fst _ _ _ _ _ _ _) (wn := (sx_W g m0 m1 m2 ka sa sn cI cJ cK cS r9 tr ke kp tby tlen ttok tsta tbeh tnum ttak sh fi)) sx_w_mu 0 rfl rfl rfl rfl (Nat.le_of_ble_eq_true rfl) rfl dX9_make_50 rfl ?_
          refine sw_goto (tgt := 64) cx dX9_make_53 (by decide) ?_
          refine sw_iconst (pc' := 65) (v := 1) cx dX9_make_64 iconst_1 rfl ?_
          obtain rfl := Option.some.inj hf
          exact sw_iret cx hr hQ dX9_make_65
      · replace hf := it_p c6 hf
        refine sw_iconst (pc' := 37) (v := 0) cx dX9_make_36 iconst_0 rfl ?_
        obtain rfl := Option.some.inj hf
        exact sw_iret cx hr hQ dX9_make_37
    · replace hf := it_p c4 hf
      exact sw_lv [0] rfl (B18 mu fi hf)
abbrev rm_X9_reach : Room := ({ frames := 4, cells := 0, slots := 0, locals := 85 } : Room)
set_option maxRecDepth 100000 in
set_option maxHeartbeats 4000000 in
theorem k_X9_reach (l : Launch) (D : sf_D) (g m0 m1 m2 ka sa sn : Nat → Nat) (cI cJ cK cS : ClassId) (mu : MtS) (tr : MtS) (ke : MtS) (kp : Int32) (tby : Nat → Int32) (tlen : Int32) (ttok : Int32) (tsta : Int32) (tbeh : Int32) (tnum : Int32) (ttak : Int32) (sh : Nat → ShS) (fi : Nat → Int32)  (res : Int32) (hf : f_X9_reach mu = some res) : sf_Ct l yX9_reach cX9_reach 1 (some .int) rm_X9_reach D (sf_ty cI cJ cK cS) [.ref (g 0)] (sx_W g m0 m1 m2 ka sa sn cI cJ cK cS mu tr ke kp tby tlen ttok tsta tbeh tnum ttak sh fi) (some (.int res)) (sx_W g m0 m1 m2 ka sa sn cI cJ cK cS mu tr ke kp tby tlen ttok tsta tbeh tnum ttak sh fi) := by
  refine sf_met (lv := [(0, .ref (g 0))]) (by decide) (Nat.le_of_ble_eq_true rfl) rfl ?_
  intro p e s m args below meth c A Q cx hr hQ
  have cx : sf_Cx p m meth c cX9_reach 1 s args RX9 D (sf_ty cI cJ cK cS) A := cx
  unfold f_X9_reach at hf
  refine sw_aload_n (pc' := 1) (i := 0) cx dX9_reach_0 rfl 0 rfl rfl ?_
  refine sw_get (pc' := 4) cx in_X9 0 rfl rfl 0 (Nat.le_of_ble_eq_true rfl) fl_RX9_32 rfl dX9_reach_1 rfl ?_
  obtain ⟨r1, hr1, hf⟩ := bd_s hf
  refine sw_callV (pc' := 7) (As := []) (rest := []) cx (k_X4_climb l D m0 (g 5) ka cI cJ cK cS mu  r1 hr1) pk_yX4_climb ml_RX9_160 ⟨rfl, rfl⟩ ⟨(Nat.le_of_ble_eq_true rfl), (Nat.le_of_ble_eq_true rfl)⟩ ⟨(Nat.le_of_ble_eq_true rfl), (Nat.le_of_ble_eq_true rfl)⟩ [1, 2, 3, 4, 5, 6, 7, 8, 9, 10, 31, 32, 33, 34, 35, 36, 37] sx_C_mu sx_n_mu (mt_fst _ _ _ _ _ _ _) (wn := (sx_W g m0 m1 m2 ka sa sn cI cJ cK cS mu tr ke kp tby tlen ttok tsta tbeh tnum ttak sh fi)) sx_w_mu 0 rfl rfl rfl rfl (Nat.le_of_ble_eq_true rfl) rfl dX9_reach_4 rfl ?_
  obtain rfl := Option.some.inj hf
  exact sw_iret cx hr hQ dX9_reach_7
abbrev rm_X9_faults : Room := ({ frames := 3, cells := 0, slots := 0, locals := 62 } : Room)
set_option maxRecDepth 100000 in
set_option maxHeartbeats 4000000 in
theorem k_X9_faults (l : Launch) (D : sf_D) (g m0 m1 m2 ka sa sn : Nat → Nat) (cI cJ cK cS : ClassId) (mu : MtS) (tr : MtS) (ke : MtS) (kp : Int32) (tby : Nat → Int32) (tlen : Int32) (ttok : Int32) (tsta : Int32) (tbeh : Int32) (tnum : Int32) (ttak : Int32) (sh : Nat → ShS) (fi : Nat → Int32)  (res : Int64) (hf : f_X9_faults mu = some res) : sf_Ct l yX9_faults cX9_faults 4 (some .long) rm_X9_faults D (sf_ty cI cJ cK cS) [.ref (g 0)] (sx_W g m0 m1 m2 ka sa sn cI cJ cK cS mu tr ke kp tby tlen ttok tsta tbeh tnum ttak sh fi) (some (.long res)) (sx_W g m0 m1 m2 ka sa sn cI cJ cK cS mu tr ke kp tby tlen ttok tsta tbeh tnum ttak sh fi) := by
  refine sf_met (lv := [(0, .ref (g 0))]) (by decide) (Nat.le_of_ble_eq_true rfl) rfl ?_
  intro p e s m args below meth c A Q cx hr hQ
  have cx : sf_Cx p m meth c cX9_faults 4 s args RX9 D (sf_ty cI cJ cK cS) A := cx
  have B45 : ∀ (kk : Int64 → Int32 → Option (Int64)), (∀ (x1 : Int64) (x3 : Int32), kk x1 x3 = some res → sf_W p l e rm_X9_faults s m args below meth c 0 0 Q 4 D A (sx_W g m0 m1 m2 ka sa sn cI cJ cK cS mu tr ke kp tby tlen ttok tsta tbeh tnum ttak sh fi) [(0, .ref (g 0)), (1, .long x1), (3, .int x3)] 4 []) → ∀ (x1 : Int64) (x3 : Int32), f_X9_faults_b45 mu kk x1 x3 = some res → sf_W p l e rm_X9_faults s m args below meth c 0 0 Q 4 D A (sx_W g m0 m1 m2 ka sa sn cI cJ cK cS mu tr ke kp tby tlen ttok tsta tbeh tnum ttak sh fi) [(0, .ref (g 0)), (1, .long x1), (3, .int x3)] 45 [] := by
    intro kk hkk x1 x3 hf
    unfold f_X9_faults_b45 at hf
    refine sw_iinc (pc' := 48) (v := (x3 + (1 : Int32))) (lv' := [(3, .int (x3 + (1 : Int32))), (0, .ref (g 0)), (1, .long x1)]) cx dX9_faults_45 2 rfl rfl (Nat.le_of_ble_eq_true rfl) rfl rfl ?_
    refine sw_goto (tgt := 4) cx dX9_faults_48 (by decide) ?_
    exact sw_lv [1, 2, 0] rfl (hkk x1 (x3 + (1 : Int32)) hf)
  have B4 : ∀ (n : Nat), ∀ (x1 : Int64) (x3 : Int32), f_X9_faults_b4 mu n x1 x3 = some res → sf_W p l e rm_X9_faults s m args below meth c 0 0 Q 4 D A (sx_W g m0 m1 m2 ka sa sn cI cJ cK cS mu tr ke kp tby tlen ttok tsta tbeh tnum ttak sh fi) [(0, .ref (g 0)), (1, .long x1), (3, .int x3)] 4 [] := by
    intro n
    induction n with
    | zero => intro x1 x3 hf; rw [f_X9_faults_b4] at hf; cases hf
    | succ n ih =>
      intro x1 x3 hf
      rw [f_X9_faults_b4] at hf
      refine sw_iload_n (pc' := 5) (i := 3) cx dX9_faults_4 rfl 2 rfl rfl ?_
      refine sw_bipush (pc' := 7) (v := 40) cx dX9_faults_5 bipush_40 rfl ?_
      refine sw_icmp_ge (pc' := 10) (tgt := 51) cx dX9_faults_7 (by decide) rfl (fun c1 => ?_) (fun c1 => ?_)
      · replace hf := it_p c1 hf
        refine sw_lload_n (pc' := 52) (i := 1) cx dX9_faults_51 rfl 1 rfl rfl ?_
        obtain rfl := Option.some.inj hf
        exact sw_lret cx hr hQ dX9_faults_52
      · replace hf := it_n c1 hf
        refine sw_aload_n (pc' := 11) (i := 0) cx dX9_faults_10 rfl 0 rfl rfl ?_
        refine sw_get (pc' := 14) cx in_X9 0 rfl rfl 0 (Nat.le_of_ble_eq_true rfl) fl_RX9_32 rfl dX9_faults_11 rfl ?_
        refine sw_iload_n (pc' := 15) (i := 3) cx dX9_faults_14 rfl 2 rfl rfl ?_
        obtain ⟨r2, hr2, hf⟩ := bd_s hf
        refine sw_callV (pc' := 18) (As := [.int x3]) (rest := []) cx (k_X4_isPair l D m0 (g 5) ka cI cJ cK cS mu x3 r2 hr2) pk_yX4_isPair ml_RX9_164 ⟨rfl, rfl⟩ ⟨(Nat.le_of_ble_eq_true rfl), (Nat.le_of_ble_eq_true rfl)⟩ ⟨(Nat.le_of_ble_eq_true rfl), (Nat.le_of_ble_eq_true rfl)⟩ [1, 2, 3, 4, 5, 6, 7, 8, 9, 10, 31, 32, 33, 34, 35, 36, 37] sx_C_mu sx_n_mu (mt_fst _ _ _ _ _ _ _) (wn := (sx_W g m0 m1 m2 ka sa sn cI cJ cK cS mu tr ke kp tby tlen ttok tsta tbeh tnum ttak sh fi)) sx_w_mu 0 rfl rfl rfl rfl (Nat.le_of_ble_eq_true rfl) rfl dX9_faults_15 rfl ?_
        refine sw_if_eq (pc' := 21) (tgt := 45) cx dX9_faults_18 (by decide) rfl (fun c3 => ?_) (fun c3 => ?_)
        · replace hf := it_p c3 hf
          exact sw_lv [0, 1, 2] rfl (B45 _ ih x1 x3 hf)
        · replace hf := it_n c3 hf
          refine sw_aload_n (pc' := 22) (i := 0) cx dX9_faults_21 rfl 0 rfl rfl ?_
          refine sw_get (pc' := 25) cx in_X9 0 rfl rfl 0 (Nat.le_of_ble_eq_true rfl) fl_RX9_32 rfl dX9_faults_22 rfl ?_
          refine sw_iload_n (pc' := 26) (i := 3) cx dX9_faults_25 rfl 2 rfl rfl ?_
          refine sw_aload_n (pc' := 27) (i := 0) cx dX9_faults_26 rfl 0 rfl rfl ?_
          refine sw_get (pc' := 30) cx in_X9 0 rfl rfl 0 (Nat.le_of_ble_eq_true rfl) fl_RX9_32 rfl dX9_faults_27 rfl ?_
          refine sw_getN (pc' := 33) cx in_X4 1 rfl rfl 8 (Nat.le_of_ble_eq_true rfl) fn_RX9_79 rfl dX9_faults_30 rfl ?_
          obtain ⟨r4, hr4, hf⟩ := bd_s hf
          refine sw_callV (pc' := 36) (As := [.int x3, .int (mu.1 0 2)]) (rest := []) cx (k_X4_isMet l D m0 (g 5) ka cI cJ cK cS mu x3 (mu.1 0 2) r4 hr4) pk_yX4_isMet ml_RX9_167 ⟨rfl, rfl⟩ ⟨(Nat.le_of_ble_eq_true rfl), (Nat.le_of_ble_eq_true rfl)⟩ ⟨(Nat.le_of_ble_eq_true rfl), (Nat.le_of_ble_eq_true rfl)⟩ [1, 2, 3, 4, 5, 6, 7, 8, 9, 10, 31, 32, 33, 34, 35, 36, 37] sx_C_mu sx_n_mu (mt_fst _ _ _ _ _ _ _) (wn := (sx_W g m0 m1 m2 ka sa sn cI cJ cK cS mu tr ke kp tby tlen ttok tsta tbeh tnum ttak sh fi)) sx_w_mu 0 rfl rfl rfl rfl (Nat.le_of_ble_eq_true rfl) rfl dX9_faults_33 rfl ?_
          refine sw_if_ne (pc' := 39) (tgt := 45) cx dX9_faults_36 (by decide) rfl (fun c5 => ?_) (fun c5 => ?_)
          · replace hf := it_n c5 hf
            exact sw_lv [0, 1, 2] rfl (B45 _ ih x1 x3 hf)
          · replace hf := it_p c5 hf
            refine sw_lload_n (pc' := 40) (i := 1) cx dX9_faults_39 rfl 1 rfl rfl ?_
            refine sw_lconst (pc' := 41) (v := 1) cx dX9_faults_40 rfl rfl ?_
            refine sw_iload_n (pc' := 42) (i := 3) cx dX9_faults_41 rfl 2 rfl rfl ?_
            refine sw_lshl (pc' := 43) cx dX9_faults_42 rfl ?_
            refine sw_lor (pc' := 44) cx dX9_faults_43 rfl ?_
            refine sw_lstore_n (pc' := 45) (i := 1) (lv' := [(1, .long (x1 ||| ((1 : Int64) <<< ((x3).toInt64 &&& 63)))), (0, .ref (g 0)), (3, .int x3)]) cx dX9_faults_44 rfl (Nat.le_of_ble_eq_true rfl) rfl rfl ?_
            exact sw_lv [1, 0, 2] rfl (B45 _ ih (x1 ||| ((1 : Int64) <<< ((x3).toInt64 &&& 63))) x3 hf)
  unfold f_X9_faults at hf
  refine sw_lconst (pc' := 1) (v := 0) cx dX9_faults_0 rfl rfl ?_
  refine sw_lstore_n (pc' := 2) (i := 1) (lv' := [(1, .long (0 : Int64)), (0, .ref (g 0))]) cx dX9_faults_1 rfl (Nat.le_of_ble_eq_true rfl) rfl rfl ?_
  refine sw_iconst (pc' := 3) (v := 1) cx dX9_faults_2 iconst_1 rfl ?_
  refine sw_istore_n (pc' := 4) (i := 3) (lv' := [(3, .int (1 : Int32)), (1, .long (0 : Int64)), (0, .ref (g 0))]) cx dX9_faults_3 rfl (Nat.le_of_ble_eq_true rfl) rfl rfl ?_
  exact sw_lv [2, 1, 0] rfl (B4 1000 (0 : Int64) (1 : Int32) hf)
abbrev rm_X9_isTooLateFor : Room := ({ frames := 0, cells := 0, slots := 0, locals := 0 } : Room)
set_option maxRecDepth 100000 in
set_option maxHeartbeats 4000000 in
theorem k_X9_isTooLateFor (l : Launch) (D : sf_D) (g m0 m1 m2 ka sa sn : Nat → Nat) (cI cJ cK cS : ClassId) (mu : MtS) (tr : MtS) (ke : MtS) (kp : Int32) (tby : Nat → Int32) (tlen : Int32) (ttok : Int32) (tsta : Int32) (tbeh : Int32) (tnum : Int32) (ttak : Int32) (sh : Nat → ShS) (fi : Nat → Int32) (a0 : Int32) (res : Int32) (hf : f_X9_isTooLateFor mu a0 = some res) : sf_Ct l yX9_isTooLateFor cX9_isTooLateFor 2 (some .boolean) rm_X9_isTooLateFor D (sf_ty cI cJ cK cS) [.ref (g 0), .int a0] (sx_W g m0 m1 m2 ka sa sn cI cJ cK cS mu tr ke kp tby tlen ttok tsta tbeh tnum ttak sh fi) (some (.int res)) (sx_W g m0 m1 m2 ka sa sn cI cJ cK cS mu tr ke kp tby tlen ttok tsta tbeh tnum ttak sh fi) := by
  refine sf_met (lv := [(0, .ref (g 0)), (1, .int a0)]) (by decide) (Nat.le_of_ble_eq_true rfl) rfl ?_
  intro p e s m args below meth c A Q cx hr hQ
  have cx : sf_Cx p m meth c cX9_isTooLateFor 2 s args RX9 D (sf_ty cI cJ cK cS) A := cx
  unfold f_X9_isTooLateFor at hf
  refine sw_aload_n (pc' := 1) (i := 0) cx dX9_isTooLateFor_0 rfl 0 rfl rfl ?_
  refine sw_get (pc' := 4) cx in_X9 0 rfl rfl 0 (Nat.le_of_ble_eq_true rfl) fl_RX9_32 rfl dX9_isTooLateFor_1 rfl ?_
  refine sw_getN (pc' := 7) cx in_X4 1 rfl rfl 6 (Nat.le_of_ble_eq_true rfl) fn_RX9_184 rfl dX9_isTooLateFor_4 rfl ?_
  refine sw_iload_n (pc' := 8) (i := 1) cx dX9_isTooLateFor_7 rfl 1 rfl rfl ?_
  refine sw_iadd (pc' := 9) cx dX9_isTooLateFor_8 rfl ?_
  refine sw_sipush (pc' := 12) (v := 9999) cx dX9_isTooLateFor_9 sipush_9999 rfl ?_
  refine sw_icmp_le (pc' := 15) (tgt := 19) cx dX9_isTooLateFor_12 (by decide) rfl (fun c1 => ?_) (fun c1 => ?_)
  · replace hf := it_p c1 hf
    refine sw_iconst (pc' := 20) (v := 0) cx dX9_isTooLateFor_19 iconst_0 rfl ?_
    obtain rfl := Option.some.inj hf
    exact sw_zret cx hr (by decide +kernel) hQ dX9_isTooLateFor_20
  · replace hf := it_n c1 hf
    refine sw_iconst (pc' := 16) (v := 1) cx dX9_isTooLateFor_15 iconst_1 rfl ?_
    refine sw_goto (tgt := 20) cx dX9_isTooLateFor_16 (by decide) ?_
    obtain rfl := Option.some.inj hf
    exact sw_zret cx hr (by decide +kernel) hQ dX9_isTooLateFor_20
abbrev rm_X9_againstYears : Room := ({ frames := 2, cells := 0, slots := 0, locals := 43 } : Room)
set_option maxRecDepth 100000 in
set_option maxHeartbeats 4000000 in
theorem k_X9_againstYears (l : Launch) (D : sf_D) (g m0 m1 m2 ka sa sn : Nat → Nat) (cI cJ cK cS : ClassId) (mu : MtS) (tr : MtS) (ke : MtS) (kp : Int32) (tby : Nat → Int32) (tlen : Int32) (ttok : Int32) (tsta : Int32) (tbeh : Int32) (tnum : Int32) (ttak : Int32) (sh : Nat → ShS) (fi : Nat → Int32) (a0 : Int32) (a1 : Int32) (a2 : Int32) (res : Int32 × (Nat → Int32)) (hf : f_X9_againstYears mu fi a0 a1 a2 = some res) : sf_Ct l yX9_againstYears cX9_againstYears 4 (some .int) rm_X9_againstYears D (sf_ty cI cJ cK cS) [.ref (g 0), .int a0, .int a1, .int a2] (sx_W g m0 m1 m2 ka sa sn cI cJ cK cS mu tr ke kp tby tlen ttok tsta tbeh tnum ttak sh fi) (some (.int res.1)) (sx_W g m0 m1 m2 ka sa sn cI cJ cK cS mu tr ke kp tby tlen ttok tsta tbeh tnum ttak sh res.2) := by
  refine sf_met (lv := [(0, .ref (g 0)), (1, .int a0), (2, .int a1), (3, .int a2)]) (by decide) (Nat.le_of_ble_eq_true rfl) rfl ?_
  intro p e s m args below meth c A Q cx hr hQ
  have cx : sf_Cx p m meth c cX9_againstYears 4 s args RX9 D (sf_ty cI cJ cK cS) A := cx
  unfold f_X9_againstYears at hf
  refine sw_iload_n (pc' := 1) (i := 1) cx dX9_againstYears_0 rfl 1 rfl rfl ?_
  refine sw_iload_n (pc' := 2) (i := 2) cx dX9_againstYears_1 rfl 2 rfl rfl ?_
  refine sw_iload_n (pc' := 3) (i := 3) cx dX9_againstYears_2 rfl 3 rfl rfl ?_
  obtain ⟨r1, hr1, hf⟩ := bd_s hf
  refine sw_callS (pc' := 6) (As := [.int a0, .int a1, .int a2]) (rest := []) cx (k_X9_isWithin l D cI cJ cK cS a0 a1 a2 r1 hr1) pk_yX9_isWithin ml_RX9_64 ⟨rfl, rfl⟩ ⟨(Nat.le_of_ble_eq_true rfl), (Nat.le_of_ble_eq_true rfl)⟩ ⟨(Nat.le_of_ble_eq_true rfl), (Nat.le_of_ble_eq_true rfl)⟩ [] rfl rfl rfl (wn := (sx_W g m0 m1 m2 ka sa sn cI cJ cK cS mu tr ke kp tby tlen ttok tsta tbeh tnum ttak sh fi)) rfl rfl (Nat.le_of_ble_eq_true rfl) rfl dX9_againstYears_3 rfl ?_
  refine sw_if_ne (pc' := 9) (tgt := 15) cx dX9_againstYears_6 (by decide) rfl (fun c2 => ?_) (fun c2 => ?_)
  · replace hf := it_n c2 hf
    refine sw_aload_n (pc' := 16) (i := 0) cx dX9_againstYears_15 rfl 0 rfl rfl ?_
    refine sw_iload_n (pc' := 17) (i := 1) cx dX9_againstYears_16 rfl 1 rfl rfl ?_
    obtain ⟨r3, hr3, hf⟩ := bd_s hf
    refine sw_callVw (pc' := 20) (As := [.int a0]) (rest := []) (w' := (sx_W g m0 m1 m2 ka sa sn cI cJ cK cS mu tr ke kp tby tlen ttok tsta tbeh tnum ttak sh fi)) cx (k_X9_isTooLateFor l D g m0 m1 m2 ka sa sn cI cJ cK cS mu tr ke kp tby tlen ttok tsta tbeh tnum ttak sh fi a0 r3 hr3) pk_yX9_isTooLateFor ml_RX9_193 ⟨rfl, rfl⟩ ⟨(Nat.le_of_ble_eq_true rfl), (Nat.le_of_ble_eq_true rfl)⟩ ⟨(Nat.le_of_ble_eq_true rfl), (Nat.le_of_ble_eq_true rfl)⟩ 0 rfl rfl rfl rfl (Nat.le_of_ble_eq_true rfl) rfl dX9_againstYears_17 rfl ?_
    refine sw_if_eq (pc' := 23) (tgt := 31) cx dX9_againstYears_20 (by decide) rfl (fun c4 => ?_) (fun c4 => ?_)
    · replace hf := it_p c4 hf
      refine sw_iconst (pc' := 32) (v := 0) cx dX9_againstYears_31 iconst_0 rfl ?_
      obtain rfl := Option.some.inj hf
      exact sw_iret cx hr hQ dX9_againstYears_32
    · replace hf := it_n c4 hf
      refine sw_aload_n (pc' := 24) (i := 0) cx dX9_againstYears_23 rfl 0 rfl rfl ?_
      refine sw_iconst (pc' := 25) (v := 4) cx dX9_againstYears_24 iconst_4 rfl ?_
      obtain ⟨r5, hr5, hf⟩ := bd_s hf
      refine sw_callVw (pc' := 28) (As := [.int (4 : Int32)]) (rest := []) (w' := (sx_W g m0 m1 m2 ka sa sn cI cJ cK cS mu tr ke kp tby tlen ttok tsta tbeh tnum ttak sh r5.2)) cx (k_X9_found l D g m0 m1 m2 ka sa sn cI cJ cK cS mu tr ke kp tby tlen ttok tsta tbeh tnum ttak sh fi (4 : Int32) r5 hr5) pk_yX9_found ml_RX9_68 ⟨rfl, rfl⟩ ⟨(Nat.le_of_ble_eq_true rfl), (Nat.le_of_ble_eq_true rfl)⟩ ⟨(Nat.le_of_ble_eq_true rfl), (Nat.le_of_ble_eq_true rfl)⟩ 0 rfl rfl rfl rfl (Nat.le_of_ble_eq_true rfl) rfl dX9_againstYears_25 rfl ?_
      refine sw_goto (tgt := 32) cx dX9_againstYears_28 (by decide) ?_
      obtain rfl := Option.some.inj hf
      exact sw_iret cx hr hQ dX9_againstYears_32
  · replace hf := it_p c2 hf
    refine sw_aload_n (pc' := 10) (i := 0) cx dX9_againstYears_9 rfl 0 rfl rfl ?_
    refine sw_iconst (pc' := 11) (v := 0) cx dX9_againstYears_10 iconst_0 rfl ?_
    obtain ⟨r6, hr6, hf⟩ := bd_s hf
    refine sw_callVw (pc' := 14) (As := [.int (0 : Int32)]) (rest := []) (w' := (sx_W g m0 m1 m2 ka sa sn cI cJ cK cS mu tr ke kp tby tlen ttok tsta tbeh tnum ttak sh r6.2)) cx (k_X9_found l D g m0 m1 m2 ka sa sn cI cJ cK cS mu tr ke kp tby tlen ttok tsta tbeh tnum ttak sh fi (0 : Int32) r6 hr6) pk_yX9_found ml_RX9_68 ⟨rfl, rfl⟩ ⟨(Nat.le_of_ble_eq_true rfl), (Nat.le_of_ble_eq_true rfl)⟩ ⟨(Nat.le_of_ble_eq_true rfl), (Nat.le_of_ble_eq_true rfl)⟩ 0 rfl rfl rfl rfl (Nat.le_of_ble_eq_true rfl) rfl dX9_againstYears_11 rfl ?_
    obtain rfl := Option.some.inj hf
    exact sw_iret cx hr hQ dX9_againstYears_14
abbrev rm_X9_years : Room := ({ frames := 6, cells := 0, slots := 0, locals := 132 } : Room)
set_option maxRecDepth 100000 in
set_option maxHeartbeats 4000000 in
theorem k_X9_years (l : Launch) (D : sf_D) (g m0 m1 m2 ka sa sn : Nat → Nat) (cI cJ cK cS : ClassId) (mu : MtS) (tr : MtS) (ke : MtS) (kp : Int32) (tby : Nat → Int32) (tlen : Int32) (ttok : Int32) (tsta : Int32) (tbeh : Int32) (tnum : Int32) (ttak : Int32) (sh : Nat → ShS) (fi : Nat → Int32) (a0 : Int32) (res : Int32 × MtS × (Nat → Int32)) (hf : f_X9_years mu fi a0 = some res) : sf_Ct l yX9_years cX9_years 3 (some .int) rm_X9_years D (sf_ty cI cJ cK cS) [.ref (g 0), .int a0] (sx_W g m0 m1 m2 ka sa sn cI cJ cK cS mu tr ke kp tby tlen ttok tsta tbeh tnum ttak sh fi) (some (.int res.1)) (sx_W g m0 m1 m2 ka sa sn cI cJ cK cS res.2.1 tr ke kp tby tlen ttok tsta tbeh tnum ttak sh res.2.2) := by
  refine sf_met (lv := [(0, .ref (g 0)), (1, .int a0)]) (by decide) (Nat.le_of_ble_eq_true rfl) rfl ?_
  intro p e s m args below meth c A Q cx hr hQ
  have cx : sf_Cx p m meth c cX9_years 3 s args RX9 D (sf_ty cI cJ cK cS) A := cx
  unfold f_X9_years at hf
  refine sw_aload_n (pc' := 1) (i := 0) cx dX9_years_0 rfl 0 rfl rfl ?_
  refine sw_iload_n (pc' := 2) (i := 1) cx dX9_years_1 rfl 1 rfl rfl ?_
  refine sw_iconst (pc' := 3) (v := 1) cx dX9_years_2 iconst_1 rfl ?_
  refine sw_sipush (pc' := 6) (v := 200) cx dX9_years_3 sipush_200 rfl ?_
  obtain ⟨r1, hr1, hf⟩ := bd_s hf
  refine sw_callVw (pc' := 9) (As := [.int a0, .int (1 : Int32), .int (200 : Int32)]) (rest := []) (w' := (sx_W g m0 m1 m2 ka sa sn cI cJ cK cS mu tr ke kp tby tlen ttok tsta tbeh tnum ttak sh r1.2)) cx (k_X9_againstYears l D g m0 m1 m2 ka sa sn cI cJ cK cS mu tr ke kp tby tlen ttok tsta tbeh tnum ttak sh fi a0 (1 : Int32) (200 : Int32) r1 hr1) pk_yX9_againstYears ml_RX9_171 ⟨rfl, rfl⟩ ⟨(Nat.le_of_ble_eq_true rfl), (Nat.le_of_ble_eq_true rfl)⟩ ⟨(Nat.le_of_ble_eq_true rfl), (Nat.le_of_ble_eq_true rfl)⟩ 0 rfl rfl rfl rfl (Nat.le_of_ble_eq_true rfl) rfl dX9_years_6 rfl ?_
  refine sw_istore_n (pc' := 10) (i := 2) (lv' := [(2, .int r1.1), (0, .ref (g 0)), (1, .int a0)]) cx dX9_years_9 rfl (Nat.le_of_ble_eq_true rfl) rfl rfl ?_
  refine sw_iload_n (pc' := 11) (i := 2) cx dX9_years_10 rfl 0 rfl rfl ?_
  refine sw_if_eq (pc' := 14) (tgt := 16) cx dX9_years_11 (by decide) rfl (fun c2 => ?_) (fun c2 => ?_)
  · replace hf := it_p c2 hf
    refine sw_aload_n (pc' := 17) (i := 0) cx dX9_years_16 rfl 1 rfl rfl ?_
    refine sw_get (pc' := 20) cx in_X9 0 rfl rfl 0 (Nat.le_of_ble_eq_true rfl) fl_RX9_32 rfl dX9_years_17 rfl ?_
    refine sw_iload_n (pc' := 21) (i := 1) cx dX9_years_20 rfl 2 rfl rfl ?_
    obtain ⟨r3, hr3, hf⟩ := bd_s hf
    refine sw_callV (pc' := 24) (As := [.int a0]) (rest := []) cx (k_X4_goYears l D m0 (g 5) ka cI cJ cK cS mu a0 r3 hr3) pk_yX4_goYears ml_RX9_175 ⟨rfl, rfl⟩ ⟨(Nat.le_of_ble_eq_true rfl), (Nat.le_of_ble_eq_true rfl)⟩ ⟨(Nat.le_of_ble_eq_true rfl), (Nat.le_of_ble_eq_true rfl)⟩ [1, 2, 3, 4, 5, 6, 7, 8, 9, 10, 31, 32, 33, 34, 35, 36, 37] sx_C_mu sx_n_mu (mt_fst _ _ _ _ _ _ _) (wn := (sx_W g m0 m1 m2 ka sa sn cI cJ cK cS r3 tr ke kp tby tlen ttok tsta tbeh tnum ttak sh r1.2)) sx_w_mu 0 rfl rfl rfl rfl (Nat.le_of_ble_eq_true rfl) rfl dX9_years_21 rfl ?_
    refine sw_aload_n (pc' := 25) (i := 0) cx dX9_years_24 rfl 1 rfl rfl ?_
    refine sw_get (pc' := 28) cx in_X9 0 rfl rfl 0 (Nat.le_of_ble_eq_true rfl) fl_RX9_32 rfl dX9_years_25 rfl ?_
    obtain ⟨r4, hr4, hf⟩ := bd_s hf
    refine sw_callV (pc' := 31) (As := []) (rest := []) cx (k_X4_wholePlaces l D m0 (g 5) ka cI cJ cK cS r3  r4 hr4) pk_yX4_wholePlaces ml_RX9_178 ⟨rfl, rfl⟩ ⟨(Nat.le_of_ble_eq_true rfl), (Nat.le_of_ble_eq_true rfl)⟩ ⟨(Nat.le_of_ble_eq_true rfl), (Nat.le_of_ble_eq_true rfl)⟩ [1, 2, 3, 4, 5, 6, 7, 8, 9, 10, 31, 32, 33, 34, 35, 36, 37] sx_C_mu sx_n_mu (mt_fst _ _ _ _ _ _ _) (wn := (sx_W g m0 m1 m2 ka sa sn cI cJ cK cS r3 tr ke kp tby tlen ttok tsta tbeh tnum ttak sh r1.2)) sx_w_mu 0 rfl rfl rfl rfl (Nat.le_of_ble_eq_true rfl) rfl dX9_years_28 rfl ?_
    obtain rfl := Option.some.inj hf
    exact sw_iret cx hr hQ dX9_years_31
  · replace hf := it_n c2 hf
    refine sw_iload_n (pc' := 15) (i := 2) cx dX9_years_14 rfl 0 rfl rfl ?_
    obtain rfl := Option.some.inj hf
    exact sw_iret cx hr hQ dX9_years_15
abbrev rm_X9_seed : Room := ({ frames := 0, cells := 0, slots := 0, locals := 0 } : Room)
set_option maxRecDepth 100000 in
set_option maxHeartbeats 4000000 in
theorem k_X9_seed (l : Launch) (D : sf_D) (g m0 m1 m2 ka sa sn : Nat → Nat) (cI cJ cK cS : ClassId) (mu : MtS) (tr : MtS) (ke : MtS) (kp : Int32) (tby : Nat → Int32) (tlen : Int32) (ttok : Int32) (tsta : Int32) (tbeh : Int32) (tnum : Int32) (ttak : Int32) (sh : Nat → ShS) (fi : Nat → Int32) (a0 : Int32) (res : Int32 × MtS) (hf : f_X9_seed mu a0 = some res) : sf_Ct l yX9_seed cX9_seed 3 (some .int) rm_X9_seed D (sf_ty cI cJ cK cS) [.ref (g 0), .int a0] (sx_W g m0 m1 m2 ka sa sn cI cJ cK cS mu tr ke kp tby tlen ttok tsta tbeh tnum ttak sh fi) (some (.int res.1)) (sx_W g m0 m1 m2 ka sa sn cI cJ cK cS res.2 tr ke kp tby tlen ttok tsta tbeh tnum ttak sh fi) := by
  refine sf_met (lv := [(0, .ref (g 0)), (1, .int a0)]) (by decide) (Nat.le_of_ble_eq_true rfl) rfl ?_
  intro p e s m args below meth c A Q cx hr hQ
  have cx : sf_Cx p m meth c cX9_seed 3 s args RX9 D (sf_ty cI cJ cK cS) A := cx
  unfold f_X9_seed at hf
  refine sw_aload_n (pc' := 1) (i := 0) cx dX9_seed_0 rfl 0 rfl rfl ?_
  refine sw_get (pc' := 4) cx in_X9 0 rfl rfl 0 (Nat.le_of_ble_eq_true rfl) fl_RX9_32 rfl dX9_seed_1 rfl ?_
  refine sw_getN (pc' := 7) cx in_X4 1 rfl rfl 9 (Nat.le_of_ble_eq_true rfl) fn_RX9_181 rfl dX9_seed_4 rfl ?_
  refine sw_istore_n (pc' := 8) (i := 2) (lv' := [(2, .int (mu.1 0 3)), (0, .ref (g 0)), (1, .int a0)]) cx dX9_seed_7 rfl (Nat.le_of_ble_eq_true rfl) rfl rfl ?_
  refine sw_aload_n (pc' := 9) (i := 0) cx dX9_seed_8 rfl 1 rfl rfl ?_
  refine sw_get (pc' := 12) cx in_X9 0 rfl rfl 0 (Nat.le_of_ble_eq_true rfl) fl_RX9_32 rfl dX9_seed_9 rfl ?_
  refine sw_iload_n (pc' := 13) (i := 1) cx dX9_seed_12 rfl 2 rfl rfl ?_
  refine sw_putN (pc' := 16) (ws' := (sx_W g m0 m1 m2 ka sa sn cI cJ cK cS (mt_mk (mu.1 0 0) (mu.1 0 1) (mu.1 0 2) a0 (mu.1 0 4) (mu.1 1) (mu.1 2) (mu.1 3) (mu.1 4) (mu.1 5) (mu.1 6) (mu.1 7) (mu.1 8) (mu.1 9) mu.2) tr ke kp tby tlen ttok tsta tbeh tnum ttak sh fi)) cx in_X4 tyX4 tyX4_ok nmX4 1 rfl rfl 9 (Nat.le_of_ble_eq_true rfl) fn_RX9_181 rfl rfl rfl (Nat.le_of_ble_eq_true rfl) dX9_seed_13 rfl rfl ?_
  refine sw_iload_n (pc' := 17) (i := 2) cx dX9_seed_16 rfl 0 rfl rfl ?_
  obtain rfl := Option.some.inj hf
  exact sw_iret cx hr hQ dX9_seed_17
abbrev rm_X9_now : Room := ({ frames := 2, cells := 0, slots := 0, locals := 43 } : Room)
set_option maxRecDepth 100000 in
set_option maxHeartbeats 4000000 in
theorem k_X9_now (l : Launch) (D : sf_D) (g m0 m1 m2 ka sa sn : Nat → Nat) (cI cJ cK cS : ClassId) (mu : MtS) (tr : MtS) (ke : MtS) (kp : Int32) (tby : Nat → Int32) (tlen : Int32) (ttok : Int32) (tsta : Int32) (tbeh : Int32) (tnum : Int32) (ttak : Int32) (sh : Nat → ShS) (fi : Nat → Int32) (a0 : Int32) (res : Int32 × (Nat → Int32)) (hf : f_X9_now mu fi a0 = some res) : sf_Ct l yX9_now cX9_now 2 (some .int) rm_X9_now D (sf_ty cI cJ cK cS) [.ref (g 0), .int a0] (sx_W g m0 m1 m2 ka sa sn cI cJ cK cS mu tr ke kp tby tlen ttok tsta tbeh tnum ttak sh fi) (some (.int res.1)) (sx_W g m0 m1 m2 ka sa sn cI cJ cK cS mu tr ke kp tby tlen ttok tsta tbeh tnum ttak sh res.2) := by
  refine sf_met (lv := [(0, .ref (g 0)), (1, .int a0)]) (by decide) (Nat.le_of_ble_eq_true rfl) rfl ?_
  intro p e s m args below meth c A Q cx hr hQ
  have cx : sf_Cx p m meth c cX9_now 2 s args RX9 D (sf_ty cI cJ cK cS) A := cx
  unfold f_X9_now at hf
  refine sw_iload_n (pc' := 1) (i := 1) cx dX9_now_0 rfl 1 rfl rfl ?_
  by_cases c1 : a0 = (0 : Int32)
  · replace hf := it_p c1 hf
    refine sw_tableEq (tgt := 36) cx c1 dX9_now_1 (by decide +kernel) (by decide +kernel) rfl (by decide) ?_
    refine sw_aload_n (pc' := 37) (i := 0) cx dX9_now_36 rfl 0 rfl rfl ?_
    refine sw_get (pc' := 40) cx in_X9 0 rfl rfl 0 (Nat.le_of_ble_eq_true rfl) fl_RX9_32 rfl dX9_now_37 rfl ?_
    refine sw_getN (pc' := 43) cx in_X4 1 rfl rfl 6 (Nat.le_of_ble_eq_true rfl) fn_RX9_184 rfl dX9_now_40 rfl ?_
    obtain rfl := Option.some.inj hf
    exact sw_iret cx hr hQ dX9_now_43
  replace hf := it_n c1 hf
  by_cases c2 : a0 = (1 : Int32)
  · replace hf := it_p c2 hf
    refine sw_tableEq (tgt := 44) cx c2 dX9_now_1 (by decide +kernel) (by decide +kernel) rfl (by decide) ?_
    refine sw_aload_n (pc' := 45) (i := 0) cx dX9_now_44 rfl 0 rfl rfl ?_
    refine sw_get (pc' := 48) cx in_X9 0 rfl rfl 0 (Nat.le_of_ble_eq_true rfl) fl_RX9_32 rfl dX9_now_45 rfl ?_
    refine sw_getN (pc' := 51) cx in_X4 1 rfl rfl 7 (Nat.le_of_ble_eq_true rfl) fn_RX9_75 rfl dX9_now_48 rfl ?_
    obtain rfl := Option.some.inj hf
    exact sw_iret cx hr hQ dX9_now_51
  replace hf := it_n c2 hf
  by_cases c3 : a0 = (2 : Int32)
  · replace hf := it_p c3 hf
    refine sw_tableEq (tgt := 52) cx c3 dX9_now_1 (by decide +kernel) (by decide +kernel) rfl (by decide) ?_
    refine sw_aload_n (pc' := 53) (i := 0) cx dX9_now_52 rfl 0 rfl rfl ?_
    refine sw_get (pc' := 56) cx in_X9 0 rfl rfl 0 (Nat.le_of_ble_eq_true rfl) fl_RX9_32 rfl dX9_now_53 rfl ?_
    refine sw_getN (pc' := 59) cx in_X4 1 rfl rfl 8 (Nat.le_of_ble_eq_true rfl) fn_RX9_79 rfl dX9_now_56 rfl ?_
    obtain rfl := Option.some.inj hf
    exact sw_iret cx hr hQ dX9_now_59
  replace hf := it_n c3 hf
  by_cases c4 : a0 = (3 : Int32)
  · replace hf := it_p c4 hf
    refine sw_tableEq (tgt := 60) cx c4 dX9_now_1 (by decide +kernel) (by decide +kernel) rfl (by decide) ?_
    refine sw_aload_n (pc' := 61) (i := 0) cx dX9_now_60 rfl 0 rfl rfl ?_
    refine sw_get (pc' := 64) cx in_X9 0 rfl rfl 0 (Nat.le_of_ble_eq_true rfl) fl_RX9_32 rfl dX9_now_61 rfl ?_
    obtain ⟨r5, hr5, hf⟩ := bd_s hf
    refine sw_callV (pc' := 67) (As := []) (rest := []) cx (k_X4_wholePlaces l D m0 (g 5) ka cI cJ cK cS mu  r5 hr5) pk_yX4_wholePlaces ml_RX9_178 ⟨rfl, rfl⟩ ⟨(Nat.le_of_ble_eq_true rfl), (Nat.le_of_ble_eq_true rfl)⟩ ⟨(Nat.le_of_ble_eq_true rfl), (Nat.le_of_ble_eq_true rfl)⟩ [1, 2, 3, 4, 5, 6, 7, 8, 9, 10, 31, 32, 33, 34, 35, 36, 37] sx_C_mu sx_n_mu (mt_fst _ _ _ _ _ _ _) (wn := (sx_W g m0 m1 m2 ka sa sn cI cJ cK cS mu tr ke kp tby tlen ttok tsta tbeh tnum ttak sh fi)) sx_w_mu 0 rfl rfl rfl rfl (Nat.le_of_ble_eq_true rfl) rfl dX9_now_64 rfl ?_
    obtain rfl := Option.some.inj hf
    exact sw_iret cx hr hQ dX9_now_67
  replace hf := it_n c4 hf
  by_cases c6 : a0 = (4 : Int32)
  · replace hf := it_p c6 hf
    refine sw_tableEq (tgt := 68) cx c6 dX9_now_1 (by decide +kernel) (by decide +kernel) rfl (by decide) ?_
    refine sw_aload_n (pc' := 69) (i := 0) cx dX9_now_68 rfl 0 rfl rfl ?_
    refine sw_get (pc' := 72) cx in_X9 0 rfl rfl 0 (Nat.le_of_ble_eq_true rfl) fl_RX9_32 rfl dX9_now_69 rfl ?_
    obtain ⟨r7, hr7, hf⟩ := bd_s hf
    refine sw_callV (pc' := 75) (As := []) (rest := []) cx (k_X4_owedByAll l D m0 (g 5) ka cI cJ cK cS mu  r7 hr7) pk_yX4_owedByAll ml_RX9_187 ⟨rfl, rfl⟩ ⟨(Nat.le_of_ble_eq_true rfl), (Nat.le_of_ble_eq_true rfl)⟩ ⟨(Nat.le_of_ble_eq_true rfl), (Nat.le_of_ble_eq_true rfl)⟩ [1, 2, 3, 4, 5, 6, 7, 8, 9, 10, 31, 32, 33, 34, 35, 36, 37] sx_C_mu sx_n_mu (mt_fst _ _ _ _ _ _ _) (wn := (sx_W g m0 m1 m2 ka sa sn cI cJ cK cS mu tr ke kp tby tlen ttok tsta tbeh tnum ttak sh fi)) sx_w_mu 0 rfl rfl rfl rfl (Nat.le_of_ble_eq_true rfl) rfl dX9_now_72 rfl ?_
    obtain rfl := Option.some.inj hf
    exact sw_iret cx hr hQ dX9_now_75
  replace hf := it_n c6 hf
  refine sw_tableOut (tgt := 76) cx dX9_now_1 (by have := sf_ne (k := 0) c1 (by decide +kernel); have := sf_ne (k := 1) c2 (by decide +kernel); have := sf_ne (k := 2) c3 (by decide +kernel); have := sf_ne (k := 3) c4 (by decide +kernel); have := sf_ne (k := 4) c6 (by decide +kernel); omega) (by decide) ?_
  refine sw_aload_n (pc' := 77) (i := 0) cx dX9_now_76 rfl 0 rfl rfl ?_
  refine sw_iconst (pc' := 78) (v := 0) cx dX9_now_77 iconst_0 rfl ?_
  obtain ⟨r8, hr8, hf⟩ := bd_s hf
  refine sw_callVw (pc' := 81) (As := [.int (0 : Int32)]) (rest := []) (w' := (sx_W g m0 m1 m2 ka sa sn cI cJ cK cS mu tr ke kp tby tlen ttok tsta tbeh tnum ttak sh r8.2)) cx (k_X9_found l D g m0 m1 m2 ka sa sn cI cJ cK cS mu tr ke kp tby tlen ttok tsta tbeh tnum ttak sh fi (0 : Int32) r8 hr8) pk_yX9_found ml_RX9_68 ⟨rfl, rfl⟩ ⟨(Nat.le_of_ble_eq_true rfl), (Nat.le_of_ble_eq_true rfl)⟩ ⟨(Nat.le_of_ble_eq_true rfl), (Nat.le_of_ble_eq_true rfl)⟩ 0 rfl rfl rfl rfl (Nat.le_of_ble_eq_true rfl) rfl dX9_now_78 rfl ?_
  obtain rfl := Option.some.inj hf
  exact sw_iret cx hr hQ dX9_now_81
