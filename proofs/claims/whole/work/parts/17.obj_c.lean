abbrev rm_X9_feed : Room := ({ frames := 2, cells := 0, slots := 0, locals := 43 } : Room)
set_option maxRecDepth 100000 in
set_option maxHeartbeats 4000000 in
theorem k_X9_feed (l : Launch) (D : sf_D) (g m0 m1 m2 ka sa sn : Nat → Nat) (cI cJ cK cS : ClassId) (mu : MtS) (tr : MtS) (ke : MtS) (kp : Int32) (tby : Nat → Int32) (tlen : Int32) (ttok : Int32) (tsta : Int32) (tbeh : Int32) (tnum : Int32) (ttak : Int32) (sh : Nat → ShS) (fi : Nat → Int32) (a0 : Int32) (a1 : Int32) (res : Int32 × (Nat → Int32) × Int32 × (Nat → Int32)) (hf : f_X9_feed tby tlen fi a0 a1 = some res) : sf_Ct l yX9_feed cX9_feed 4 (some .int) rm_X9_feed D (sf_ty cI cJ cK cS) [.ref (g 0), .int a0, .int a1] (sx_W g m0 m1 m2 ka sa sn cI cJ cK cS mu tr ke kp tby tlen ttok tsta tbeh tnum ttak sh fi) (some (.int res.1)) (sx_W g m0 m1 m2 ka sa sn cI cJ cK cS mu tr ke kp res.2.1 res.2.2.1 ttok tsta tbeh tnum ttak sh res.2.2.2) := by
  refine sf_met (lv := [(0, .ref (g 0)), (1, .int a0), (2, .int a1)]) (by decide) (Nat.le_of_ble_eq_true rfl) rfl ?_
  intro p e s m args below meth c A Q cx hr hQ
  have cx : sf_Cx p m meth c cX9_feed 4 s args RX9 D (sf_ty cI cJ cK cS) A := cx
  have B39 : ∀ (n : Nat), ∀ (tby : Nat → Int32) (tlen : Int32) (fi : Nat → Int32) (x1 : Int32) (x3 : Int32), f_X9_feed_b39 n tby tlen fi x1 x3 = some res → sf_W p l e rm_X9_feed s m args below meth c 0 0 Q 4 D A (sx_W g m0 m1 m2 ka sa sn cI cJ cK cS mu tr ke kp tby tlen ttok tsta tbeh tnum ttak sh fi) [(0, .ref (g 0)), (1, .int x1), (3, .int x3)] 39 [] := by
    intro n
    induction n with
    | zero => intro tby tlen fi x1 x3 hf; rw [f_X9_feed_b39] at hf; cases hf
    | succ n ih =>
      intro tby tlen fi x1 x3 hf
      rw [f_X9_feed_b39] at hf
      refine sw_iload_n (pc' := 40) (i := 3) cx dX9_feed_39 rfl 2 rfl rfl ?_
      refine sw_if_lt (pc' := 43) (tgt := 66) cx dX9_feed_40 (by decide) rfl (fun c6 => ?_) (fun c6 => ?_)
      · replace hf := it_p c6 hf
        refine sw_aload_n (pc' := 67) (i := 0) cx dX9_feed_66 rfl 0 rfl rfl ?_
        refine sw_get (pc' := 70) cx in_X9 0 rfl rfl 4 (Nat.le_of_ble_eq_true rfl) fl_RX9_45 rfl dX9_feed_67 rfl ?_
        refine sw_getN (pc' := 73) cx in_X8 38 rfl rfl 2 (Nat.le_of_ble_eq_true rfl) fn_RX9_204 rfl dX9_feed_70 rfl ?_
        obtain rfl := Option.some.inj hf
        exact sw_iret cx hr hQ dX9_feed_73
      · replace hf := it_n c6 hf
        refine sw_aload_n (pc' := 44) (i := 0) cx dX9_feed_43 rfl 0 rfl rfl ?_
        refine sw_get (pc' := 47) cx in_X9 0 rfl rfl 4 (Nat.le_of_ble_eq_true rfl) fl_RX9_45 rfl dX9_feed_44 rfl ?_
        refine sw_iload_n (pc' := 48) (i := 1) cx dX9_feed_47 rfl 1 rfl rfl ?_
        refine sw_bipush (pc' := 50) (v := 8) cx dX9_feed_48 bipush_8 rfl ?_
        refine sw_iload_n (pc' := 51) (i := 3) cx dX9_feed_50 rfl 2 rfl rfl ?_
        refine sw_imul (pc' := 52) cx dX9_feed_51 rfl ?_
        refine sw_iushr (pc' := 53) cx dX9_feed_52 rfl ?_
        refine sw_sipush (pc' := 56) (v := 255) cx dX9_feed_53 sipush_255 rfl ?_
        refine sw_iand (pc' := 57) cx dX9_feed_56 rfl ?_
        obtain ⟨r7, hr7, hf⟩ := bd_s hf
        refine sw_callV (pc' := 60) (As := [.int ((((x1).toUInt32 >>> ((((8 : Int32) * x3)).toUInt32 &&& Int32.toUInt32 31)).toInt32) &&& (255 : Int32))]) (rest := []) cx (k_X8_append l D (g 1) (g 2) (g 5) cI cJ cK cS tby tlen ttok tsta tbeh tnum ttak ((((x1).toUInt32 >>> ((((8 : Int32) * x3)).toUInt32 &&& Int32.toUInt32 31)).toInt32) &&& (255 : Int32)) r7 hr7) pk_yX8_append ml_RX9_207 ⟨rfl, rfl⟩ ⟨(Nat.le_of_ble_eq_true rfl), (Nat.le_of_ble_eq_true rfl)⟩ ⟨(Nat.le_of_ble_eq_true rfl), (Nat.le_of_ble_eq_true rfl)⟩ [38, 39] sx_C_tape sx_n_tape rfl (wn := (sx_W g m0 m1 m2 ka sa sn cI cJ cK cS mu tr ke kp r7.1 r7.2 ttok tsta tbeh tnum ttak sh fi)) sx_w_tape 0 rfl rfl rfl rfl (Nat.le_of_ble_eq_true rfl) rfl dX9_feed_57 rfl ?_
        refine sw_iinc (pc' := 63) (v := (x3 + (-1 : Int32))) (lv' := [(3, .int (x3 + (-1 : Int32))), (0, .ref (g 0)), (1, .int x1)]) cx dX9_feed_60 2 rfl rfl (Nat.le_of_ble_eq_true rfl) rfl rfl ?_
        refine sw_goto (tgt := 39) cx dX9_feed_63 (by decide) ?_
        exact sw_lv [1, 2, 0] rfl (ih r7.1 r7.2 fi x1 (x3 + (-1 : Int32)) hf)
  unfold f_X9_feed at hf
  refine sw_iload_n (pc' := 1) (i := 2) cx dX9_feed_0 rfl 2 rfl rfl ?_
  refine sw_iconst (pc' := 2) (v := 1) cx dX9_feed_1 iconst_1 rfl ?_
  refine sw_iconst (pc' := 3) (v := 4) cx dX9_feed_2 iconst_4 rfl ?_
  obtain ⟨r1, hr1, hf⟩ := bd_s hf
  refine sw_callS (pc' := 6) (As := [.int a1, .int (1 : Int32), .int (4 : Int32)]) (rest := []) cx (k_X9_isWithin l D cI cJ cK cS a1 (1 : Int32) (4 : Int32) r1 hr1) pk_yX9_isWithin ml_RX9_64 ⟨rfl, rfl⟩ ⟨(Nat.le_of_ble_eq_true rfl), (Nat.le_of_ble_eq_true rfl)⟩ ⟨(Nat.le_of_ble_eq_true rfl), (Nat.le_of_ble_eq_true rfl)⟩ [] rfl rfl rfl (wn := (sx_W g m0 m1 m2 ka sa sn cI cJ cK cS mu tr ke kp tby tlen ttok tsta tbeh tnum ttak sh fi)) rfl rfl (Nat.le_of_ble_eq_true rfl) rfl dX9_feed_3 rfl ?_
  refine sw_if_ne (pc' := 9) (tgt := 15) cx dX9_feed_6 (by decide) rfl (fun c2 => ?_) (fun c2 => ?_)
  · replace hf := it_n c2 hf
    refine sw_aload_n (pc' := 16) (i := 0) cx dX9_feed_15 rfl 0 rfl rfl ?_
    refine sw_get (pc' := 19) cx in_X9 0 rfl rfl 4 (Nat.le_of_ble_eq_true rfl) fl_RX9_45 rfl dX9_feed_16 rfl ?_
    refine sw_getN (pc' := 22) cx in_X8 38 rfl rfl 2 (Nat.le_of_ble_eq_true rfl) fn_RX9_204 rfl dX9_feed_19 rfl ?_
    refine sw_iload_n (pc' := 23) (i := 2) cx dX9_feed_22 rfl 2 rfl rfl ?_
    refine sw_iadd (pc' := 24) cx dX9_feed_23 rfl ?_
    refine sw_bipush (pc' := 26) (v := 120) cx dX9_feed_24 bipush_120 rfl ?_
    refine sw_icmp_le (pc' := 29) (tgt := 35) cx dX9_feed_26 (by decide) rfl (fun c3 => ?_) (fun c3 => ?_)
    · replace hf := it_p c3 hf
      refine sw_iload_n (pc' := 36) (i := 2) cx dX9_feed_35 rfl 2 rfl rfl ?_
      refine sw_iconst (pc' := 37) (v := 1) cx dX9_feed_36 iconst_1 rfl ?_
      refine sw_isub (pc' := 38) cx dX9_feed_37 rfl ?_
      refine sw_istore_n (pc' := 39) (i := 3) (lv' := [(3, .int (a1 - (1 : Int32))), (0, .ref (g 0)), (1, .int a0), (2, .int a1)]) cx dX9_feed_38 rfl (Nat.le_of_ble_eq_true rfl) rfl rfl ?_
      exact sw_lv [1, 2, 0] rfl (B39 1000 tby tlen fi a0 (a1 - (1 : Int32)) hf)
    · replace hf := it_n c3 hf
      refine sw_aload_n (pc' := 30) (i := 0) cx dX9_feed_29 rfl 0 rfl rfl ?_
      refine sw_iconst (pc' := 31) (v := 1) cx dX9_feed_30 iconst_1 rfl ?_
      obtain ⟨r4, hr4, hf⟩ := bd_s hf
      refine sw_callVw (pc' := 34) (As := [.int (1 : Int32)]) (rest := []) (w' := (sx_W g m0 m1 m2 ka sa sn cI cJ cK cS mu tr ke kp tby tlen ttok tsta tbeh tnum ttak sh r4.2)) cx (k_X9_found l D g m0 m1 m2 ka sa sn cI cJ cK cS mu tr ke kp tby tlen ttok tsta tbeh tnum ttak sh fi (1 : Int32) r4 hr4) pk_yX9_found ml_RX9_68 ⟨rfl, rfl⟩ ⟨(Nat.le_of_ble_eq_true rfl), (Nat.le_of_ble_eq_true rfl)⟩ ⟨(Nat.le_of_ble_eq_true rfl), (Nat.le_of_ble_eq_true rfl)⟩ 0 rfl rfl rfl rfl (Nat.le_of_ble_eq_true rfl) rfl dX9_feed_31 rfl ?_
      obtain rfl := Option.some.inj hf
      exact sw_iret cx hr hQ dX9_feed_34
  · replace hf := it_p c2 hf
    refine sw_aload_n (pc' := 10) (i := 0) cx dX9_feed_9 rfl 0 rfl rfl ?_
    refine sw_iconst (pc' := 11) (v := 0) cx dX9_feed_10 iconst_0 rfl ?_
    obtain ⟨r5, hr5, hf⟩ := bd_s hf
    refine sw_callVw (pc' := 14) (As := [.int (0 : Int32)]) (rest := []) (w' := (sx_W g m0 m1 m2 ka sa sn cI cJ cK cS mu tr ke kp tby tlen ttok tsta tbeh tnum ttak sh r5.2)) cx (k_X9_found l D g m0 m1 m2 ka sa sn cI cJ cK cS mu tr ke kp tby tlen ttok tsta tbeh tnum ttak sh fi (0 : Int32) r5 hr5) pk_yX9_found ml_RX9_68 ⟨rfl, rfl⟩ ⟨(Nat.le_of_ble_eq_true rfl), (Nat.le_of_ble_eq_true rfl)⟩ ⟨(Nat.le_of_ble_eq_true rfl), (Nat.le_of_ble_eq_true rfl)⟩ 0 rfl rfl rfl rfl (Nat.le_of_ble_eq_true rfl) rfl dX9_feed_11 rfl ?_
    obtain rfl := Option.some.inj hf
    exact sw_iret cx hr hQ dX9_feed_14
abbrev rm_X9_wipe : Room := ({ frames := 0, cells := 0, slots := 0, locals := 0 } : Room)
set_option maxRecDepth 100000 in
set_option maxHeartbeats 4000000 in
theorem k_X9_wipe (l : Launch) (D : sf_D) (g m0 m1 m2 ka sa sn : Nat → Nat) (cI cJ cK cS : ClassId) (mu : MtS) (tr : MtS) (ke : MtS) (kp : Int32) (tby : Nat → Int32) (tlen : Int32) (ttok : Int32) (tsta : Int32) (tbeh : Int32) (tnum : Int32) (ttak : Int32) (sh : Nat → ShS) (fi : Nat → Int32)  (res : Int32 × Int32) (hf : f_X9_wipe tlen = some res) : sf_Ct l yX9_wipe cX9_wipe 2 (some .int) rm_X9_wipe D (sf_ty cI cJ cK cS) [.ref (g 0)] (sx_W g m0 m1 m2 ka sa sn cI cJ cK cS mu tr ke kp tby tlen ttok tsta tbeh tnum ttak sh fi) (some (.int res.1)) (sx_W g m0 m1 m2 ka sa sn cI cJ cK cS mu tr ke kp tby res.2 ttok tsta tbeh tnum ttak sh fi) := by
  refine sf_met (lv := [(0, .ref (g 0))]) (by decide) (Nat.le_of_ble_eq_true rfl) rfl ?_
  intro p e s m args below meth c A Q cx hr hQ
  have cx : sf_Cx p m meth c cX9_wipe 2 s args RX9 D (sf_ty cI cJ cK cS) A := cx
  unfold f_X9_wipe at hf
  refine sw_aload_n (pc' := 1) (i := 0) cx dX9_wipe_0 rfl 0 rfl rfl ?_
  refine sw_get (pc' := 4) cx in_X9 0 rfl rfl 4 (Nat.le_of_ble_eq_true rfl) fl_RX9_45 rfl dX9_wipe_1 rfl ?_
  refine sw_getN (pc' := 7) cx in_X8 38 rfl rfl 2 (Nat.le_of_ble_eq_true rfl) fn_RX9_204 rfl dX9_wipe_4 rfl ?_
  refine sw_istore_n (pc' := 8) (i := 1) (lv' := [(1, .int tlen), (0, .ref (g 0))]) cx dX9_wipe_7 rfl (Nat.le_of_ble_eq_true rfl) rfl rfl ?_
  refine sw_aload_n (pc' := 9) (i := 0) cx dX9_wipe_8 rfl 1 rfl rfl ?_
  refine sw_get (pc' := 12) cx in_X9 0 rfl rfl 4 (Nat.le_of_ble_eq_true rfl) fl_RX9_45 rfl dX9_wipe_9 rfl ?_
  refine sw_iconst (pc' := 13) (v := 0) cx dX9_wipe_12 iconst_0 rfl ?_
  refine sw_putN (pc' := 16) (ws' := (sx_W g m0 m1 m2 ka sa sn cI cJ cK cS mu tr ke kp tby (0 : Int32) ttok tsta tbeh tnum ttak sh fi)) cx in_X8 tyX8 tyX8_ok nmX8 38 rfl rfl 2 (Nat.le_of_ble_eq_true rfl) fn_RX9_204 rfl rfl rfl (Nat.le_of_ble_eq_true rfl) dX9_wipe_13 rfl rfl ?_
  refine sw_iload_n (pc' := 17) (i := 1) cx dX9_wipe_16 rfl 0 rfl rfl ?_
  obtain rfl := Option.some.inj hf
  exact sw_iret cx hr hQ dX9_wipe_17
abbrev rm_X9_court : Room := ({ frames := 9, cells := 0, slots := 0, locals := 197 } : Room)
set_option maxRecDepth 100000 in
set_option maxHeartbeats 4000000 in
theorem k_X9_court (l : Launch) (D : sf_D) (g m0 m1 m2 ka sa sn : Nat → Nat) (cI cJ cK cS : ClassId) (mu : MtS) (tr : MtS) (ke : MtS) (kp : Int32) (tby : Nat → Int32) (tlen : Int32) (ttok : Int32) (tsta : Int32) (tbeh : Int32) (tnum : Int32) (ttak : Int32) (sh : Nat → ShS) (fi : Nat → Int32)  (res : Int32 × MtS × MtS × Int32 × Int32 × Int32 × Int32 × Int32 × Int32) (hf : f_X9_court mu tr tby tlen ttok tsta tbeh tnum ttak = some res) : sf_Ct l yX9_court cX9_court 2 (some .int) rm_X9_court D (sf_ty cI cJ cK cS) [.ref (g 0)] (sx_W g m0 m1 m2 ka sa sn cI cJ cK cS mu tr ke kp tby tlen ttok tsta tbeh tnum ttak sh fi) (some (.int res.1)) (sx_W g m0 m1 m2 ka sa sn cI cJ cK cS res.2.1 res.2.2.1 ke kp tby res.2.2.2.1 res.2.2.2.2.1 res.2.2.2.2.2.1 res.2.2.2.2.2.2.1 res.2.2.2.2.2.2.2.1 res.2.2.2.2.2.2.2.2 sh fi) := by
  refine sf_met (lv := [(0, .ref (g 0))]) (by decide) (Nat.le_of_ble_eq_true rfl) rfl ?_
  intro p e s m args below meth c A Q cx hr hQ
  have cx : sf_Cx p m meth c cX9_court 2 s args RX9 D (sf_ty cI cJ cK cS) A := cx
  have B31 : ∀ (mu : MtS) (tr : MtS) (tlen : Int32) (ttok : Int32) (tsta : Int32) (tbeh : Int32) (tnum : Int32) (ttak : Int32) (x1 : Int32), f_X9_court_b31 tby mu tr tlen ttok tsta tbeh tnum ttak x1 = some res → sf_W p l e rm_X9_court s m args below meth c 0 0 Q 2 D A (sx_W g m0 m1 m2 ka sa sn cI cJ cK cS mu tr ke kp tby tlen ttok tsta tbeh tnum ttak sh fi) [(0, .ref (g 0)), (1, .int x1)] 31 [] := by
    intro mu tr tlen ttok tsta tbeh tnum ttak x1 hf
    unfold f_X9_court_b31 at hf
    refine sw_aload_n (pc' := 32) (i := 0) cx dX9_court_31 rfl 0 rfl rfl ?_
    refine sw_get (pc' := 35) cx in_X9 0 rfl rfl 4 (Nat.le_of_ble_eq_true rfl) fl_RX9_45 rfl dX9_court_32 rfl ?_
    refine sw_iconst (pc' := 36) (v := 0) cx dX9_court_35 iconst_0 rfl ?_
    refine sw_putN (pc' := 39) (ws' := (sx_W g m0 m1 m2 ka sa sn cI cJ cK cS mu tr ke kp tby (0 : Int32) ttok tsta tbeh tnum ttak sh fi)) cx in_X8 tyX8 tyX8_ok nmX8 38 rfl rfl 2 (Nat.le_of_ble_eq_true rfl) fn_RX9_204 rfl rfl rfl (Nat.le_of_ble_eq_true rfl) dX9_court_36 rfl rfl ?_
    refine sw_iload_n (pc' := 40) (i := 1) cx dX9_court_39 rfl 1 rfl rfl ?_
    obtain rfl := Option.some.inj hf
    exact sw_iret cx hr hQ dX9_court_40
  unfold f_X9_court at hf
  refine sw_aload_n (pc' := 1) (i := 0) cx dX9_court_0 rfl 0 rfl rfl ?_
  obtain ⟨r1, hr1, hf⟩ := bd_s hf
  refine sw_callVw (pc' := 4) (As := []) (rest := []) (w' := (sx_W g m0 m1 m2 ka sa sn cI cJ cK cS mu r1 ke kp tby tlen ttok tsta tbeh tnum ttak sh fi)) cx (k_X9_startTrial l D g m0 m1 m2 ka sa sn cI cJ cK cS mu tr ke kp tby tlen ttok tsta tbeh tnum ttak sh fi  r1 hr1) pk_yX9_startTrial ml_RX9_190 ⟨rfl, rfl⟩ ⟨(Nat.le_of_ble_eq_true rfl), (Nat.le_of_ble_eq_true rfl)⟩ ⟨(Nat.le_of_ble_eq_true rfl), (Nat.le_of_ble_eq_true rfl)⟩ 0 rfl rfl rfl rfl (Nat.le_of_ble_eq_true rfl) rfl dX9_court_1 rfl ?_
  refine sw_aload_n (pc' := 5) (i := 0) cx dX9_court_4 rfl 0 rfl rfl ?_
  refine sw_get (pc' := 8) cx in_X9 0 rfl rfl 4 (Nat.le_of_ble_eq_true rfl) fl_RX9_45 rfl dX9_court_5 rfl ?_
  refine sw_aload_n (pc' := 9) (i := 0) cx dX9_court_8 rfl 0 rfl rfl ?_
  refine sw_get (pc' := 12) cx in_X9 0 rfl rfl 1 (Nat.le_of_ble_eq_true rfl) fl_RX9_36 rfl dX9_court_9 rfl ?_
  obtain ⟨r2, hr2, hf⟩ := bd_s hf
  refine sw_callV (pc' := 15) (As := [.ref (m1 0)]) (rest := []) cx (k_X8_tell l D (g 1) (g 2) m1 (g 5) ka cI cJ cK cS tby tlen ttok tsta tbeh tnum ttak r1  r2 hr2) pk_yX8_tell ml_RX9_210 ⟨rfl, rfl⟩ ⟨(Nat.le_of_ble_eq_true rfl), (Nat.le_of_ble_eq_true rfl)⟩ ⟨(Nat.le_of_ble_eq_true rfl), (Nat.le_of_ble_eq_true rfl)⟩ [38, 39, 11, 12, 13, 14, 15, 16, 17, 18, 19, 20, 31, 32, 33, 34, 35, 36, 37] sx_C_tapem sx_n_tapem rfl (wn := (sx_W g m0 m1 m2 ka sa sn cI cJ cK cS mu r2.2.2.2.2.2.2 ke kp tby tlen r2.2.1 r2.2.2.1 r2.2.2.2.1 r2.2.2.2.2.1 r2.2.2.2.2.2.1 sh fi)) sx_w_tapem 0 rfl rfl rfl rfl (Nat.le_of_ble_eq_true rfl) rfl dX9_court_12 rfl ?_
  refine sw_istore_n (pc' := 16) (i := 1) (lv' := [(1, .int r2.1), (0, .ref (g 0))]) cx dX9_court_15 rfl (Nat.le_of_ble_eq_true rfl) rfl rfl ?_
  refine sw_iload_n (pc' := 17) (i := 1) cx dX9_court_16 rfl 0 rfl rfl ?_
  refine sw_if_lt (pc' := 20) (tgt := 31) cx dX9_court_17 (by decide) rfl (fun c3 => ?_) (fun c3 => ?_)
  · replace hf := it_p c3 hf
    exact sw_lv [1, 0] rfl (B31 mu r2.2.2.2.2.2.2 tlen r2.2.1 r2.2.2.1 r2.2.2.2.1 r2.2.2.2.2.1 r2.2.2.2.2.2.1 r2.1 hf)
  · replace hf := it_n c3 hf
    refine sw_aload_n (pc' := 21) (i := 0) cx dX9_court_20 rfl 1 rfl rfl ?_
    refine sw_get (pc' := 24) cx in_X9 0 rfl rfl 0 (Nat.le_of_ble_eq_true rfl) fl_RX9_32 rfl dX9_court_21 rfl ?_
    refine sw_aload_n (pc' := 25) (i := 0) cx dX9_court_24 rfl 1 rfl rfl ?_
    refine sw_get (pc' := 28) cx in_X9 0 rfl rfl 1 (Nat.le_of_ble_eq_true rfl) fl_RX9_36 rfl dX9_court_25 rfl ?_
    obtain ⟨r4, hr4, hf⟩ := bd_s hf
    refine sw_callV (pc' := 31) (As := [.ref (m1 0)]) (rest := []) cx (k_X4_become l D m0 m1 (g 5) (g 5) cI cJ cK cS mu r2.2.2.2.2.2.2  r4 hr4) pk_yX4_become ml_RX9_214 ⟨rfl, rfl⟩ ⟨(Nat.le_of_ble_eq_true rfl), (Nat.le_of_ble_eq_true rfl)⟩ ⟨(Nat.le_of_ble_eq_true rfl), (Nat.le_of_ble_eq_true rfl)⟩ [1, 2, 3, 4, 5, 6, 7, 8, 9, 10, 11, 12, 13, 14, 15, 16, 17, 18, 19, 20] sx_C_mu_tr sx_n_mu_tr (mm_fst _ _ _ _ _ _ _ _) (wn := (sx_W g m0 m1 m2 ka sa sn cI cJ cK cS r4 r2.2.2.2.2.2.2 ke kp tby tlen r2.2.1 r2.2.2.1 r2.2.2.2.1 r2.2.2.2.2.1 r2.2.2.2.2.2.1 sh fi)) sx_w_mu_tr 0 rfl rfl rfl rfl (Nat.le_of_ble_eq_true rfl) rfl dX9_court_28 rfl ?_
    exact sw_lv [1, 0] rfl (B31 r4 r2.2.2.2.2.2.2 tlen r2.2.1 r2.2.2.1 r2.2.2.2.1 r2.2.2.2.2.1 r2.2.2.2.2.2.1 r2.1 hf)
abbrev rm_X9_sheet : Room := ({ frames := 2, cells := 0, slots := 0, locals := 46 } : Room)
set_option maxRecDepth 100000 in
set_option maxHeartbeats 4000000 in
theorem k_X9_sheet (l : Launch) (D : sf_D) (g m0 m1 m2 ka sa sn : Nat → Nat) (cI cJ cK cS : ClassId) (mu : MtS) (tr : MtS) (ke : MtS) (kp : Int32) (tby : Nat → Int32) (tlen : Int32) (ttok : Int32) (tsta : Int32) (tbeh : Int32) (tnum : Int32) (ttak : Int32) (sh : Nat → ShS) (fi : Nat → Int32) (a0 : Int32) (a1 : Int32) (a2 : Int32) (res : Int32 × (Nat → ShS) × (Nat → Int32)) (hf : f_X9_sheet sh fi a0 a1 a2 = some res) : sf_Ct l yX9_sheet cX9_sheet 4 (some .int) rm_X9_sheet D (sf_ty cI cJ cK cS) [.ref (g 0), .int a0, .int a1, .int a2] (sx_W g m0 m1 m2 ka sa sn cI cJ cK cS mu tr ke kp tby tlen ttok tsta tbeh tnum ttak sh fi) (some (.int res.1)) (sx_W g m0 m1 m2 ka sa sn cI cJ cK cS mu tr ke kp tby tlen ttok tsta tbeh tnum ttak res.2.1 res.2.2) := by
  refine sf_met (lv := [(0, .ref (g 0)), (1, .int a0), (2, .int a1), (3, .int a2)]) (by decide) (Nat.le_of_ble_eq_true rfl) rfl ?_
  intro p e s m args below meth c A Q cx hr hQ
  have cx : sf_Cx p m meth c cX9_sheet 4 s args RX9 D (sf_ty cI cJ cK cS) A := cx
  have B29 : ∀ (sh : Nat → ShS) (fi : Nat → Int32), f_X9_sheet_b29 sh fi = some res → sf_W p l e rm_X9_sheet s m args below meth c 0 0 Q 4 D A (sx_W g m0 m1 m2 ka sa sn cI cJ cK cS mu tr ke kp tby tlen ttok tsta tbeh tnum ttak sh fi) [(0, .ref (g 0))] 29 [] := by
    intro sh fi hf
    unfold f_X9_sheet_b29 at hf
    refine sw_aload_n (pc' := 30) (i := 0) cx dX9_sheet_29 rfl 0 rfl rfl ?_
    refine sw_iconst (pc' := 31) (v := 0) cx dX9_sheet_30 iconst_0 rfl ?_
    obtain ⟨r7, hr7, hf⟩ := bd_s hf
    refine sw_callVw (pc' := 34) (As := [.int (0 : Int32)]) (rest := []) (w' := (sx_W g m0 m1 m2 ka sa sn cI cJ cK cS mu tr ke kp tby tlen ttok tsta tbeh tnum ttak sh r7.2)) cx (k_X9_found l D g m0 m1 m2 ka sa sn cI cJ cK cS mu tr ke kp tby tlen ttok tsta tbeh tnum ttak sh fi (0 : Int32) r7 hr7) pk_yX9_found ml_RX9_68 ⟨rfl, rfl⟩ ⟨(Nat.le_of_ble_eq_true rfl), (Nat.le_of_ble_eq_true rfl)⟩ ⟨(Nat.le_of_ble_eq_true rfl), (Nat.le_of_ble_eq_true rfl)⟩ 0 rfl rfl rfl rfl (Nat.le_of_ble_eq_true rfl) rfl dX9_sheet_31 rfl ?_
    obtain rfl := Option.some.inj hf
    exact sw_iret cx hr hQ dX9_sheet_34
  have B35 : ∀ (sh : Nat → ShS) (fi : Nat → Int32) (x1 : Int32) (x2 : Int32) (x3 : Int32), f_X9_sheet_b35 sh fi x1 x2 x3 = some res → sf_W p l e rm_X9_sheet s m args below meth c 0 0 Q 4 D A (sx_W g m0 m1 m2 ka sa sn cI cJ cK cS mu tr ke kp tby tlen ttok tsta tbeh tnum ttak sh fi) [(0, .ref (g 0)), (1, .int x1), (2, .int x2), (3, .int x3)] 35 [] := by
    intro sh fi x1 x2 x3 hf
    unfold f_X9_sheet_b35 at hf
    refine sw_iload_n (pc' := 36) (i := 3) cx dX9_sheet_35 rfl 3 rfl rfl ?_
    refine sw_if_ge (pc' := 39) (tgt := 46) cx dX9_sheet_36 (by decide) rfl (fun c8 => ?_) (fun c8 => ?_)
    · replace hf := it_p c8 hf
      refine sw_iload_n (pc' := 47) (i := 3) cx dX9_sheet_46 rfl 3 rfl rfl ?_
      refine sw_bipush (pc' := 49) (v := 40) cx dX9_sheet_47 bipush_40 rfl ?_
      refine sw_icmp_le (pc' := 52) (tgt := 58) cx dX9_sheet_49 (by decide) rfl (fun c9 => ?_) (fun c9 => ?_)
      · replace hf := it_p c9 hf
        refine sw_aload_n (pc' := 59) (i := 0) cx dX9_sheet_58 rfl 0 rfl rfl ?_
        refine sw_get (pc' := 62) cx in_X9 0 rfl rfl 5 (Nat.le_of_ble_eq_true rfl) fl_RX9_52 rfl dX9_sheet_59 rfl ?_
        refine sw_iload_n (pc' := 63) (i := 1) cx dX9_sheet_62 rfl 1 rfl rfl ?_
        obtain ⟨h10, hf⟩ := gx_s hf
        refine sw_aaldS (pc' := 64) cx 40 3 rfl rfl h10 dX9_sheet_63 rfl ?_
        refine sw_iload_n (pc' := 65) (i := 2) cx dX9_sheet_64 rfl 2 rfl rfl ?_
        refine sw_iload_n (pc' := 66) (i := 3) cx dX9_sheet_65 rfl 3 rfl rfl ?_
        obtain ⟨h11, hf⟩ := gk_s hf
        obtain ⟨r12, hr12, hf⟩ := bd_s hf
        refine sw_callV (pc' := 69) (As := [.int x2, .int x3]) (rest := []) cx (k_X7_layOut l D (sa (x1).toNatClampNeg) (sn (x1).toNatClampNeg) cI cJ cK cS ((sh (x1).toNatClampNeg).1) ((sh (x1).toNatClampNeg).2.1) ((sh (x1).toNatClampNeg).2.2) x2 x3 r12 hr12) pk_yX7_layOut ml_RX9_221 ⟨rfl, rfl⟩ ⟨(Nat.le_of_ble_eq_true rfl), (Nat.le_of_ble_eq_true rfl)⟩ ⟨(Nat.le_of_ble_eq_true rfl), (Nat.le_of_ble_eq_true rfl)⟩ [41 + 2 * (x1).toNatClampNeg, 42 + 2 * (x1).toNatClampNeg] (sx_sC h11) (sx_nd (x1).toNatClampNeg) rfl (wn := (sx_W g m0 m1 m2 ka sa sn cI cJ cK cS mu tr ke kp tby tlen ttok tsta tbeh tnum ttak (sh_up sh (x1).toNatClampNeg (r12.1, r12.2.1, r12.2.2)) fi)) (sx_sw h11) 0 rfl rfl rfl rfl (Nat.le_of_ble_eq_true rfl) rfl dX9_sheet_66 rfl ?_
        refine sw_aload_n (pc' := 70) (i := 0) cx dX9_sheet_69 rfl 0 rfl rfl ?_
        refine sw_get (pc' := 73) cx in_X9 0 rfl rfl 5 (Nat.le_of_ble_eq_true rfl) fl_RX9_52 rfl dX9_sheet_70 rfl ?_
        refine sw_iload_n (pc' := 74) (i := 1) cx dX9_sheet_73 rfl 1 rfl rfl ?_
        obtain ⟨h13, hf⟩ := gx_s hf
        refine sw_aaldS (pc' := 75) cx 40 3 rfl rfl h13 dX9_sheet_74 rfl ?_
        obtain ⟨h14, hf⟩ := gk_s hf
        refine sw_getN (pc' := 78) cx in_X7 (41 + 2 * (x1).toNatClampNeg) (sx_so h14) rfl 2 (Nat.le_of_ble_eq_true rfl) fn_RX9_224 rfl dX9_sheet_75 rfl ?_
        obtain rfl := Option.some.inj hf
        exact sw_iret cx hr hQ dX9_sheet_78
      · replace hf := it_n c9 hf
        refine sw_aload_n (pc' := 53) (i := 0) cx dX9_sheet_52 rfl 0 rfl rfl ?_
        refine sw_iconst (pc' := 54) (v := 0) cx dX9_sheet_53 iconst_0 rfl ?_
        obtain ⟨r15, hr15, hf⟩ := bd_s hf
        refine sw_callVw (pc' := 57) (As := [.int (0 : Int32)]) (rest := []) (w' := (sx_W g m0 m1 m2 ka sa sn cI cJ cK cS mu tr ke kp tby tlen ttok tsta tbeh tnum ttak sh r15.2)) cx (k_X9_found l D g m0 m1 m2 ka sa sn cI cJ cK cS mu tr ke kp tby tlen ttok tsta tbeh tnum ttak sh fi (0 : Int32) r15 hr15) pk_yX9_found ml_RX9_68 ⟨rfl, rfl⟩ ⟨(Nat.le_of_ble_eq_true rfl), (Nat.le_of_ble_eq_true rfl)⟩ ⟨(Nat.le_of_ble_eq_true rfl), (Nat.le_of_ble_eq_true rfl)⟩ 0 rfl rfl rfl rfl (Nat.le_of_ble_eq_true rfl) rfl dX9_sheet_54 rfl ?_
        obtain rfl := Option.some.inj hf
        exact sw_iret cx hr hQ dX9_sheet_57
    · replace hf := it_n c8 hf
      refine sw_aload_n (pc' := 40) (i := 0) cx dX9_sheet_39 rfl 0 rfl rfl ?_
      refine sw_bipush (pc' := 42) (v := 6) cx dX9_sheet_40 bipush_6 rfl ?_
      obtain ⟨r16, hr16, hf⟩ := bd_s hf
      refine sw_callVw (pc' := 45) (As := [.int (6 : Int32)]) (rest := []) (w' := (sx_W g m0 m1 m2 ka sa sn cI cJ cK cS mu tr ke kp tby tlen ttok tsta tbeh tnum ttak sh r16.2)) cx (k_X9_found l D g m0 m1 m2 ka sa sn cI cJ cK cS mu tr ke kp tby tlen ttok tsta tbeh tnum ttak sh fi (6 : Int32) r16 hr16) pk_yX9_found ml_RX9_68 ⟨rfl, rfl⟩ ⟨(Nat.le_of_ble_eq_true rfl), (Nat.le_of_ble_eq_true rfl)⟩ ⟨(Nat.le_of_ble_eq_true rfl), (Nat.le_of_ble_eq_true rfl)⟩ 0 rfl rfl rfl rfl (Nat.le_of_ble_eq_true rfl) rfl dX9_sheet_42 rfl ?_
      obtain rfl := Option.some.inj hf
      exact sw_iret cx hr hQ dX9_sheet_45
  unfold f_X9_sheet at hf
  refine sw_iload_n (pc' := 1) (i := 1) cx dX9_sheet_0 rfl 1 rfl rfl ?_
  obtain ⟨r1, hr1, hf⟩ := bd_s hf
  refine sw_callS (pc' := 4) (As := [.int a0]) (rest := []) cx (k_X9_isSheet l D cI cJ cK cS a0 r1 hr1) pk_yX9_isSheet ml_RX9_218 ⟨rfl, rfl⟩ ⟨(Nat.le_of_ble_eq_true rfl), (Nat.le_of_ble_eq_true rfl)⟩ ⟨(Nat.le_of_ble_eq_true rfl), (Nat.le_of_ble_eq_true rfl)⟩ [] rfl rfl rfl (wn := (sx_W g m0 m1 m2 ka sa sn cI cJ cK cS mu tr ke kp tby tlen ttok tsta tbeh tnum ttak sh fi)) rfl rfl (Nat.le_of_ble_eq_true rfl) rfl dX9_sheet_1 rfl ?_
  refine sw_if_eq (pc' := 7) (tgt := 29) cx dX9_sheet_4 (by decide) rfl (fun c2 => ?_) (fun c2 => ?_)
  · replace hf := it_p c2 hf
    exact sw_lv [0] rfl (B29 sh fi hf)
  · replace hf := it_n c2 hf
    refine sw_iload_n (pc' := 8) (i := 2) cx dX9_sheet_7 rfl 2 rfl rfl ?_
    refine sw_if_eq (pc' := 11) (tgt := 35) cx dX9_sheet_8 (by decide) rfl (fun c3 => ?_) (fun c3 => ?_)
    · replace hf := it_p c3 hf
      exact sw_lv [0, 1, 2, 3] rfl (B35 sh fi a0 a1 a2 hf)
    · replace hf := it_n c3 hf
      refine sw_iload_n (pc' := 12) (i := 2) cx dX9_sheet_11 rfl 2 rfl rfl ?_
      refine sw_bipush (pc' := 14) (v := 8) cx dX9_sheet_12 bipush_8 rfl ?_
      refine sw_icmp_eq (pc' := 17) (tgt := 35) cx dX9_sheet_14 (by decide) rfl (fun c4 => ?_) (fun c4 => ?_)
      · replace hf := it_p c4 hf
        exact sw_lv [0, 1, 2, 3] rfl (B35 sh fi a0 a1 a2 hf)
      · replace hf := it_n c4 hf
        refine sw_iload_n (pc' := 18) (i := 2) cx dX9_sheet_17 rfl 2 rfl rfl ?_
        refine sw_bipush (pc' := 20) (v := 16) cx dX9_sheet_18 bipush_16 rfl ?_
        refine sw_icmp_eq (pc' := 23) (tgt := 35) cx dX9_sheet_20 (by decide) rfl (fun c5 => ?_) (fun c5 => ?_)
        · replace hf := it_p c5 hf
          exact sw_lv [0, 1, 2, 3] rfl (B35 sh fi a0 a1 a2 hf)
        · replace hf := it_n c5 hf
          refine sw_iload_n (pc' := 24) (i := 2) cx dX9_sheet_23 rfl 2 rfl rfl ?_
          refine sw_bipush (pc' := 26) (v := 64) cx dX9_sheet_24 bipush_64 rfl ?_
          refine sw_icmp_eq (pc' := 29) (tgt := 35) cx dX9_sheet_26 (by decide) rfl (fun c6 => ?_) (fun c6 => ?_)
          · replace hf := it_p c6 hf
            exact sw_lv [0, 1, 2, 3] rfl (B35 sh fi a0 a1 a2 hf)
          · replace hf := it_n c6 hf
            exact sw_lv [0] rfl (B29 sh fi hf)
abbrev rm_X9_write : Room := ({ frames := 2, cells := 0, slots := 0, locals := 45 } : Room)
set_option maxRecDepth 100000 in
set_option maxHeartbeats 4000000 in
theorem k_X9_write (l : Launch) (D : sf_D) (g m0 m1 m2 ka sa sn : Nat → Nat) (cI cJ cK cS : ClassId) (mu : MtS) (tr : MtS) (ke : MtS) (kp : Int32) (tby : Nat → Int32) (tlen : Int32) (ttok : Int32) (tsta : Int32) (tbeh : Int32) (tnum : Int32) (ttak : Int32) (sh : Nat → ShS) (fi : Nat → Int32) (a0 : Int32) (a1 : Int32) (a2 : Int64) (res : Int64 × (Nat → ShS) × (Nat → Int32)) (hf : f_X9_write sh fi a0 a1 a2 = some res) : sf_Ct l yX9_write cX9_write 8 (some .long) rm_X9_write D (sf_ty cI cJ cK cS) [.ref (g 0), .int a0, .int a1, .long a2] (sx_W g m0 m1 m2 ka sa sn cI cJ cK cS mu tr ke kp tby tlen ttok tsta tbeh tnum ttak sh fi) (some (.long res.1)) (sx_W g m0 m1 m2 ka sa sn cI cJ cK cS mu tr ke kp tby tlen ttok tsta tbeh tnum ttak res.2.1 res.2.2) := by
  refine sf_met (lv := [(0, .ref (g 0)), (1, .int a0), (2, .int a1), (3, .long a2)]) (by decide) (Nat.le_of_ble_eq_true rfl) rfl ?_
  intro p e s m args below meth c A Q cx hr hQ
  have cx : sf_Cx p m meth c cX9_write 8 s args RX9 D (sf_ty cI cJ cK cS) A := cx
  unfold f_X9_write at hf
  refine sw_iload_n (pc' := 1) (i := 1) cx dX9_write_0 rfl 1 rfl rfl ?_
  obtain ⟨r1, hr1, hf⟩ := bd_s hf
  refine sw_callS (pc' := 4) (As := [.int a0]) (rest := []) cx (k_X9_isSheet l D cI cJ cK cS a0 r1 hr1) pk_yX9_isSheet ml_RX9_218 ⟨rfl, rfl⟩ ⟨(Nat.le_of_ble_eq_true rfl), (Nat.le_of_ble_eq_true rfl)⟩ ⟨(Nat.le_of_ble_eq_true rfl), (Nat.le_of_ble_eq_true rfl)⟩ [] rfl rfl rfl (wn := (sx_W g m0 m1 m2 ka sa sn cI cJ cK cS mu tr ke kp tby tlen ttok tsta tbeh tnum ttak sh fi)) rfl rfl (Nat.le_of_ble_eq_true rfl) rfl dX9_write_1 rfl ?_
  refine sw_if_ne (pc' := 7) (tgt := 14) cx dX9_write_4 (by decide) rfl (fun c2 => ?_) (fun c2 => ?_)
  · replace hf := it_n c2 hf
    refine sw_aload_n (pc' := 15) (i := 0) cx dX9_write_14 rfl 0 rfl rfl ?_
    refine sw_get (pc' := 18) cx in_X9 0 rfl rfl 5 (Nat.le_of_ble_eq_true rfl) fl_RX9_52 rfl dX9_write_15 rfl ?_
    refine sw_iload_n (pc' := 19) (i := 1) cx dX9_write_18 rfl 1 rfl rfl ?_
    obtain ⟨h3, hf⟩ := gx_s hf
    refine sw_aaldS (pc' := 20) cx 40 3 rfl rfl h3 dX9_write_19 rfl ?_
    refine sw_astore (pc' := 22) (i := 5) (lv' := [(5, .ref (sa (a0).toNatClampNeg)), (0, .ref (g 0)), (1, .int a0), (2, .int a1), (3, .long a2)]) cx dX9_write_20 (Nat.le_of_ble_eq_true rfl) rfl rfl ?_
    refine sw_aload (pc' := 24) (i := 5) cx dX9_write_22 0 rfl rfl ?_
    obtain ⟨h4, hf⟩ := gk_s hf
    obtain ⟨r5, hr5, hf⟩ := bd_s hf
    refine sw_callV (pc' := 27) (As := []) (rest := []) cx (k_X7_isMissing l D (sa (a0).toNatClampNeg) (sn (a0).toNatClampNeg) cI cJ cK cS ((sh (a0).toNatClampNeg).1) ((sh (a0).toNatClampNeg).2.1) ((sh (a0).toNatClampNeg).2.2)  r5 hr5) pk_yX7_isMissing ml_RX9_225 ⟨rfl, rfl⟩ ⟨(Nat.le_of_ble_eq_true rfl), (Nat.le_of_ble_eq_true rfl)⟩ ⟨(Nat.le_of_ble_eq_true rfl), (Nat.le_of_ble_eq_true rfl)⟩ [41 + 2 * (a0).toNatClampNeg, 42 + 2 * (a0).toNatClampNeg] (sx_sC h4) (sx_nd (a0).toNatClampNeg) rfl (wn := (sx_W g m0 m1 m2 ka sa sn cI cJ cK cS mu tr ke kp tby tlen ttok tsta tbeh tnum ttak sh fi)) (sx_sz h4) 0 rfl rfl rfl rfl (Nat.le_of_ble_eq_true rfl) rfl dX9_write_24 rfl ?_
    refine sw_if_eq (pc' := 30) (tgt := 37) cx dX9_write_27 (by decide) rfl (fun c6 => ?_) (fun c6 => ?_)
    · replace hf := it_p c6 hf
      refine sw_aload (pc' := 39) (i := 5) cx dX9_write_37 0 rfl rfl ?_
      refine sw_iload_n (pc' := 40) (i := 2) cx dX9_write_39 rfl 3 rfl rfl ?_
      refine sw_iconst (pc' := 41) (v := 1) cx dX9_write_40 iconst_1 rfl ?_
      obtain ⟨h7, hf⟩ := gk_s hf
      obtain ⟨r8, hr8, hf⟩ := bd_s hf
      refine sw_callV (pc' := 44) (As := [.int a1, .int (1 : Int32)]) (rest := []) cx (k_X7_holds l D (sa (a0).toNatClampNeg) (sn (a0).toNatClampNeg) cI cJ cK cS ((sh (a0).toNatClampNeg).1) ((sh (a0).toNatClampNeg).2.1) ((sh (a0).toNatClampNeg).2.2) a1 (1 : Int32) r8 hr8) pk_yX7_holds ml_RX9_228 ⟨rfl, rfl⟩ ⟨(Nat.le_of_ble_eq_true rfl), (Nat.le_of_ble_eq_true rfl)⟩ ⟨(Nat.le_of_ble_eq_true rfl), (Nat.le_of_ble_eq_true rfl)⟩ [41 + 2 * (a0).toNatClampNeg, 42 + 2 * (a0).toNatClampNeg] (sx_sC h7) (sx_nd (a0).toNatClampNeg) rfl (wn := (sx_W g m0 m1 m2 ka sa sn cI cJ cK cS mu tr ke kp tby tlen ttok tsta tbeh tnum ttak sh fi)) (sx_sz h7) 0 rfl rfl rfl rfl (Nat.le_of_ble_eq_true rfl) rfl dX9_write_41 rfl ?_
      refine sw_if_ne (pc' := 47) (tgt := 54) cx dX9_write_44 (by decide) rfl (fun c9 => ?_) (fun c9 => ?_)
      · replace hf := it_n c9 hf
        refine sw_aload (pc' := 56) (i := 5) cx dX9_write_54 0 rfl rfl ?_
        obtain ⟨h10, hf⟩ := gk_s hf
        refine sw_getN (pc' := 59) cx in_X7 (41 + 2 * (a0).toNatClampNeg) (sx_so h10) rfl 0 (Nat.le_of_ble_eq_true rfl) fn_RX9_231 rfl dX9_write_56 rfl ?_
        refine sw_iload_n (pc' := 60) (i := 2) cx dX9_write_59 rfl 3 rfl rfl ?_
        obtain ⟨h11, hf⟩ := gk_s hf
        obtain ⟨h12, hf⟩ := gx_s hf
        refine sw_lald (pc' := 61) cx (42 + 2 * (a0).toNatClampNeg) 1 (sx_sn h11) rfl h12 dX9_write_60 rfl ?_
        refine sw_lstore (pc' := 63) (i := 6) (lv' := [(6, .long (((sh (a0).toNatClampNeg).1) (a1).toNatClampNeg)), (5, .ref (sa (a0).toNatClampNeg)), (0, .ref (g 0)), (1, .int a0), (2, .int a1), (3, .long a2)]) cx dX9_write_61 (Nat.le_of_ble_eq_true rfl) rfl rfl ?_
        refine sw_aload (pc' := 65) (i := 5) cx dX9_write_63 1 rfl rfl ?_
        refine sw_iload_n (pc' := 66) (i := 2) cx dX9_write_65 rfl 4 rfl rfl ?_
        refine sw_lload_n (pc' := 67) (i := 3) cx dX9_write_66 rfl 5 rfl rfl ?_
        obtain ⟨h13, hf⟩ := gk_s hf
        obtain ⟨r14, hr14, hf⟩ := bd_s hf
        refine sw_callV (pc' := 70) (As := [.int a1, .long a2]) (rest := []) cx (k_X7_put l D (sa (a0).toNatClampNeg) (sn (a0).toNatClampNeg) cI cJ cK cS ((sh (a0).toNatClampNeg).1) ((sh (a0).toNatClampNeg).2.1) ((sh (a0).toNatClampNeg).2.2) a1 a2 r14 hr14) pk_yX7_put ml_RX9_235 ⟨rfl, rfl⟩ ⟨(Nat.le_of_ble_eq_true rfl), (Nat.le_of_ble_eq_true rfl)⟩ ⟨(Nat.le_of_ble_eq_true rfl), (Nat.le_of_ble_eq_true rfl)⟩ [41 + 2 * (a0).toNatClampNeg, 42 + 2 * (a0).toNatClampNeg] (sx_sC h13) (sx_nd (a0).toNatClampNeg) rfl (wn := (sx_W g m0 m1 m2 ka sa sn cI cJ cK cS mu tr ke kp tby tlen ttok tsta tbeh tnum ttak (sh_up sh (a0).toNatClampNeg (r14, (sh (a0).toNatClampNeg).2.1, (sh (a0).toNatClampNeg).2.2)) fi)) (sx_sw h13) 0 rfl rfl rfl rfl (Nat.le_of_ble_eq_true rfl) rfl dX9_write_67 rfl ?_
        refine sw_lload (pc' := 72) (i := 6) cx dX9_write_70 0 rfl rfl ?_
        obtain rfl := Option.some.inj hf
        exact sw_lret cx hr hQ dX9_write_72
      · replace hf := it_p c9 hf
        refine sw_aload_n (pc' := 48) (i := 0) cx dX9_write_47 rfl 1 rfl rfl ?_
        refine sw_iconst (pc' := 49) (v := 0) cx dX9_write_48 iconst_0 rfl ?_
        obtain ⟨r15, hr15, hf⟩ := bd_s hf
        refine sw_callVw (pc' := 52) (As := [.int (0 : Int32)]) (rest := []) (w' := (sx_W g m0 m1 m2 ka sa sn cI cJ cK cS mu tr ke kp tby tlen ttok tsta tbeh tnum ttak sh r15.2)) cx (k_X9_found l D g m0 m1 m2 ka sa sn cI cJ cK cS mu tr ke kp tby tlen ttok tsta tbeh tnum ttak sh fi (0 : Int32) r15 hr15) pk_yX9_found ml_RX9_68 ⟨rfl, rfl⟩ ⟨(Nat.le_of_ble_eq_true rfl), (Nat.le_of_ble_eq_true rfl)⟩ ⟨(Nat.le_of_ble_eq_true rfl), (Nat.le_of_ble_eq_true rfl)⟩ 0 rfl rfl rfl rfl (Nat.le_of_ble_eq_true rfl) rfl dX9_write_49 rfl ?_
        refine sw_i2l (pc' := 53) cx dX9_write_52 rfl ?_
        obtain rfl := Option.some.inj hf
        exact sw_lret cx hr hQ dX9_write_53
    · replace hf := it_n c6 hf
      refine sw_aload_n (pc' := 31) (i := 0) cx dX9_write_30 rfl 1 rfl rfl ?_
      refine sw_iconst (pc' := 32) (v := 5) cx dX9_write_31 iconst_5 rfl ?_
      obtain ⟨r16, hr16, hf⟩ := bd_s hf
      refine sw_callVw (pc' := 35) (As := [.int (5 : Int32)]) (rest := []) (w' := (sx_W g m0 m1 m2 ka sa sn cI cJ cK cS mu tr ke kp tby tlen ttok tsta tbeh tnum ttak sh r16.2)) cx (k_X9_found l D g m0 m1 m2 ka sa sn cI cJ cK cS mu tr ke kp tby tlen ttok tsta tbeh tnum ttak sh fi (5 : Int32) r16 hr16) pk_yX9_found ml_RX9_68 ⟨rfl, rfl⟩ ⟨(Nat.le_of_ble_eq_true rfl), (Nat.le_of_ble_eq_true rfl)⟩ ⟨(Nat.le_of_ble_eq_true rfl), (Nat.le_of_ble_eq_true rfl)⟩ 0 rfl rfl rfl rfl (Nat.le_of_ble_eq_true rfl) rfl dX9_write_32 rfl ?_
      refine sw_i2l (pc' := 36) cx dX9_write_35 rfl ?_
      obtain rfl := Option.some.inj hf
      exact sw_lret cx hr hQ dX9_write_36
  · replace hf := it_p c2 hf
    refine sw_aload_n (pc' := 8) (i := 0) cx dX9_write_7 rfl 0 rfl rfl ?_
    refine sw_iconst (pc' := 9) (v := 0) cx dX9_write_8 iconst_0 rfl ?_
    obtain ⟨r17, hr17, hf⟩ := bd_s hf
    refine sw_callVw (pc' := 12) (As := [.int (0 : Int32)]) (rest := []) (w' := (sx_W g m0 m1 m2 ka sa sn cI cJ cK cS mu tr ke kp tby tlen ttok tsta tbeh tnum ttak sh r17.2)) cx (k_X9_found l D g m0 m1 m2 ka sa sn cI cJ cK cS mu tr ke kp tby tlen ttok tsta tbeh tnum ttak sh fi (0 : Int32) r17 hr17) pk_yX9_found ml_RX9_68 ⟨rfl, rfl⟩ ⟨(Nat.le_of_ble_eq_true rfl), (Nat.le_of_ble_eq_true rfl)⟩ ⟨(Nat.le_of_ble_eq_true rfl), (Nat.le_of_ble_eq_true rfl)⟩ 0 rfl rfl rfl rfl (Nat.le_of_ble_eq_true rfl) rfl dX9_write_9 rfl ?_
    refine sw_i2l (pc' := 13) cx dX9_write_12 rfl ?_
    obtain rfl := Option.some.inj hf
    exact sw_lret cx hr hQ dX9_write_13
abbrev rm_X9_copy : Room := ({ frames := 2, cells := 0, slots := 0, locals := 43 } : Room)
set_option maxRecDepth 100000 in
set_option maxHeartbeats 4000000 in
theorem k_X9_copy (l : Launch) (D : sf_D) (g m0 m1 m2 ka sa sn : Nat → Nat) (cI cJ cK cS : ClassId) (mu : MtS) (tr : MtS) (ke : MtS) (kp : Int32) (tby : Nat → Int32) (tlen : Int32) (ttok : Int32) (tsta : Int32) (tbeh : Int32) (tnum : Int32) (ttak : Int32) (sh : Nat → ShS) (fi : Nat → Int32) (a0 : Int32) (a1 : Int32) (a2 : Int32) (a3 : Int32) (a4 : Int32) (res : Int32 × (Nat → ShS) × (Nat → Int32)) (hf : f_X9_copy sh fi a0 a1 a2 a3 a4 = some res) : sf_Ct l yX9_copy cX9_copy 8 (some .int) rm_X9_copy D (sf_ty cI cJ cK cS) [.ref (g 0), .int a0, .int a1, .int a2, .int a3, .int a4] (sx_W g m0 m1 m2 ka sa sn cI cJ cK cS mu tr ke kp tby tlen ttok tsta tbeh tnum ttak sh fi) (some (.int res.1)) (sx_W g m0 m1 m2 ka sa sn cI cJ cK cS mu tr ke kp tby tlen ttok tsta tbeh tnum ttak res.2.1 res.2.2) := by
  refine sf_met (lv := [(0, .ref (g 0)), (1, .int a0), (2, .int a1), (3, .int a2), (4, .int a3), (5, .int a4)]) (by decide) (Nat.le_of_ble_eq_true rfl) rfl ?_
  intro p e s m args below meth c A Q cx hr hQ
  have cx : sf_Cx p m meth c cX9_copy 8 s args RX9 D (sf_ty cI cJ cK cS) A := cx
  have B14 : ∀ (sh : Nat → ShS) (fi : Nat → Int32), f_X9_copy_b14 sh fi = some res → sf_W p l e rm_X9_copy s m args below meth c 0 0 Q 8 D A (sx_W g m0 m1 m2 ka sa sn cI cJ cK cS mu tr ke kp tby tlen ttok tsta tbeh tnum ttak sh fi) [(0, .ref (g 0))] 14 [] := by
    intro sh fi hf
    unfold f_X9_copy_b14 at hf
    refine sw_aload_n (pc' := 15) (i := 0) cx dX9_copy_14 rfl 0 rfl rfl ?_
    refine sw_iconst (pc' := 16) (v := 0) cx dX9_copy_15 iconst_0 rfl ?_
    obtain ⟨r28, hr28, hf⟩ := bd_s hf
    refine sw_callVw (pc' := 19) (As := [.int (0 : Int32)]) (rest := []) (w' := (sx_W g m0 m1 m2 ka sa sn cI cJ cK cS mu tr ke kp tby tlen ttok tsta tbeh tnum ttak sh r28.2)) cx (k_X9_found l D g m0 m1 m2 ka sa sn cI cJ cK cS mu tr ke kp tby tlen ttok tsta tbeh tnum ttak sh fi (0 : Int32) r28 hr28) pk_yX9_found ml_RX9_68 ⟨rfl, rfl⟩ ⟨(Nat.le_of_ble_eq_true rfl), (Nat.le_of_ble_eq_true rfl)⟩ ⟨(Nat.le_of_ble_eq_true rfl), (Nat.le_of_ble_eq_true rfl)⟩ 0 rfl rfl rfl rfl (Nat.le_of_ble_eq_true rfl) rfl dX9_copy_16 rfl ?_
    obtain rfl := Option.some.inj hf
    exact sw_iret cx hr hQ dX9_copy_19
  have B52 : ∀ (sh : Nat → ShS) (fi : Nat → Int32), f_X9_copy_b52 sh fi = some res → sf_W p l e rm_X9_copy s m args below meth c 0 0 Q 8 D A (sx_W g m0 m1 m2 ka sa sn cI cJ cK cS mu tr ke kp tby tlen ttok tsta tbeh tnum ttak sh fi) [(0, .ref (g 0))] 52 [] := by
    intro sh fi hf
    unfold f_X9_copy_b52 at hf
    refine sw_aload_n (pc' := 53) (i := 0) cx dX9_copy_52 rfl 0 rfl rfl ?_
    refine sw_iconst (pc' := 54) (v := 5) cx dX9_copy_53 iconst_5 rfl ?_
    obtain ⟨r29, hr29, hf⟩ := bd_s hf
    refine sw_callVw (pc' := 57) (As := [.int (5 : Int32)]) (rest := []) (w' := (sx_W g m0 m1 m2 ka sa sn cI cJ cK cS mu tr ke kp tby tlen ttok tsta tbeh tnum ttak sh r29.2)) cx (k_X9_found l D g m0 m1 m2 ka sa sn cI cJ cK cS mu tr ke kp tby tlen ttok tsta tbeh tnum ttak sh fi (5 : Int32) r29 hr29) pk_yX9_found ml_RX9_68 ⟨rfl, rfl⟩ ⟨(Nat.le_of_ble_eq_true rfl), (Nat.le_of_ble_eq_true rfl)⟩ ⟨(Nat.le_of_ble_eq_true rfl), (Nat.le_of_ble_eq_true rfl)⟩ 0 rfl rfl rfl rfl (Nat.le_of_ble_eq_true rfl) rfl dX9_copy_54 rfl ?_
    obtain rfl := Option.some.inj hf
    exact sw_iret cx hr hQ dX9_copy_57
  have B100 : ∀ (sh : Nat → ShS) (fi : Nat → Int32), f_X9_copy_b100 sh fi = some res → sf_W p l e rm_X9_copy s m args below meth c 0 0 Q 8 D A (sx_W g m0 m1 m2 ka sa sn cI cJ cK cS mu tr ke kp tby tlen ttok tsta tbeh tnum ttak sh fi) [(0, .ref (g 0))] 100 [] := by
    intro sh fi hf
    unfold f_X9_copy_b100 at hf
    refine sw_aload_n (pc' := 101) (i := 0) cx dX9_copy_100 rfl 0 rfl rfl ?_
    refine sw_iconst (pc' := 102) (v := 0) cx dX9_copy_101 iconst_0 rfl ?_
    obtain ⟨r30, hr30, hf⟩ := bd_s hf
    refine sw_callVw (pc' := 105) (As := [.int (0 : Int32)]) (rest := []) (w' := (sx_W g m0 m1 m2 ka sa sn cI cJ cK cS mu tr ke kp tby tlen ttok tsta tbeh tnum ttak sh r30.2)) cx (k_X9_found l D g m0 m1 m2 ka sa sn cI cJ cK cS mu tr ke kp tby tlen ttok tsta tbeh tnum ttak sh fi (0 : Int32) r30 hr30) pk_yX9_found ml_RX9_68 ⟨rfl, rfl⟩ ⟨(Nat.le_of_ble_eq_true rfl), (Nat.le_of_ble_eq_true rfl)⟩ ⟨(Nat.le_of_ble_eq_true rfl), (Nat.le_of_ble_eq_true rfl)⟩ 0 rfl rfl rfl rfl (Nat.le_of_ble_eq_true rfl) rfl dX9_copy_102 rfl ?_
    obtain rfl := Option.some.inj hf
    exact sw_iret cx hr hQ dX9_copy_105
  unfold f_X9_copy at hf
  refine sw_iload_n (pc' := 1) (i := 1) cx dX9_copy_0 rfl 1 rfl rfl ?_
  obtain ⟨r1, hr1, hf⟩ := bd_s hf
  refine sw_callS (pc' := 4) (As := [.int a0]) (rest := []) cx (k_X9_isSheet l D cI cJ cK cS a0 r1 hr1) pk_yX9_isSheet ml_RX9_218 ⟨rfl, rfl⟩ ⟨(Nat.le_of_ble_eq_true rfl), (Nat.le_of_ble_eq_true rfl)⟩ ⟨(Nat.le_of_ble_eq_true rfl), (Nat.le_of_ble_eq_true rfl)⟩ [] rfl rfl rfl (wn := (sx_W g m0 m1 m2 ka sa sn cI cJ cK cS mu tr ke kp tby tlen ttok tsta tbeh tnum ttak sh fi)) rfl rfl (Nat.le_of_ble_eq_true rfl) rfl dX9_copy_1 rfl ?_
  refine sw_if_eq (pc' := 7) (tgt := 14) cx dX9_copy_4 (by decide) rfl (fun c2 => ?_) (fun c2 => ?_)
  · replace hf := it_p c2 hf
    exact sw_lv [0] rfl (B14 sh fi hf)
  · replace hf := it_n c2 hf
    refine sw_iload_n (pc' := 8) (i := 3) cx dX9_copy_7 rfl 3 rfl rfl ?_
    obtain ⟨r3, hr3, hf⟩ := bd_s hf
    refine sw_callS (pc' := 11) (As := [.int a2]) (rest := []) cx (k_X9_isSheet l D cI cJ cK cS a2 r3 hr3) pk_yX9_isSheet ml_RX9_218 ⟨rfl, rfl⟩ ⟨(Nat.le_of_ble_eq_true rfl), (Nat.le_of_ble_eq_true rfl)⟩ ⟨(Nat.le_of_ble_eq_true rfl), (Nat.le_of_ble_eq_true rfl)⟩ [] rfl rfl rfl (wn := (sx_W g m0 m1 m2 ka sa sn cI cJ cK cS mu tr ke kp tby tlen ttok tsta tbeh tnum ttak sh fi)) rfl rfl (Nat.le_of_ble_eq_true rfl) rfl dX9_copy_8 rfl ?_
    refine sw_if_ne (pc' := 14) (tgt := 20) cx dX9_copy_11 (by decide) rfl (fun c4 => ?_) (fun c4 => ?_)
    · replace hf := it_n c4 hf
      refine sw_aload_n (pc' := 21) (i := 0) cx dX9_copy_20 rfl 0 rfl rfl ?_
      refine sw_get (pc' := 24) cx in_X9 0 rfl rfl 5 (Nat.le_of_ble_eq_true rfl) fl_RX9_52 rfl dX9_copy_21 rfl ?_
      refine sw_iload_n (pc' := 25) (i := 1) cx dX9_copy_24 rfl 1 rfl rfl ?_
      obtain ⟨h5, hf⟩ := gx_s hf
      refine sw_aaldS (pc' := 26) cx 40 3 rfl rfl h5 dX9_copy_25 rfl ?_
      refine sw_astore (pc' := 28) (i := 6) (lv' := [(6, .ref (sa (a0).toNatClampNeg)), (0, .ref (g 0)), (1, .int a0), (2, .int a1), (3, .int a2), (4, .int a3), (5, .int a4)]) cx dX9_copy_26 (Nat.le_of_ble_eq_true rfl) rfl rfl ?_
      refine sw_aload_n (pc' := 29) (i := 0) cx dX9_copy_28 rfl 1 rfl rfl ?_
      refine sw_get (pc' := 32) cx in_X9 0 rfl rfl 5 (Nat.le_of_ble_eq_true rfl) fl_RX9_52 rfl dX9_copy_29 rfl ?_
      refine sw_iload_n (pc' := 33) (i := 3) cx dX9_copy_32 rfl 4 rfl rfl ?_
      obtain ⟨h6, hf⟩ := gx_s hf
      refine sw_aaldS (pc' := 34) cx 40 3 rfl rfl h6 dX9_copy_33 rfl ?_
      refine sw_astore (pc' := 36) (i := 7) (lv' := [(7, .ref (sa (a2).toNatClampNeg)), (6, .ref (sa (a0).toNatClampNeg)), (0, .ref (g 0)), (1, .int a0), (2, .int a1), (3, .int a2), (4, .int a3), (5, .int a4)]) cx dX9_copy_34 (Nat.le_of_ble_eq_true rfl) rfl rfl ?_
      refine sw_aload (pc' := 38) (i := 6) cx dX9_copy_36 1 rfl rfl ?_
      obtain ⟨h7, hf⟩ := gk_s hf
      obtain ⟨r8, hr8, hf⟩ := bd_s hf
      refine sw_callV (pc' := 41) (As := []) (rest := []) cx (k_X7_isMissing l D (sa (a0).toNatClampNeg) (sn (a0).toNatClampNeg) cI cJ cK cS ((sh (a0).toNatClampNeg).1) ((sh (a0).toNatClampNeg).2.1) ((sh (a0).toNatClampNeg).2.2)  r8 hr8) pk_yX7_isMissing ml_RX9_225 ⟨rfl, rfl⟩ ⟨(Nat.le_of_ble_eq_true rfl), (Nat.le_of_ble_eq_true rfl)⟩ ⟨(Nat.le_of_ble_eq_true rfl), (Nat.le_of_ble_eq_true rfl)⟩ [41 + 2 * (a0).toNatClampNeg, 42 + 2 * (a0).toNatClampNeg] (sx_sC h7) (sx_nd (a0).toNatClampNeg) rfl (wn := (sx_W g m0 m1 m2 ka sa sn cI cJ cK cS mu tr ke kp tby tlen ttok tsta tbeh tnum ttak sh fi)) (sx_sz h7) 0 rfl rfl rfl rfl (Nat.le_of_ble_eq_true rfl) rfl dX9_copy_38 rfl ?_
      refine sw_if_ne (pc' := 44) (tgt := 52) cx dX9_copy_41 (by decide) rfl (fun c9 => ?_) (fun c9 => ?_)
      · replace hf := it_n c9 hf
        exact sw_lv [2] rfl (B52 sh fi hf)
      · replace hf := it_p c9 hf
        refine sw_aload (pc' := 46) (i := 7) cx dX9_copy_44 0 rfl rfl ?_
        obtain ⟨h10, hf⟩ := gk_s hf
        obtain ⟨r11, hr11, hf⟩ := bd_s hf
        refine sw_callV (pc' := 49) (As := []) (rest := []) cx (k_X7_isMissing l D (sa (a2).toNatClampNeg) (sn (a2).toNatClampNeg) cI cJ cK cS ((sh (a2).toNatClampNeg).1) ((sh (a2).toNatClampNeg).2.1) ((sh (a2).toNatClampNeg).2.2)  r11 hr11) pk_yX7_isMissing ml_RX9_225 ⟨rfl, rfl⟩ ⟨(Nat.le_of_ble_eq_true rfl), (Nat.le_of_ble_eq_true rfl)⟩ ⟨(Nat.le_of_ble_eq_true rfl), (Nat.le_of_ble_eq_true rfl)⟩ [41 + 2 * (a2).toNatClampNeg, 42 + 2 * (a2).toNatClampNeg] (sx_sC h10) (sx_nd (a2).toNatClampNeg) rfl (wn := (sx_W g m0 m1 m2 ka sa sn cI cJ cK cS mu tr ke kp tby tlen ttok tsta tbeh tnum ttak sh fi)) (sx_sz h10) 0 rfl rfl rfl rfl (Nat.le_of_ble_eq_true rfl) rfl dX9_copy_46 rfl ?_
        refine sw_if_eq (pc' := 52) (tgt := 58) cx dX9_copy_49 (by decide) rfl (fun c12 => ?_) (fun c12 => ?_)
        · replace hf := it_p c12 hf
          refine sw_aload (pc' := 60) (i := 6) cx dX9_copy_58 1 rfl rfl ?_
          obtain ⟨h13, hf⟩ := gk_s hf
          refine sw_getN (pc' := 63) cx in_X7 (41 + 2 * (a0).toNatClampNeg) (sx_so h13) rfl 1 (Nat.le_of_ble_eq_true rfl) fn_RX9_239 rfl dX9_copy_60 rfl ?_
          refine sw_aload (pc' := 65) (i := 7) cx dX9_copy_63 0 rfl rfl ?_
          obtain ⟨h14, hf⟩ := gk_s hf
          refine sw_getN (pc' := 68) cx in_X7 (41 + 2 * (a2).toNatClampNeg) (sx_so h14) rfl 1 (Nat.le_of_ble_eq_true rfl) fn_RX9_239 rfl dX9_copy_65 rfl ?_
          refine sw_icmp_eq (pc' := 71) (tgt := 77) cx dX9_copy_68 (by decide) rfl (fun c15 => ?_) (fun c15 => ?_)
          · replace hf := it_p c15 hf
            refine sw_aload (pc' := 79) (i := 6) cx dX9_copy_77 1 rfl rfl ?_
            refine sw_iload_n (pc' := 80) (i := 2) cx dX9_copy_79 rfl 4 rfl rfl ?_
            refine sw_iload (pc' := 82) (i := 5) cx dX9_copy_80 7 rfl rfl ?_
            obtain ⟨h16, hf⟩ := gk_s hf
            obtain ⟨r17, hr17, hf⟩ := bd_s hf
            refine sw_callV (pc' := 85) (As := [.int a1, .int a4]) (rest := []) cx (k_X7_holds l D (sa (a0).toNatClampNeg) (sn (a0).toNatClampNeg) cI cJ cK cS ((sh (a0).toNatClampNeg).1) ((sh (a0).toNatClampNeg).2.1) ((sh (a0).toNatClampNeg).2.2) a1 a4 r17 hr17) pk_yX7_holds ml_RX9_228 ⟨rfl, rfl⟩ ⟨(Nat.le_of_ble_eq_true rfl), (Nat.le_of_ble_eq_true rfl)⟩ ⟨(Nat.le_of_ble_eq_true rfl), (Nat.le_of_ble_eq_true rfl)⟩ [41 + 2 * (a0).toNatClampNeg, 42 + 2 * (a0).toNatClampNeg] (sx_sC h16) (sx_nd (a0).toNatClampNeg) rfl (wn := (sx_W g m0 m1 m2 ka sa sn cI cJ cK cS mu tr ke kp tby tlen ttok tsta tbeh tnum ttak sh fi)) (sx_sz h16) 0 rfl rfl rfl rfl (Nat.le_of_ble_eq_true rfl) rfl dX9_copy_82 rfl ?_
            refine sw_if_eq (pc' := 88) (tgt := 100) cx dX9_copy_85 (by decide) rfl (fun c18 => ?_) (fun c18 => ?_)
            · replace hf := it_p c18 hf
              exact sw_lv [2] rfl (B100 sh fi hf)
            · replace hf := it_n c18 hf
              refine sw_aload (pc' := 90) (i := 7) cx dX9_copy_88 0 rfl rfl ?_
              refine sw_iload (pc' := 92) (i := 4) cx dX9_copy_90 6 rfl rfl ?_
              refine sw_iload (pc' := 94) (i := 5) cx dX9_copy_92 7 rfl rfl ?_
              obtain ⟨h19, hf⟩ := gk_s hf
              obtain ⟨r20, hr20, hf⟩ := bd_s hf
              refine sw_callV (pc' := 97) (As := [.int a3, .int a4]) (rest := []) cx (k_X7_holds l D (sa (a2).toNatClampNeg) (sn (a2).toNatClampNeg) cI cJ cK cS ((sh (a2).toNatClampNeg).1) ((sh (a2).toNatClampNeg).2.1) ((sh (a2).toNatClampNeg).2.2) a3 a4 r20 hr20) pk_yX7_holds ml_RX9_228 ⟨rfl, rfl⟩ ⟨(Nat.le_of_ble_eq_true rfl), (Nat.le_of_ble_eq_true rfl)⟩ ⟨(Nat.le_of_ble_eq_true rfl), (Nat.le_of_ble_eq_true rfl)⟩ [41 + 2 * (a2).toNatClampNeg, 42 + 2 * (a2).toNatClampNeg] (sx_sC h19) (sx_nd (a2).toNatClampNeg) rfl (wn := (sx_W g m0 m1 m2 ka sa sn cI cJ cK cS mu tr ke kp tby tlen ttok tsta tbeh tnum ttak sh fi)) (sx_sz h19) 0 rfl rfl rfl rfl (Nat.le_of_ble_eq_true rfl) rfl dX9_copy_94 rfl ?_
              refine sw_if_ne (pc' := 100) (tgt := 106) cx dX9_copy_97 (by decide) rfl (fun c21 => ?_) (fun c21 => ?_)
              · replace hf := it_n c21 hf
                refine sw_aload (pc' := 108) (i := 6) cx dX9_copy_106 1 rfl rfl ?_
                obtain ⟨h22, hf⟩ := gk_s hf
                refine sw_getN (pc' := 111) cx in_X7 (41 + 2 * (a0).toNatClampNeg) (sx_so h22) rfl 0 (Nat.le_of_ble_eq_true rfl) fn_RX9_231 rfl dX9_copy_108 rfl ?_
                refine sw_iload_n (pc' := 112) (i := 2) cx dX9_copy_111 rfl 4 rfl rfl ?_
                refine sw_aload (pc' := 114) (i := 7) cx dX9_copy_112 0 rfl rfl ?_
                obtain ⟨h23, hf⟩ := gk_s hf
                refine sw_getN (pc' := 117) cx in_X7 (41 + 2 * (a2).toNatClampNeg) (sx_so h23) rfl 0 (Nat.le_of_ble_eq_true rfl) fn_RX9_231 rfl dX9_copy_114 rfl ?_
                refine sw_iload (pc' := 119) (i := 4) cx dX9_copy_117 6 rfl rfl ?_
                refine sw_iload (pc' := 121) (i := 5) cx dX9_copy_119 7 rfl rfl ?_
                obtain ⟨h24, hf⟩ := gk_s hf
                obtain ⟨h25, hf⟩ := gk_s hf
                obtain ⟨⟨h26a, h26b, h26c, h26d, h26e⟩, hf⟩ := gc_s hf
                refine sw_copyl (pc' := 124) (ws' := (sx_W g m0 m1 m2 ka sa sn cI cJ cK cS mu tr ke kp tby tlen ttok tsta tbeh tnum ttak (sh_up sh (a2).toNatClampNeg ((va_cpy ((sh (a0).toNatClampNeg).1) ((sh (a2).toNatClampNeg).1) (a1).toNatClampNeg (a3).toNatClampNeg (a4).toNatClampNeg), (sh (a2).toNatClampNeg).2.1, (sh (a2).toNatClampNeg).2.2)) fi)) cx ml_RX9_242 nat_arraycopyName stat_arraycopyName ini_RJ10 (42 + 2 * (a0).toNatClampNeg) (42 + 2 * (a2).toNatClampNeg) 1 (sx_sn h24) (sx_sn h25) rfl rfl h26a h26b h26c h26d h26e (Nat.le_of_ble_eq_true rfl) (by decide +kernel) dX9_copy_121 (sx_sN h25) rfl ?_
                refine sw_iload (pc' := 126) (i := 5) cx dX9_copy_124 7 rfl rfl ?_
                obtain rfl := Option.some.inj hf
                exact sw_iret cx hr hQ dX9_copy_126
              · replace hf := it_p c21 hf
                exact sw_lv [2] rfl (B100 sh fi hf)
          · replace hf := it_n c15 hf
            refine sw_aload_n (pc' := 72) (i := 0) cx dX9_copy_71 rfl 2 rfl rfl ?_
            refine sw_iconst (pc' := 73) (v := 2) cx dX9_copy_72 iconst_2 rfl ?_
            obtain ⟨r27, hr27, hf⟩ := bd_s hf
            refine sw_callVw (pc' := 76) (As := [.int (2 : Int32)]) (rest := []) (w' := (sx_W g m0 m1 m2 ka sa sn cI cJ cK cS mu tr ke kp tby tlen ttok tsta tbeh tnum ttak sh r27.2)) cx (k_X9_found l D g m0 m1 m2 ka sa sn cI cJ cK cS mu tr ke kp tby tlen ttok tsta tbeh tnum ttak sh fi (2 : Int32) r27 hr27) pk_yX9_found ml_RX9_68 ⟨rfl, rfl⟩ ⟨(Nat.le_of_ble_eq_true rfl), (Nat.le_of_ble_eq_true rfl)⟩ ⟨(Nat.le_of_ble_eq_true rfl), (Nat.le_of_ble_eq_true rfl)⟩ 0 rfl rfl rfl rfl (Nat.le_of_ble_eq_true rfl) rfl dX9_copy_73 rfl ?_
            obtain rfl := Option.some.inj hf
            exact sw_iret cx hr hQ dX9_copy_76
        · replace hf := it_n c12 hf
          exact sw_lv [2] rfl (B52 sh fi hf)
    · replace hf := it_p c4 hf
      exact sw_lv [0] rfl (B14 sh fi hf)
abbrev rm_X9_lays : Room := ({ frames := 2, cells := 0, slots := 0, locals := 43 } : Room)
set_option maxRecDepth 100000 in
set_option maxHeartbeats 4000000 in
theorem k_X9_lays (l : Launch) (D : sf_D) (g m0 m1 m2 ka sa sn : Nat → Nat) (cI cJ cK cS : ClassId) (mu : MtS) (tr : MtS) (ke : MtS) (kp : Int32) (tby : Nat → Int32) (tlen : Int32) (ttok : Int32) (tsta : Int32) (tbeh : Int32) (tnum : Int32) (ttak : Int32) (sh : Nat → ShS) (fi : Nat → Int32) (a0 : Int32) (res : Int32 × MtS × (Nat → Int32)) (hf : f_X9_lays mu sh fi a0 = some res) : sf_Ct l yX9_lays cX9_lays 7 (some .int) rm_X9_lays D (sf_ty cI cJ cK cS) [.ref (g 0), .int a0] (sx_W g m0 m1 m2 ka sa sn cI cJ cK cS mu tr ke kp tby tlen ttok tsta tbeh tnum ttak sh fi) (some (.int res.1)) (sx_W g m0 m1 m2 ka sa sn cI cJ cK cS res.2.1 tr ke kp tby tlen ttok tsta tbeh tnum ttak sh res.2.2) := by
  refine sf_met (lv := [(0, .ref (g 0)), (1, .int a0)]) (by decide) (Nat.le_of_ble_eq_true rfl) rfl ?_
  intro p e s m args below meth c A Q cx hr hQ
  have cx : sf_Cx p m meth c cX9_lays 7 s args RX9 D (sf_ty cI cJ cK cS) A := cx
  have B96 : ∀ (kk : MtS → (Nat → Int32) → Nat → Int32 → Int32 → Option (Int32 × MtS × (Nat → Int32))), (∀ (mu : MtS) (fi : Nat → Int32) (x2 : Nat) (x3 : Int32) (x4 : Int32), kk mu fi x2 x3 x4 = some res → sf_W p l e rm_X9_lays s m args below meth c 0 0 Q 7 D A (sx_W g m0 m1 m2 ka sa sn cI cJ cK cS mu tr ke kp tby tlen ttok tsta tbeh tnum ttak sh fi) [(0, .ref (g 0)), (2, .ref (sa x2)), (3, .int x3), (4, .int x4)] 38 []) → ∀ (mu : MtS) (fi : Nat → Int32) (x2 : Nat) (x3 : Int32) (x4 : Int32), f_X9_lays_b96 sh kk mu fi x2 x3 x4 = some res → sf_W p l e rm_X9_lays s m args below meth c 0 0 Q 7 D A (sx_W g m0 m1 m2 ka sa sn cI cJ cK cS mu tr ke kp tby tlen ttok tsta tbeh tnum ttak sh fi) [(0, .ref (g 0)), (2, .ref (sa x2)), (3, .int x3), (4, .int x4)] 96 [] := by
    intro kk hkk mu fi x2 x3 x4 hf
    unfold f_X9_lays_b96 at hf
    refine sw_iinc (pc' := 99) (v := (x4 + (1 : Int32))) (lv' := [(4, .int (x4 + (1 : Int32))), (0, .ref (g 0)), (2, .ref (sa x2)), (3, .int x3)]) cx dX9_lays_96 3 rfl rfl (Nat.le_of_ble_eq_true rfl) rfl rfl ?_
    refine sw_goto (tgt := 38) cx dX9_lays_99 (by decide) ?_
    exact sw_lv [1, 2, 3, 0] rfl (hkk mu fi x2 x3 (x4 + (1 : Int32)) hf)
  have B38 : ∀ (n : Nat), ∀ (mu : MtS) (fi : Nat → Int32) (x2 : Nat) (x3 : Int32) (x4 : Int32), f_X9_lays_b38 sh n mu fi x2 x3 x4 = some res → sf_W p l e rm_X9_lays s m args below meth c 0 0 Q 7 D A (sx_W g m0 m1 m2 ka sa sn cI cJ cK cS mu tr ke kp tby tlen ttok tsta tbeh tnum ttak sh fi) [(0, .ref (g 0)), (2, .ref (sa x2)), (3, .int x3), (4, .int x4)] 38 [] := by
    intro n
    induction n with
    | zero => intro mu fi x2 x3 x4 hf; rw [f_X9_lays_b38] at hf; cases hf
    | succ n ih =>
      intro mu fi x2 x3 x4 hf
      rw [f_X9_lays_b38] at hf
      refine sw_iload (pc' := 40) (i := 4) cx dX9_lays_38 3 rfl rfl ?_
      refine sw_bipush (pc' := 42) (v := 40) cx dX9_lays_40 bipush_40 rfl ?_
      refine sw_icmp_ge (pc' := 45) (tgt := 102) cx dX9_lays_42 (by decide) rfl (fun c9 => ?_) (fun c9 => ?_)
      · replace hf := it_p c9 hf
        refine sw_iload_n (pc' := 103) (i := 3) cx dX9_lays_102 rfl 2 rfl rfl ?_
        obtain rfl := Option.some.inj hf
        exact sw_iret cx hr hQ dX9_lays_103
      · replace hf := it_n c9 hf
        refine sw_aload_n (pc' := 46) (i := 2) cx dX9_lays_45 rfl 1 rfl rfl ?_
        refine sw_iload (pc' := 48) (i := 4) cx dX9_lays_46 3 rfl rfl ?_
        refine sw_iconst (pc' := 49) (v := 1) cx dX9_lays_48 iconst_1 rfl ?_
        obtain ⟨h10, hf⟩ := gk_s hf
        obtain ⟨r11, hr11, hf⟩ := bd_s hf
        refine sw_callV (pc' := 52) (As := [.int x4, .int (1 : Int32)]) (rest := []) cx (k_X7_holds l D (sa x2) (sn x2) cI cJ cK cS ((sh x2).1) ((sh x2).2.1) ((sh x2).2.2) x4 (1 : Int32) r11 hr11) pk_yX7_holds ml_RX9_228 ⟨rfl, rfl⟩ ⟨(Nat.le_of_ble_eq_true rfl), (Nat.le_of_ble_eq_true rfl)⟩ ⟨(Nat.le_of_ble_eq_true rfl), (Nat.le_of_ble_eq_true rfl)⟩ [41 + 2 * x2, 42 + 2 * x2] (sx_sC h10) (sx_nd x2) rfl (wn := (sx_W g m0 m1 m2 ka sa sn cI cJ cK cS mu tr ke kp tby tlen ttok tsta tbeh tnum ttak sh fi)) (sx_sz h10) 0 rfl rfl rfl rfl (Nat.le_of_ble_eq_true rfl) rfl dX9_lays_49 rfl ?_
        refine sw_if_eq (pc' := 55) (tgt := 102) cx dX9_lays_52 (by decide) rfl (fun c12 => ?_) (fun c12 => ?_)
        · replace hf := it_p c12 hf
          refine sw_iload_n (pc' := 103) (i := 3) cx dX9_lays_102 rfl 2 rfl rfl ?_
          obtain rfl := Option.some.inj hf
          exact sw_iret cx hr hQ dX9_lays_103
        · replace hf := it_n c12 hf
          refine sw_aload_n (pc' := 56) (i := 2) cx dX9_lays_55 rfl 1 rfl rfl ?_
          obtain ⟨h13, hf⟩ := gk_s hf
          refine sw_getN (pc' := 59) cx in_X7 (41 + 2 * x2) (sx_so h13) rfl 0 (Nat.le_of_ble_eq_true rfl) fn_RX9_231 rfl dX9_lays_56 rfl ?_
          refine sw_iload (pc' := 61) (i := 4) cx dX9_lays_59 3 rfl rfl ?_
          obtain ⟨h14, hf⟩ := gk_s hf
          obtain ⟨h15, hf⟩ := gx_s hf
          refine sw_lald (pc' := 62) cx (42 + 2 * x2) 1 (sx_sn h14) rfl h15 dX9_lays_61 rfl ?_
          refine sw_lstore (pc' := 64) (i := 5) (lv' := [(5, .long (((sh x2).1) (x4).toNatClampNeg)), (0, .ref (g 0)), (2, .ref (sa x2)), (3, .int x3), (4, .int x4)]) cx dX9_lays_62 (Nat.le_of_ble_eq_true rfl) rfl rfl ?_
          refine sw_lload (pc' := 66) (i := 5) cx dX9_lays_64 0 rfl rfl ?_
          refine sw_lconst (pc' := 67) (v := 1) cx dX9_lays_66 rfl rfl ?_
          refine sw_lcmp (pc' := 68) cx dX9_lays_67 rfl ?_
          refine sw_if_lt (pc' := 71) (tgt := 96) cx dX9_lays_68 (by decide) rfl (fun c16 => ?_) (fun c16 => ?_)
          · replace hf := it_p c16 hf
            exact sw_lv [1, 2, 3, 4] rfl (B96 _ ih mu fi x2 x3 x4 hf)
          · replace hf := it_n c16 hf
            refine sw_lload (pc' := 73) (i := 5) cx dX9_lays_71 0 rfl rfl ?_
            refine sw_ldc2_w (pc' := 76) cx cl_RX9_248 dX9_lays_73 rfl ?_
            refine sw_lcmp (pc' := 77) cx dX9_lays_76 rfl ?_
            refine sw_if_gt (pc' := 80) (tgt := 96) cx dX9_lays_77 (by decide) rfl (fun c17 => ?_) (fun c17 => ?_)
            · replace hf := it_p c17 hf
              exact sw_lv [1, 2, 3, 4] rfl (B96 _ ih mu fi x2 x3 x4 hf)
            · replace hf := it_n c17 hf
              refine sw_aload_n (pc' := 81) (i := 0) cx dX9_lays_80 rfl 1 rfl rfl ?_
              refine sw_get (pc' := 84) cx in_X9 0 rfl rfl 0 (Nat.le_of_ble_eq_true rfl) fl_RX9_32 rfl dX9_lays_81 rfl ?_
              refine sw_getN (pc' := 87) cx in_X4 1 rfl rfl 1 (Nat.le_of_ble_eq_true rfl) fn_RX9_72 rfl dX9_lays_84 rfl ?_
              refine sw_iload (pc' := 89) (i := 4) cx dX9_lays_87 4 rfl rfl ?_
              refine sw_lload (pc' := 91) (i := 5) cx dX9_lays_89 0 rfl rfl ?_
              refine sw_l2i (pc' := 92) cx dX9_lays_91 rfl ?_
              obtain ⟨h18, hf⟩ := gx_s hf
              refine sw_iast (pc' := 93) (ws' := (sx_W g m0 m1 m2 ka sa sn cI cJ cK cS (mt_mk (mu.1 0 0) (mu.1 0 1) (mu.1 0 2) (mu.1 0 3) (mu.1 0 4) (upd (mu.1 1) (x4).toNatClampNeg (((((sh x2).1) (x4).toNatClampNeg)).toInt32)) (mu.1 2) (mu.1 3) (mu.1 4) (mu.1 5) (mu.1 6) (mu.1 7) (mu.1 8) (mu.1 9) mu.2) tr ke kp tby tlen ttok tsta tbeh tnum ttak sh fi)) cx 2 0 rfl rfl h18 dX9_lays_92 rfl rfl ?_
              refine sw_iinc (pc' := 96) (v := (x3 + (1 : Int32))) (lv' := [(3, .int (x3 + (1 : Int32))), (5, .long (((sh x2).1) (x4).toNatClampNeg)), (0, .ref (g 0)), (2, .ref (sa x2)), (4, .int x4)]) cx dX9_lays_93 3 rfl rfl (Nat.le_of_ble_eq_true rfl) rfl rfl ?_
              exact sw_lv [2, 3, 0, 4] rfl (B96 _ ih (mt_mk (mu.1 0 0) (mu.1 0 1) (mu.1 0 2) (mu.1 0 3) (mu.1 0 4) (upd (mu.1 1) (x4).toNatClampNeg (((((sh x2).1) (x4).toNatClampNeg)).toInt32)) (mu.1 2) (mu.1 3) (mu.1 4) (mu.1 5) (mu.1 6) (mu.1 7) (mu.1 8) (mu.1 9) mu.2) fi x2 (x3 + (1 : Int32)) x4 hf)
  unfold f_X9_lays at hf
  refine sw_iload_n (pc' := 1) (i := 1) cx dX9_lays_0 rfl 1 rfl rfl ?_
  obtain ⟨r1, hr1, hf⟩ := bd_s hf
  refine sw_callS (pc' := 4) (As := [.int a0]) (rest := []) cx (k_X9_isSheet l D cI cJ cK cS a0 r1 hr1) pk_yX9_isSheet ml_RX9_218 ⟨rfl, rfl⟩ ⟨(Nat.le_of_ble_eq_true rfl), (Nat.le_of_ble_eq_true rfl)⟩ ⟨(Nat.le_of_ble_eq_true rfl), (Nat.le_of_ble_eq_true rfl)⟩ [] rfl rfl rfl (wn := (sx_W g m0 m1 m2 ka sa sn cI cJ cK cS mu tr ke kp tby tlen ttok tsta tbeh tnum ttak sh fi)) rfl rfl (Nat.le_of_ble_eq_true rfl) rfl dX9_lays_1 rfl ?_
  refine sw_if_ne (pc' := 7) (tgt := 13) cx dX9_lays_4 (by decide) rfl (fun c2 => ?_) (fun c2 => ?_)
  · replace hf := it_n c2 hf
    refine sw_aload_n (pc' := 14) (i := 0) cx dX9_lays_13 rfl 0 rfl rfl ?_
    refine sw_get (pc' := 17) cx in_X9 0 rfl rfl 5 (Nat.le_of_ble_eq_true rfl) fl_RX9_52 rfl dX9_lays_14 rfl ?_
    refine sw_iload_n (pc' := 18) (i := 1) cx dX9_lays_17 rfl 1 rfl rfl ?_
    obtain ⟨h3, hf⟩ := gx_s hf
    refine sw_aaldS (pc' := 19) cx 40 3 rfl rfl h3 dX9_lays_18 rfl ?_
    refine sw_astore_n (pc' := 20) (i := 2) (lv' := [(2, .ref (sa (a0).toNatClampNeg)), (0, .ref (g 0)), (1, .int a0)]) cx dX9_lays_19 rfl (Nat.le_of_ble_eq_true rfl) rfl rfl ?_
    refine sw_aload_n (pc' := 21) (i := 2) cx dX9_lays_20 rfl 0 rfl rfl ?_
    obtain ⟨h4, hf⟩ := gk_s hf
    obtain ⟨r5, hr5, hf⟩ := bd_s hf
    refine sw_callV (pc' := 24) (As := []) (rest := []) cx (k_X7_isMissing l D (sa (a0).toNatClampNeg) (sn (a0).toNatClampNeg) cI cJ cK cS ((sh (a0).toNatClampNeg).1) ((sh (a0).toNatClampNeg).2.1) ((sh (a0).toNatClampNeg).2.2)  r5 hr5) pk_yX7_isMissing ml_RX9_225 ⟨rfl, rfl⟩ ⟨(Nat.le_of_ble_eq_true rfl), (Nat.le_of_ble_eq_true rfl)⟩ ⟨(Nat.le_of_ble_eq_true rfl), (Nat.le_of_ble_eq_true rfl)⟩ [41 + 2 * (a0).toNatClampNeg, 42 + 2 * (a0).toNatClampNeg] (sx_sC h4) (sx_nd (a0).toNatClampNeg) rfl (wn := (sx_W g m0 m1 m2 ka sa sn cI cJ cK cS mu tr ke kp tby tlen ttok tsta tbeh tnum ttak sh fi)) (sx_sz h4) 0 rfl rfl rfl rfl (Nat.le_of_ble_eq_true rfl) rfl dX9_lays_21 rfl ?_
    refine sw_if_eq (pc' := 27) (tgt := 33) cx dX9_lays_24 (by decide) rfl (fun c6 => ?_) (fun c6 => ?_)
    · replace hf := it_p c6 hf
      refine sw_iconst (pc' := 34) (v := 0) cx dX9_lays_33 iconst_0 rfl ?_
      refine sw_istore_n (pc' := 35) (i := 3) (lv' := [(3, .int (0 : Int32)), (2, .ref (sa (a0).toNatClampNeg)), (0, .ref (g 0)), (1, .int a0)]) cx dX9_lays_34 rfl (Nat.le_of_ble_eq_true rfl) rfl rfl ?_
      refine sw_iconst (pc' := 36) (v := 0) cx dX9_lays_35 iconst_0 rfl ?_
      refine sw_istore (pc' := 38) (i := 4) (lv' := [(4, .int (0 : Int32)), (3, .int (0 : Int32)), (2, .ref (sa (a0).toNatClampNeg)), (0, .ref (g 0)), (1, .int a0)]) cx dX9_lays_36 (Nat.le_of_ble_eq_true rfl) rfl rfl ?_
      exact sw_lv [3, 2, 1, 0] rfl (B38 1000 mu fi (a0).toNatClampNeg (0 : Int32) (0 : Int32) hf)
    · replace hf := it_n c6 hf
      refine sw_aload_n (pc' := 28) (i := 0) cx dX9_lays_27 rfl 1 rfl rfl ?_
      refine sw_iconst (pc' := 29) (v := 5) cx dX9_lays_28 iconst_5 rfl ?_
      obtain ⟨r7, hr7, hf⟩ := bd_s hf
      refine sw_callVw (pc' := 32) (As := [.int (5 : Int32)]) (rest := []) (w' := (sx_W g m0 m1 m2 ka sa sn cI cJ cK cS mu tr ke kp tby tlen ttok tsta tbeh tnum ttak sh r7.2)) cx (k_X9_found l D g m0 m1 m2 ka sa sn cI cJ cK cS mu tr ke kp tby tlen ttok tsta tbeh tnum ttak sh fi (5 : Int32) r7 hr7) pk_yX9_found ml_RX9_68 ⟨rfl, rfl⟩ ⟨(Nat.le_of_ble_eq_true rfl), (Nat.le_of_ble_eq_true rfl)⟩ ⟨(Nat.le_of_ble_eq_true rfl), (Nat.le_of_ble_eq_true rfl)⟩ 0 rfl rfl rfl rfl (Nat.le_of_ble_eq_true rfl) rfl dX9_lays_29 rfl ?_
      obtain rfl := Option.some.inj hf
      exact sw_iret cx hr hQ dX9_lays_32
  · replace hf := it_p c2 hf
    refine sw_aload_n (pc' := 8) (i := 0) cx dX9_lays_7 rfl 0 rfl rfl ?_
    refine sw_iconst (pc' := 9) (v := 0) cx dX9_lays_8 iconst_0 rfl ?_
    obtain ⟨r8, hr8, hf⟩ := bd_s hf
    refine sw_callVw (pc' := 12) (As := [.int (0 : Int32)]) (rest := []) (w' := (sx_W g m0 m1 m2 ka sa sn cI cJ cK cS mu tr ke kp tby tlen ttok tsta tbeh tnum ttak sh r8.2)) cx (k_X9_found l D g m0 m1 m2 ka sa sn cI cJ cK cS mu tr ke kp tby tlen ttok tsta tbeh tnum ttak sh fi (0 : Int32) r8 hr8) pk_yX9_found ml_RX9_68 ⟨rfl, rfl⟩ ⟨(Nat.le_of_ble_eq_true rfl), (Nat.le_of_ble_eq_true rfl)⟩ ⟨(Nat.le_of_ble_eq_true rfl), (Nat.le_of_ble_eq_true rfl)⟩ 0 rfl rfl rfl rfl (Nat.le_of_ble_eq_true rfl) rfl dX9_lays_9 rfl ?_
    obtain rfl := Option.some.inj hf
    exact sw_iret cx hr hQ dX9_lays_12
abbrev rm_X9_stair : Room := ({ frames := 6, cells := 0, slots := 0, locals := 132 } : Room)
set_option maxRecDepth 100000 in
set_option maxHeartbeats 4000000 in
theorem k_X9_stair (l : Launch) (D : sf_D) (g m0 m1 m2 ka sa sn : Nat → Nat) (cI cJ cK cS : ClassId) (mu : MtS) (tr : MtS) (ke : MtS) (kp : Int32) (tby : Nat → Int32) (tlen : Int32) (ttok : Int32) (tsta : Int32) (tbeh : Int32) (tnum : Int32) (ttak : Int32) (sh : Nat → ShS) (fi : Nat → Int32) (a0 : Int32) (a1 : Int32) (res : Int32 × MtS × (Nat → ShS) × (Nat → Int32)) (hf : f_X9_stair mu tr sh fi a0 a1 = some res) : sf_Ct l yX9_stair cX9_stair 7 (some .int) rm_X9_stair D (sf_ty cI cJ cK cS) [.ref (g 0), .int a0, .int a1] (sx_W g m0 m1 m2 ka sa sn cI cJ cK cS mu tr ke kp tby tlen ttok tsta tbeh tnum ttak sh fi) (some (.int res.1)) (sx_W g m0 m1 m2 ka sa sn cI cJ cK cS mu res.2.1 ke kp tby tlen ttok tsta tbeh tnum ttak res.2.2.1 res.2.2.2) := by
  refine sf_met (lv := [(0, .ref (g 0)), (1, .int a0), (2, .int a1)]) (by decide) (Nat.le_of_ble_eq_true rfl) rfl ?_
  intro p e s m args below meth c A Q cx hr hQ
  have cx : sf_Cx p m meth c cX9_stair 7 s args RX9 D (sf_ty cI cJ cK cS) A := cx
  have B117 : ∀ (kk : MtS → (Nat → ShS) → (Nat → Int32) → Nat → Int32 → Int32 → Option (Int32 × MtS × (Nat → ShS) × (Nat → Int32))), (∀ (tr : MtS) (sh : Nat → ShS) (fi : Nat → Int32) (x3 : Nat) (x5 : Int32) (x6 : Int32), kk tr sh fi x3 x5 x6 = some res → sf_W p l e rm_X9_stair s m args below meth c 0 0 Q 7 D A (sx_W g m0 m1 m2 ka sa sn cI cJ cK cS mu tr ke kp tby tlen ttok tsta tbeh tnum ttak sh fi) [(0, .ref (g 0)), (3, .ref (sa x3)), (5, .int x5), (6, .int x6)] 70 []) → ∀ (tr : MtS) (sh : Nat → ShS) (fi : Nat → Int32) (x3 : Nat) (x5 : Int32) (x6 : Int32) (s0 : Int64) (s1 : Int32) (s2 : Nat), f_X9_stair_b117 mu kk tr sh fi x3 x5 x6 s0 s1 s2 = some res → sf_W p l e rm_X9_stair s m args below meth c 0 0 Q 7 D A (sx_W g m0 m1 m2 ka sa sn cI cJ cK cS mu tr ke kp tby tlen ttok tsta tbeh tnum ttak sh fi) [(0, .ref (g 0)), (3, .ref (sa x3)), (5, .int x5), (6, .int x6)] 117 [.long s0, .int s1, .ref (sa s2)] := by
    intro kk hkk tr sh fi x3 x5 x6 s0 s1 s2 hf
    unfold f_X9_stair_b117 at hf
    obtain ⟨h20, hf⟩ := gk_s hf
    obtain ⟨r21, hr21, hf⟩ := bd_s hf
    refine sw_callV (pc' := 120) (As := [.int s1, .long s0]) (rest := []) cx (k_X7_put l D (sa s2) (sn s2) cI cJ cK cS ((sh s2).1) ((sh s2).2.1) ((sh s2).2.2) s1 s0 r21 hr21) pk_yX7_put ml_RX9_235 ⟨rfl, rfl⟩ ⟨(Nat.le_of_ble_eq_true rfl), (Nat.le_of_ble_eq_true rfl)⟩ ⟨(Nat.le_of_ble_eq_true rfl), (Nat.le_of_ble_eq_true rfl)⟩ [41 + 2 * s2, 42 + 2 * s2] (sx_sC h20) (sx_nd s2) rfl (wn := (sx_W g m0 m1 m2 ka sa sn cI cJ cK cS mu tr ke kp tby tlen ttok tsta tbeh tnum ttak (sh_up sh s2 (r21, (sh s2).2.1, (sh s2).2.2)) fi)) (sx_sw h20) 0 rfl rfl rfl rfl (Nat.le_of_ble_eq_true rfl) rfl dX9_stair_117 rfl ?_
    refine sw_iinc (pc' := 123) (v := (x5 + (1 : Int32))) (lv' := [(5, .int (x5 + (1 : Int32))), (0, .ref (g 0)), (3, .ref (sa x3)), (6, .int x6)]) cx dX9_stair_120 2 rfl rfl (Nat.le_of_ble_eq_true rfl) rfl rfl ?_
    refine sw_iinc (pc' := 126) (v := (x6 + (1 : Int32))) (lv' := [(6, .int (x6 + (1 : Int32))), (5, .int (x5 + (1 : Int32))), (0, .ref (g 0)), (3, .ref (sa x3))]) cx dX9_stair_123 3 rfl rfl (Nat.le_of_ble_eq_true rfl) rfl rfl ?_
    refine sw_goto (tgt := 70) cx dX9_stair_126 (by decide) ?_
    exact sw_lv [2, 3, 1, 0] rfl (hkk tr (sh_up sh s2 (r21, (sh s2).2.1, (sh s2).2.2)) fi x3 (x5 + (1 : Int32)) (x6 + (1 : Int32)) hf)
  have B70 : ∀ (n : Nat), ∀ (tr : MtS) (sh : Nat → ShS) (fi : Nat → Int32) (x3 : Nat) (x5 : Int32) (x6 : Int32), f_X9_stair_b70 mu n tr sh fi x3 x5 x6 = some res → sf_W p l e rm_X9_stair s m args below meth c 0 0 Q 7 D A (sx_W g m0 m1 m2 ka sa sn cI cJ cK cS mu tr ke kp tby tlen ttok tsta tbeh tnum ttak sh fi) [(0, .ref (g 0)), (3, .ref (sa x3)), (5, .int x5), (6, .int x6)] 70 [] := by
    intro n
    induction n with
    | zero => intro tr sh fi x3 x5 x6 hf; rw [f_X9_stair_b70] at hf; cases hf
    | succ n ih =>
      intro tr sh fi x3 x5 x6 hf
      rw [f_X9_stair_b70] at hf
      refine sw_iload (pc' := 72) (i := 6) cx dX9_stair_70 3 rfl rfl ?_
      refine sw_bipush (pc' := 74) (v := 40) cx dX9_stair_72 bipush_40 rfl ?_
      refine sw_icmp_ge (pc' := 77) (tgt := 129) cx dX9_stair_74 (by decide) rfl (fun c13 => ?_) (fun c13 => ?_)
      · replace hf := it_p c13 hf
        refine sw_iload (pc' := 131) (i := 5) cx dX9_stair_129 2 rfl rfl ?_
        obtain rfl := Option.some.inj hf
        exact sw_iret cx hr hQ dX9_stair_131
      · replace hf := it_n c13 hf
        refine sw_aload_n (pc' := 78) (i := 3) cx dX9_stair_77 rfl 1 rfl rfl ?_
        refine sw_iload (pc' := 80) (i := 6) cx dX9_stair_78 3 rfl rfl ?_
        refine sw_iconst (pc' := 81) (v := 1) cx dX9_stair_80 iconst_1 rfl ?_
        obtain ⟨h14, hf⟩ := gk_s hf
        obtain ⟨r15, hr15, hf⟩ := bd_s hf
        refine sw_callV (pc' := 84) (As := [.int x6, .int (1 : Int32)]) (rest := []) cx (k_X7_holds l D (sa x3) (sn x3) cI cJ cK cS ((sh x3).1) ((sh x3).2.1) ((sh x3).2.2) x6 (1 : Int32) r15 hr15) pk_yX7_holds ml_RX9_228 ⟨rfl, rfl⟩ ⟨(Nat.le_of_ble_eq_true rfl), (Nat.le_of_ble_eq_true rfl)⟩ ⟨(Nat.le_of_ble_eq_true rfl), (Nat.le_of_ble_eq_true rfl)⟩ [41 + 2 * x3, 42 + 2 * x3] (sx_sC h14) (sx_nd x3) rfl (wn := (sx_W g m0 m1 m2 ka sa sn cI cJ cK cS mu tr ke kp tby tlen ttok tsta tbeh tnum ttak sh fi)) (sx_sz h14) 0 rfl rfl rfl rfl (Nat.le_of_ble_eq_true rfl) rfl dX9_stair_81 rfl ?_
        refine sw_if_eq (pc' := 87) (tgt := 129) cx dX9_stair_84 (by decide) rfl (fun c16 => ?_) (fun c16 => ?_)
        · replace hf := it_p c16 hf
          refine sw_iload (pc' := 131) (i := 5) cx dX9_stair_129 2 rfl rfl ?_
          obtain rfl := Option.some.inj hf
          exact sw_iret cx hr hQ dX9_stair_131
        · replace hf := it_n c16 hf
          refine sw_aload_n (pc' := 88) (i := 3) cx dX9_stair_87 rfl 1 rfl rfl ?_
          refine sw_iload (pc' := 90) (i := 6) cx dX9_stair_88 3 rfl rfl ?_
          refine sw_aload_n (pc' := 91) (i := 0) cx dX9_stair_90 rfl 0 rfl rfl ?_
          refine sw_get (pc' := 94) cx in_X9 0 rfl rfl 1 (Nat.le_of_ble_eq_true rfl) fl_RX9_36 rfl dX9_stair_91 rfl ?_
          refine sw_iload (pc' := 96) (i := 6) cx dX9_stair_94 3 rfl rfl ?_
          obtain ⟨r17, hr17, hf⟩ := bd_s hf
          refine sw_callV (pc' := 99) (As := [.int x6]) (rest := [.int x6, .ref (sa x3)]) cx (k_X4_isWhole l D m1 (g 5) ka cI cJ cK cS tr x6 r17 hr17) pk_yX4_isWhole ml_RX9_136 ⟨rfl, rfl⟩ ⟨(Nat.le_of_ble_eq_true rfl), (Nat.le_of_ble_eq_true rfl)⟩ ⟨(Nat.le_of_ble_eq_true rfl), (Nat.le_of_ble_eq_true rfl)⟩ [11, 12, 13, 14, 15, 16, 17, 18, 19, 20, 31, 32, 33, 34, 35, 36, 37] sx_C_tr sx_n_tr (mt_fst _ _ _ _ _ _ _) (wn := (sx_W g m0 m1 m2 ka sa sn cI cJ cK cS mu tr ke kp tby tlen ttok tsta tbeh tnum ttak sh fi)) sx_w_tr 0 rfl rfl rfl rfl (Nat.le_of_ble_eq_true rfl) rfl dX9_stair_96 rfl ?_
          refine sw_if_eq (pc' := 102) (tgt := 116) cx dX9_stair_99 (by decide) rfl (fun c18 => ?_) (fun c18 => ?_)
          · replace hf := it_p c18 hf
            refine sw_lconst (pc' := 117) (v := 0) cx dX9_stair_116 rfl rfl ?_
            exact sw_lv [0, 1, 2, 3] rfl (B117 _ ih tr sh fi x3 x5 x6 (0 : Int64) x6 x3 hf)
          · replace hf := it_n c18 hf
            refine sw_aload_n (pc' := 103) (i := 0) cx dX9_stair_102 rfl 0 rfl rfl ?_
            refine sw_get (pc' := 106) cx in_X9 0 rfl rfl 1 (Nat.le_of_ble_eq_true rfl) fl_RX9_36 rfl dX9_stair_103 rfl ?_
            refine sw_getN (pc' := 109) cx in_X4 11 rfl rfl 2 (Nat.le_of_ble_eq_true rfl) fn_RX9_139 rfl dX9_stair_106 rfl ?_
            refine sw_iload (pc' := 111) (i := 6) cx dX9_stair_109 3 rfl rfl ?_
            obtain ⟨h19, hf⟩ := gx_s hf
            refine sw_iald (pc' := 112) cx 13 0 rfl rfl h19 dX9_stair_111 rfl ?_
            refine sw_i2l (pc' := 113) cx dX9_stair_112 rfl ?_
            refine sw_goto (tgt := 117) cx dX9_stair_113 (by decide) ?_
            exact sw_lv [0, 1, 2, 3] rfl (B117 _ ih tr sh fi x3 x5 x6 ((((tr.1 2) (x6).toNatClampNeg)).toInt64) x6 x3 hf)
  unfold f_X9_stair at hf
  refine sw_iload_n (pc' := 1) (i := 1) cx dX9_stair_0 rfl 1 rfl rfl ?_
  obtain ⟨r1, hr1, hf⟩ := bd_s hf
  refine sw_callS (pc' := 4) (As := [.int a0]) (rest := []) cx (k_X9_isSheet l D cI cJ cK cS a0 r1 hr1) pk_yX9_isSheet ml_RX9_218 ⟨rfl, rfl⟩ ⟨(Nat.le_of_ble_eq_true rfl), (Nat.le_of_ble_eq_true rfl)⟩ ⟨(Nat.le_of_ble_eq_true rfl), (Nat.le_of_ble_eq_true rfl)⟩ [] rfl rfl rfl (wn := (sx_W g m0 m1 m2 ka sa sn cI cJ cK cS mu tr ke kp tby tlen ttok tsta tbeh tnum ttak sh fi)) rfl rfl (Nat.le_of_ble_eq_true rfl) rfl dX9_stair_1 rfl ?_
  refine sw_if_ne (pc' := 7) (tgt := 13) cx dX9_stair_4 (by decide) rfl (fun c2 => ?_) (fun c2 => ?_)
  · replace hf := it_n c2 hf
    refine sw_aload_n (pc' := 14) (i := 0) cx dX9_stair_13 rfl 0 rfl rfl ?_
    refine sw_get (pc' := 17) cx in_X9 0 rfl rfl 5 (Nat.le_of_ble_eq_true rfl) fl_RX9_52 rfl dX9_stair_14 rfl ?_
    refine sw_iload_n (pc' := 18) (i := 1) cx dX9_stair_17 rfl 1 rfl rfl ?_
    obtain ⟨h3, hf⟩ := gx_s hf
    refine sw_aaldS (pc' := 19) cx 40 3 rfl rfl h3 dX9_stair_18 rfl ?_
    refine sw_astore_n (pc' := 20) (i := 3) (lv' := [(3, .ref (sa (a0).toNatClampNeg)), (0, .ref (g 0)), (1, .int a0), (2, .int a1)]) cx dX9_stair_19 rfl (Nat.le_of_ble_eq_true rfl) rfl rfl ?_
    refine sw_aload_n (pc' := 21) (i := 3) cx dX9_stair_20 rfl 0 rfl rfl ?_
    obtain ⟨h4, hf⟩ := gk_s hf
    obtain ⟨r5, hr5, hf⟩ := bd_s hf
    refine sw_callV (pc' := 24) (As := []) (rest := []) cx (k_X7_isMissing l D (sa (a0).toNatClampNeg) (sn (a0).toNatClampNeg) cI cJ cK cS ((sh (a0).toNatClampNeg).1) ((sh (a0).toNatClampNeg).2.1) ((sh (a0).toNatClampNeg).2.2)  r5 hr5) pk_yX7_isMissing ml_RX9_225 ⟨rfl, rfl⟩ ⟨(Nat.le_of_ble_eq_true rfl), (Nat.le_of_ble_eq_true rfl)⟩ ⟨(Nat.le_of_ble_eq_true rfl), (Nat.le_of_ble_eq_true rfl)⟩ [41 + 2 * (a0).toNatClampNeg, 42 + 2 * (a0).toNatClampNeg] (sx_sC h4) (sx_nd (a0).toNatClampNeg) rfl (wn := (sx_W g m0 m1 m2 ka sa sn cI cJ cK cS mu tr ke kp tby tlen ttok tsta tbeh tnum ttak sh fi)) (sx_sz h4) 0 rfl rfl rfl rfl (Nat.le_of_ble_eq_true rfl) rfl dX9_stair_21 rfl ?_
    refine sw_if_eq (pc' := 27) (tgt := 33) cx dX9_stair_24 (by decide) rfl (fun c6 => ?_) (fun c6 => ?_)
    · replace hf := it_p c6 hf
      refine sw_aload_n (pc' := 34) (i := 0) cx dX9_stair_33 rfl 1 rfl rfl ?_
      refine sw_iload_n (pc' := 35) (i := 2) cx dX9_stair_34 rfl 3 rfl rfl ?_
      refine sw_iconst (pc' := 36) (v := 0) cx dX9_stair_35 iconst_0 rfl ?_
      refine sw_sipush (pc' := 39) (v := 200) cx dX9_stair_36 sipush_200 rfl ?_
      obtain ⟨r7, hr7, hf⟩ := bd_s hf
      refine sw_callVw (pc' := 42) (As := [.int a1, .int (0 : Int32), .int (200 : Int32)]) (rest := []) (w' := (sx_W g m0 m1 m2 ka sa sn cI cJ cK cS mu tr ke kp tby tlen ttok tsta tbeh tnum ttak sh r7.2)) cx (k_X9_againstYears l D g m0 m1 m2 ka sa sn cI cJ cK cS mu tr ke kp tby tlen ttok tsta tbeh tnum ttak sh fi a1 (0 : Int32) (200 : Int32) r7 hr7) pk_yX9_againstYears ml_RX9_171 ⟨rfl, rfl⟩ ⟨(Nat.le_of_ble_eq_true rfl), (Nat.le_of_ble_eq_true rfl)⟩ ⟨(Nat.le_of_ble_eq_true rfl), (Nat.le_of_ble_eq_true rfl)⟩ 0 rfl rfl rfl rfl (Nat.le_of_ble_eq_true rfl) rfl dX9_stair_39 rfl ?_
      refine sw_istore (pc' := 44) (i := 4) (lv' := [(4, .int r7.1), (3, .ref (sa (a0).toNatClampNeg)), (0, .ref (g 0)), (1, .int a0), (2, .int a1)]) cx dX9_stair_42 (Nat.le_of_ble_eq_true rfl) rfl rfl ?_
      refine sw_iload (pc' := 46) (i := 4) cx dX9_stair_44 0 rfl rfl ?_
      refine sw_if_eq (pc' := 49) (tgt := 52) cx dX9_stair_46 (by decide) rfl (fun c8 => ?_) (fun c8 => ?_)
      · replace hf := it_p c8 hf
        refine sw_aload_n (pc' := 53) (i := 0) cx dX9_stair_52 rfl 2 rfl rfl ?_
        obtain ⟨r9, hr9, hf⟩ := bd_s hf
        refine sw_callVw (pc' := 56) (As := []) (rest := []) (w' := (sx_W g m0 m1 m2 ka sa sn cI cJ cK cS mu r9 ke kp tby tlen ttok tsta tbeh tnum ttak sh r7.2)) cx (k_X9_startTrial l D g m0 m1 m2 ka sa sn cI cJ cK cS mu tr ke kp tby tlen ttok tsta tbeh tnum ttak sh r7.2  r9 hr9) pk_yX9_startTrial ml_RX9_190 ⟨rfl, rfl⟩ ⟨(Nat.le_of_ble_eq_true rfl), (Nat.le_of_ble_eq_true rfl)⟩ ⟨(Nat.le_of_ble_eq_true rfl), (Nat.le_of_ble_eq_true rfl)⟩ 0 rfl rfl rfl rfl (Nat.le_of_ble_eq_true rfl) rfl dX9_stair_53 rfl ?_
        refine sw_aload_n (pc' := 57) (i := 0) cx dX9_stair_56 rfl 2 rfl rfl ?_
        refine sw_get (pc' := 60) cx in_X9 0 rfl rfl 1 (Nat.le_of_ble_eq_true rfl) fl_RX9_36 rfl dX9_stair_57 rfl ?_
        refine sw_iload_n (pc' := 61) (i := 2) cx dX9_stair_60 rfl 4 rfl rfl ?_
        obtain ⟨r10, hr10, hf⟩ := bd_s hf
        refine sw_callV (pc' := 64) (As := [.int a1]) (rest := []) cx (k_X4_goYears l D m1 (g 5) ka cI cJ cK cS r9 a1 r10 hr10) pk_yX4_goYears ml_RX9_175 ⟨rfl, rfl⟩ ⟨(Nat.le_of_ble_eq_true rfl), (Nat.le_of_ble_eq_true rfl)⟩ ⟨(Nat.le_of_ble_eq_true rfl), (Nat.le_of_ble_eq_true rfl)⟩ [11, 12, 13, 14, 15, 16, 17, 18, 19, 20, 31, 32, 33, 34, 35, 36, 37] sx_C_tr sx_n_tr (mt_fst _ _ _ _ _ _ _) (wn := (sx_W g m0 m1 m2 ka sa sn cI cJ cK cS mu r10 ke kp tby tlen ttok tsta tbeh tnum ttak sh r7.2)) sx_w_tr 0 rfl rfl rfl rfl (Nat.le_of_ble_eq_true rfl) rfl dX9_stair_61 rfl ?_
        refine sw_iconst (pc' := 65) (v := 0) cx dX9_stair_64 iconst_0 rfl ?_
        refine sw_istore (pc' := 67) (i := 5) (lv' := [(5, .int (0 : Int32)), (4, .int r7.1), (3, .ref (sa (a0).toNatClampNeg)), (0, .ref (g 0)), (1, .int a0), (2, .int a1)]) cx dX9_stair_65 (Nat.le_of_ble_eq_true rfl) rfl rfl ?_
        refine sw_iconst (pc' := 68) (v := 0) cx dX9_stair_67 iconst_0 rfl ?_
        refine sw_istore (pc' := 70) (i := 6) (lv' := [(6, .int (0 : Int32)), (5, .int (0 : Int32)), (4, .int r7.1), (3, .ref (sa (a0).toNatClampNeg)), (0, .ref (g 0)), (1, .int a0), (2, .int a1)]) cx dX9_stair_68 (Nat.le_of_ble_eq_true rfl) rfl rfl ?_
        exact sw_lv [4, 3, 1, 0] rfl (B70 1000 r10 sh r7.2 (a0).toNatClampNeg (0 : Int32) (0 : Int32) hf)
      · replace hf := it_n c8 hf
        refine sw_iload (pc' := 51) (i := 4) cx dX9_stair_49 0 rfl rfl ?_
        obtain rfl := Option.some.inj hf
        exact sw_iret cx hr hQ dX9_stair_51
    · replace hf := it_n c6 hf
      refine sw_aload_n (pc' := 28) (i := 0) cx dX9_stair_27 rfl 1 rfl rfl ?_
      refine sw_iconst (pc' := 29) (v := 5) cx dX9_stair_28 iconst_5 rfl ?_
      obtain ⟨r11, hr11, hf⟩ := bd_s hf
      refine sw_callVw (pc' := 32) (As := [.int (5 : Int32)]) (rest := []) (w' := (sx_W g m0 m1 m2 ka sa sn cI cJ cK cS mu tr ke kp tby tlen ttok tsta tbeh tnum ttak sh r11.2)) cx (k_X9_found l D g m0 m1 m2 ka sa sn cI cJ cK cS mu tr ke kp tby tlen ttok tsta tbeh tnum ttak sh fi (5 : Int32) r11 hr11) pk_yX9_found ml_RX9_68 ⟨rfl, rfl⟩ ⟨(Nat.le_of_ble_eq_true rfl), (Nat.le_of_ble_eq_true rfl)⟩ ⟨(Nat.le_of_ble_eq_true rfl), (Nat.le_of_ble_eq_true rfl)⟩ 0 rfl rfl rfl rfl (Nat.le_of_ble_eq_true rfl) rfl dX9_stair_29 rfl ?_
      obtain rfl := Option.some.inj hf
      exact sw_iret cx hr hQ dX9_stair_32
  · replace hf := it_p c2 hf
    refine sw_aload_n (pc' := 8) (i := 0) cx dX9_stair_7 rfl 0 rfl rfl ?_
    refine sw_iconst (pc' := 9) (v := 0) cx dX9_stair_8 iconst_0 rfl ?_
    obtain ⟨r12, hr12, hf⟩ := bd_s hf
    refine sw_callVw (pc' := 12) (As := [.int (0 : Int32)]) (rest := []) (w' := (sx_W g m0 m1 m2 ka sa sn cI cJ cK cS mu tr ke kp tby tlen ttok tsta tbeh tnum ttak sh r12.2)) cx (k_X9_found l D g m0 m1 m2 ka sa sn cI cJ cK cS mu tr ke kp tby tlen ttok tsta tbeh tnum ttak sh fi (0 : Int32) r12 hr12) pk_yX9_found ml_RX9_68 ⟨rfl, rfl⟩ ⟨(Nat.le_of_ble_eq_true rfl), (Nat.le_of_ble_eq_true rfl)⟩ ⟨(Nat.le_of_ble_eq_true rfl), (Nat.le_of_ble_eq_true rfl)⟩ 0 rfl rfl rfl rfl (Nat.le_of_ble_eq_true rfl) rfl dX9_stair_9 rfl ?_
    obtain rfl := Option.some.inj hf
    exact sw_iret cx hr hQ dX9_stair_12
abbrev rm_X9_read : Room := ({ frames := 6, cells := 0, slots := 0, locals := 132 } : Room)
set_option maxRecDepth 100000 in
set_option maxHeartbeats 4000000 in
theorem k_X9_read (l : Launch) (D : sf_D) (g m0 m1 m2 ka sa sn : Nat → Nat) (cI cJ cK cS : ClassId) (mu : MtS) (tr : MtS) (ke : MtS) (kp : Int32) (tby : Nat → Int32) (tlen : Int32) (ttok : Int32) (tsta : Int32) (tbeh : Int32) (tnum : Int32) (ttak : Int32) (sh : Nat → ShS) (fi : Nat → Int32) (a0 : Int32) (res : Int32 × MtS × (Nat → Int32)) (hf : f_X9_read mu tr sh fi a0 = some res) : sf_Ct l yX9_read cX9_read 4 (some .int) rm_X9_read D (sf_ty cI cJ cK cS) [.ref (g 0), .int a0] (sx_W g m0 m1 m2 ka sa sn cI cJ cK cS mu tr ke kp tby tlen ttok tsta tbeh tnum ttak sh fi) (some (.int res.1)) (sx_W g m0 m1 m2 ka sa sn cI cJ cK cS mu res.2.1 ke kp tby tlen ttok tsta tbeh tnum ttak sh res.2.2) := by
  refine sf_met (lv := [(0, .ref (g 0)), (1, .int a0)]) (by decide) (Nat.le_of_ble_eq_true rfl) rfl ?_
  intro p e s m args below meth c A Q cx hr hQ
  have cx : sf_Cx p m meth c cX9_read 4 s args RX9 D (sf_ty cI cJ cK cS) A := cx
  have B54 : ∀ (n : Nat), ∀ (tr : MtS) (fi : Nat → Int32) (x2 : Nat) (x3 : Int32), f_X9_read_b54 mu sh n tr fi x2 x3 = some res → sf_W p l e rm_X9_read s m args below meth c 0 0 Q 4 D A (sx_W g m0 m1 m2 ka sa sn cI cJ cK cS mu tr ke kp tby tlen ttok tsta tbeh tnum ttak sh fi) [(0, .ref (g 0)), (2, .ref (sa x2)), (3, .int x3)] 54 [] := by
    intro n
    induction n with
    | zero => intro tr fi x2 x3 hf; rw [f_X9_read_b54] at hf; cases hf
    | succ n ih =>
      intro tr fi x2 x3 hf
      rw [f_X9_read_b54] at hf
      refine sw_iload_n (pc' := 55) (i := 3) cx dX9_read_54 rfl 2 rfl rfl ?_
      refine sw_bipush (pc' := 57) (v := 40) cx dX9_read_55 bipush_40 rfl ?_
      refine sw_icmp_ge (pc' := 60) (tgt := 105) cx dX9_read_57 (by decide) rfl (fun c13 => ?_) (fun c13 => ?_)
      · replace hf := it_p c13 hf
        refine sw_iconst (pc' := 106) (v := 0) cx dX9_read_105 iconst_0 rfl ?_
        obtain rfl := Option.some.inj hf
        exact sw_iret cx hr hQ dX9_read_106
      · replace hf := it_n c13 hf
        refine sw_aload_n (pc' := 61) (i := 2) cx dX9_read_60 rfl 1 rfl rfl ?_
        refine sw_iload_n (pc' := 62) (i := 3) cx dX9_read_61 rfl 2 rfl rfl ?_
        refine sw_iconst (pc' := 63) (v := 1) cx dX9_read_62 iconst_1 rfl ?_
        obtain ⟨h14, hf⟩ := gk_s hf
        obtain ⟨r15, hr15, hf⟩ := bd_s hf
        refine sw_callV (pc' := 66) (As := [.int x3, .int (1 : Int32)]) (rest := []) cx (k_X7_holds l D (sa x2) (sn x2) cI cJ cK cS ((sh x2).1) ((sh x2).2.1) ((sh x2).2.2) x3 (1 : Int32) r15 hr15) pk_yX7_holds ml_RX9_228 ⟨rfl, rfl⟩ ⟨(Nat.le_of_ble_eq_true rfl), (Nat.le_of_ble_eq_true rfl)⟩ ⟨(Nat.le_of_ble_eq_true rfl), (Nat.le_of_ble_eq_true rfl)⟩ [41 + 2 * x2, 42 + 2 * x2] (sx_sC h14) (sx_nd x2) rfl (wn := (sx_W g m0 m1 m2 ka sa sn cI cJ cK cS mu tr ke kp tby tlen ttok tsta tbeh tnum ttak sh fi)) (sx_sz h14) 0 rfl rfl rfl rfl (Nat.le_of_ble_eq_true rfl) rfl dX9_read_63 rfl ?_
        refine sw_if_eq (pc' := 69) (tgt := 105) cx dX9_read_66 (by decide) rfl (fun c16 => ?_) (fun c16 => ?_)
        · replace hf := it_p c16 hf
          refine sw_iconst (pc' := 106) (v := 0) cx dX9_read_105 iconst_0 rfl ?_
          obtain rfl := Option.some.inj hf
          exact sw_iret cx hr hQ dX9_read_106
        · replace hf := it_n c16 hf
          refine sw_aload_n (pc' := 70) (i := 2) cx dX9_read_69 rfl 1 rfl rfl ?_
          obtain ⟨h17, hf⟩ := gk_s hf
          refine sw_getN (pc' := 73) cx in_X7 (41 + 2 * x2) (sx_so h17) rfl 0 (Nat.le_of_ble_eq_true rfl) fn_RX9_231 rfl dX9_read_70 rfl ?_
          refine sw_iload_n (pc' := 74) (i := 3) cx dX9_read_73 rfl 2 rfl rfl ?_
          obtain ⟨h18, hf⟩ := gk_s hf
          obtain ⟨h19, hf⟩ := gx_s hf
          refine sw_lald (pc' := 75) cx (42 + 2 * x2) 1 (sx_sn h18) rfl h19 dX9_read_74 rfl ?_
          refine sw_aload_n (pc' := 76) (i := 0) cx dX9_read_75 rfl 0 rfl rfl ?_
          refine sw_get (pc' := 79) cx in_X9 0 rfl rfl 1 (Nat.le_of_ble_eq_true rfl) fl_RX9_36 rfl dX9_read_76 rfl ?_
          obtain ⟨r20, hr20, hf⟩ := bd_s hf
          refine sw_callV (pc' := 82) (As := []) (rest := [.long (((sh x2).1) (x3).toNatClampNeg)]) cx (k_X4_climb l D m1 (g 5) ka cI cJ cK cS tr  r20 hr20) pk_yX4_climb ml_RX9_160 ⟨rfl, rfl⟩ ⟨(Nat.le_of_ble_eq_true rfl), (Nat.le_of_ble_eq_true rfl)⟩ ⟨(Nat.le_of_ble_eq_true rfl), (Nat.le_of_ble_eq_true rfl)⟩ [11, 12, 13, 14, 15, 16, 17, 18, 19, 20, 31, 32, 33, 34, 35, 36, 37] sx_C_tr sx_n_tr (mt_fst _ _ _ _ _ _ _) (wn := (sx_W g m0 m1 m2 ka sa sn cI cJ cK cS mu tr ke kp tby tlen ttok tsta tbeh tnum ttak sh fi)) sx_w_tr 0 rfl rfl rfl rfl (Nat.le_of_ble_eq_true rfl) rfl dX9_read_79 rfl ?_
          refine sw_i2l (pc' := 83) cx dX9_read_82 rfl ?_
          refine sw_lcmp (pc' := 84) cx dX9_read_83 rfl ?_
          refine sw_if_eq (pc' := 87) (tgt := 91) cx dX9_read_84 (by decide) rfl (fun c21 => ?_) (fun c21 => ?_)
          · replace hf := it_p c21 hf
            refine sw_aload_n (pc' := 92) (i := 0) cx dX9_read_91 rfl 0 rfl rfl ?_
            refine sw_get (pc' := 95) cx in_X9 0 rfl rfl 1 (Nat.le_of_ble_eq_true rfl) fl_RX9_36 rfl dX9_read_92 rfl ?_
            refine sw_iconst (pc' := 96) (v := 1) cx dX9_read_95 iconst_1 rfl ?_
            obtain ⟨r22, hr22, hf⟩ := bd_s hf
            refine sw_callV (pc' := 99) (As := [.int (1 : Int32)]) (rest := []) cx (k_X4_goYears l D m1 (g 5) ka cI cJ cK cS tr (1 : Int32) r22 hr22) pk_yX4_goYears ml_RX9_175 ⟨rfl, rfl⟩ ⟨(Nat.le_of_ble_eq_true rfl), (Nat.le_of_ble_eq_true rfl)⟩ ⟨(Nat.le_of_ble_eq_true rfl), (Nat.le_of_ble_eq_true rfl)⟩ [11, 12, 13, 14, 15, 16, 17, 18, 19, 20, 31, 32, 33, 34, 35, 36, 37] sx_C_tr sx_n_tr (mt_fst _ _ _ _ _ _ _) (wn := (sx_W g m0 m1 m2 ka sa sn cI cJ cK cS mu r22 ke kp tby tlen ttok tsta tbeh tnum ttak sh fi)) sx_w_tr 0 rfl rfl rfl rfl (Nat.le_of_ble_eq_true rfl) rfl dX9_read_96 rfl ?_
            refine sw_iinc (pc' := 102) (v := (x3 + (1 : Int32))) (lv' := [(3, .int (x3 + (1 : Int32))), (0, .ref (g 0)), (2, .ref (sa x2))]) cx dX9_read_99 2 rfl rfl (Nat.le_of_ble_eq_true rfl) rfl rfl ?_
            refine sw_goto (tgt := 54) cx dX9_read_102 (by decide) ?_
            exact sw_lv [1, 2, 0] rfl (ih r22 fi x2 (x3 + (1 : Int32)) hf)
          · replace hf := it_n c21 hf
            refine sw_iconst (pc' := 88) (v := 1) cx dX9_read_87 iconst_1 rfl ?_
            refine sw_iload_n (pc' := 89) (i := 3) cx dX9_read_88 rfl 2 rfl rfl ?_
            refine sw_iadd (pc' := 90) cx dX9_read_89 rfl ?_
            obtain rfl := Option.some.inj hf
            exact sw_iret cx hr hQ dX9_read_90
  unfold f_X9_read at hf
  refine sw_iload_n (pc' := 1) (i := 1) cx dX9_read_0 rfl 1 rfl rfl ?_
  obtain ⟨r1, hr1, hf⟩ := bd_s hf
  refine sw_callS (pc' := 4) (As := [.int a0]) (rest := []) cx (k_X9_isSheet l D cI cJ cK cS a0 r1 hr1) pk_yX9_isSheet ml_RX9_218 ⟨rfl, rfl⟩ ⟨(Nat.le_of_ble_eq_true rfl), (Nat.le_of_ble_eq_true rfl)⟩ ⟨(Nat.le_of_ble_eq_true rfl), (Nat.le_of_ble_eq_true rfl)⟩ [] rfl rfl rfl (wn := (sx_W g m0 m1 m2 ka sa sn cI cJ cK cS mu tr ke kp tby tlen ttok tsta tbeh tnum ttak sh fi)) rfl rfl (Nat.le_of_ble_eq_true rfl) rfl dX9_read_1 rfl ?_
  refine sw_if_ne (pc' := 7) (tgt := 13) cx dX9_read_4 (by decide) rfl (fun c2 => ?_) (fun c2 => ?_)
  · replace hf := it_n c2 hf
    refine sw_aload_n (pc' := 14) (i := 0) cx dX9_read_13 rfl 0 rfl rfl ?_
    refine sw_get (pc' := 17) cx in_X9 0 rfl rfl 5 (Nat.le_of_ble_eq_true rfl) fl_RX9_52 rfl dX9_read_14 rfl ?_
    refine sw_iload_n (pc' := 18) (i := 1) cx dX9_read_17 rfl 1 rfl rfl ?_
    obtain ⟨h3, hf⟩ := gx_s hf
    refine sw_aaldS (pc' := 19) cx 40 3 rfl rfl h3 dX9_read_18 rfl ?_
    refine sw_astore_n (pc' := 20) (i := 2) (lv' := [(2, .ref (sa (a0).toNatClampNeg)), (0, .ref (g 0)), (1, .int a0)]) cx dX9_read_19 rfl (Nat.le_of_ble_eq_true rfl) rfl rfl ?_
    refine sw_aload_n (pc' := 21) (i := 2) cx dX9_read_20 rfl 0 rfl rfl ?_
    obtain ⟨h4, hf⟩ := gk_s hf
    obtain ⟨r5, hr5, hf⟩ := bd_s hf
    refine sw_callV (pc' := 24) (As := []) (rest := []) cx (k_X7_isMissing l D (sa (a0).toNatClampNeg) (sn (a0).toNatClampNeg) cI cJ cK cS ((sh (a0).toNatClampNeg).1) ((sh (a0).toNatClampNeg).2.1) ((sh (a0).toNatClampNeg).2.2)  r5 hr5) pk_yX7_isMissing ml_RX9_225 ⟨rfl, rfl⟩ ⟨(Nat.le_of_ble_eq_true rfl), (Nat.le_of_ble_eq_true rfl)⟩ ⟨(Nat.le_of_ble_eq_true rfl), (Nat.le_of_ble_eq_true rfl)⟩ [41 + 2 * (a0).toNatClampNeg, 42 + 2 * (a0).toNatClampNeg] (sx_sC h4) (sx_nd (a0).toNatClampNeg) rfl (wn := (sx_W g m0 m1 m2 ka sa sn cI cJ cK cS mu tr ke kp tby tlen ttok tsta tbeh tnum ttak sh fi)) (sx_sz h4) 0 rfl rfl rfl rfl (Nat.le_of_ble_eq_true rfl) rfl dX9_read_21 rfl ?_
    refine sw_if_eq (pc' := 27) (tgt := 33) cx dX9_read_24 (by decide) rfl (fun c6 => ?_) (fun c6 => ?_)
    · replace hf := it_p c6 hf
      refine sw_aload_n (pc' := 34) (i := 0) cx dX9_read_33 rfl 1 rfl rfl ?_
      refine sw_bipush (pc' := 36) (v := 40) cx dX9_read_34 bipush_40 rfl ?_
      obtain ⟨r7, hr7, hf⟩ := bd_s hf
      refine sw_callVw (pc' := 39) (As := [.int (40 : Int32)]) (rest := []) (w' := (sx_W g m0 m1 m2 ka sa sn cI cJ cK cS mu tr ke kp tby tlen ttok tsta tbeh tnum ttak sh fi)) cx (k_X9_isTooLateFor l D g m0 m1 m2 ka sa sn cI cJ cK cS mu tr ke kp tby tlen ttok tsta tbeh tnum ttak sh fi (40 : Int32) r7 hr7) pk_yX9_isTooLateFor ml_RX9_193 ⟨rfl, rfl⟩ ⟨(Nat.le_of_ble_eq_true rfl), (Nat.le_of_ble_eq_true rfl)⟩ ⟨(Nat.le_of_ble_eq_true rfl), (Nat.le_of_ble_eq_true rfl)⟩ 0 rfl rfl rfl rfl (Nat.le_of_ble_eq_true rfl) rfl dX9_read_36 rfl ?_
      refine sw_if_eq (pc' := 42) (tgt := 48) cx dX9_read_39 (by decide) rfl (fun c8 => ?_) (fun c8 => ?_)
      · replace hf := it_p c8 hf
        refine sw_aload_n (pc' := 49) (i := 0) cx dX9_read_48 rfl 1 rfl rfl ?_
        obtain ⟨r9, hr9, hf⟩ := bd_s hf
        refine sw_callVw (pc' := 52) (As := []) (rest := []) (w' := (sx_W g m0 m1 m2 ka sa sn cI cJ cK cS mu r9 ke kp tby tlen ttok tsta tbeh tnum ttak sh fi)) cx (k_X9_startTrial l D g m0 m1 m2 ka sa sn cI cJ cK cS mu tr ke kp tby tlen ttok tsta tbeh tnum ttak sh fi  r9 hr9) pk_yX9_startTrial ml_RX9_190 ⟨rfl, rfl⟩ ⟨(Nat.le_of_ble_eq_true rfl), (Nat.le_of_ble_eq_true rfl)⟩ ⟨(Nat.le_of_ble_eq_true rfl), (Nat.le_of_ble_eq_true rfl)⟩ 0 rfl rfl rfl rfl (Nat.le_of_ble_eq_true rfl) rfl dX9_read_49 rfl ?_
        refine sw_iconst (pc' := 53) (v := 0) cx dX9_read_52 iconst_0 rfl ?_
        refine sw_istore_n (pc' := 54) (i := 3) (lv' := [(3, .int (0 : Int32)), (2, .ref (sa (a0).toNatClampNeg)), (0, .ref (g 0)), (1, .int a0)]) cx dX9_read_53 rfl (Nat.le_of_ble_eq_true rfl) rfl rfl ?_
        exact sw_lv [2, 1, 0] rfl (B54 1000 r9 fi (a0).toNatClampNeg (0 : Int32) hf)
      · replace hf := it_n c8 hf
        refine sw_aload_n (pc' := 43) (i := 0) cx dX9_read_42 rfl 1 rfl rfl ?_
        refine sw_iconst (pc' := 44) (v := 4) cx dX9_read_43 iconst_4 rfl ?_
        obtain ⟨r10, hr10, hf⟩ := bd_s hf
        refine sw_callVw (pc' := 47) (As := [.int (4 : Int32)]) (rest := []) (w' := (sx_W g m0 m1 m2 ka sa sn cI cJ cK cS mu tr ke kp tby tlen ttok tsta tbeh tnum ttak sh r10.2)) cx (k_X9_found l D g m0 m1 m2 ka sa sn cI cJ cK cS mu tr ke kp tby tlen ttok tsta tbeh tnum ttak sh fi (4 : Int32) r10 hr10) pk_yX9_found ml_RX9_68 ⟨rfl, rfl⟩ ⟨(Nat.le_of_ble_eq_true rfl), (Nat.le_of_ble_eq_true rfl)⟩ ⟨(Nat.le_of_ble_eq_true rfl), (Nat.le_of_ble_eq_true rfl)⟩ 0 rfl rfl rfl rfl (Nat.le_of_ble_eq_true rfl) rfl dX9_read_44 rfl ?_
        obtain rfl := Option.some.inj hf
        exact sw_iret cx hr hQ dX9_read_47
    · replace hf := it_n c6 hf
      refine sw_aload_n (pc' := 28) (i := 0) cx dX9_read_27 rfl 1 rfl rfl ?_
      refine sw_iconst (pc' := 29) (v := 5) cx dX9_read_28 iconst_5 rfl ?_
      obtain ⟨r11, hr11, hf⟩ := bd_s hf
      refine sw_callVw (pc' := 32) (As := [.int (5 : Int32)]) (rest := []) (w' := (sx_W g m0 m1 m2 ka sa sn cI cJ cK cS mu tr ke kp tby tlen ttok tsta tbeh tnum ttak sh r11.2)) cx (k_X9_found l D g m0 m1 m2 ka sa sn cI cJ cK cS mu tr ke kp tby tlen ttok tsta tbeh tnum ttak sh fi (5 : Int32) r11 hr11) pk_yX9_found ml_RX9_68 ⟨rfl, rfl⟩ ⟨(Nat.le_of_ble_eq_true rfl), (Nat.le_of_ble_eq_true rfl)⟩ ⟨(Nat.le_of_ble_eq_true rfl), (Nat.le_of_ble_eq_true rfl)⟩ 0 rfl rfl rfl rfl (Nat.le_of_ble_eq_true rfl) rfl dX9_read_29 rfl ?_
      obtain rfl := Option.some.inj hf
      exact sw_iret cx hr hQ dX9_read_32
  · replace hf := it_p c2 hf
    refine sw_aload_n (pc' := 8) (i := 0) cx dX9_read_7 rfl 0 rfl rfl ?_
    refine sw_iconst (pc' := 9) (v := 0) cx dX9_read_8 iconst_0 rfl ?_
    obtain ⟨r12, hr12, hf⟩ := bd_s hf
    refine sw_callVw (pc' := 12) (As := [.int (0 : Int32)]) (rest := []) (w' := (sx_W g m0 m1 m2 ka sa sn cI cJ cK cS mu tr ke kp tby tlen ttok tsta tbeh tnum ttak sh r12.2)) cx (k_X9_found l D g m0 m1 m2 ka sa sn cI cJ cK cS mu tr ke kp tby tlen ttok tsta tbeh tnum ttak sh fi (0 : Int32) r12 hr12) pk_yX9_found ml_RX9_68 ⟨rfl, rfl⟩ ⟨(Nat.le_of_ble_eq_true rfl), (Nat.le_of_ble_eq_true rfl)⟩ ⟨(Nat.le_of_ble_eq_true rfl), (Nat.le_of_ble_eq_true rfl)⟩ 0 rfl rfl rfl rfl (Nat.le_of_ble_eq_true rfl) rfl dX9_read_9 rfl ?_
    obtain rfl := Option.some.inj hf
    exact sw_iret cx hr hQ dX9_read_12
abbrev rm_X9_image : Room := ({ frames := 2, cells := 0, slots := 0, locals := 50 } : Room)
set_option maxRecDepth 100000 in
set_option maxHeartbeats 4000000 in
theorem k_X9_image (l : Launch) (D : sf_D) (g m0 m1 m2 ka sa sn : Nat → Nat) (cI cJ cK cS : ClassId) (mu : MtS) (tr : MtS) (ke : MtS) (kp : Int32) (tby : Nat → Int32) (tlen : Int32) (ttok : Int32) (tsta : Int32) (tbeh : Int32) (tnum : Int32) (ttak : Int32) (sh : Nat → ShS) (fi : Nat → Int32)  (res : Int32 × MtS × Int32) (hf : f_X9_image mu ke kp = some res) : sf_Ct l yX9_image cX9_image 1 (some .int) rm_X9_image D (sf_ty cI cJ cK cS) [.ref (g 0)] (sx_W g m0 m1 m2 ka sa sn cI cJ cK cS mu tr ke kp tby tlen ttok tsta tbeh tnum ttak sh fi) (some (.int res.1)) (sx_W g m0 m1 m2 ka sa sn cI cJ cK cS mu tr res.2.1 res.2.2 tby tlen ttok tsta tbeh tnum ttak sh fi) := by
  refine sf_met (lv := [(0, .ref (g 0))]) (by decide) (Nat.le_of_ble_eq_true rfl) rfl ?_
  intro p e s m args below meth c A Q cx hr hQ
  have cx : sf_Cx p m meth c cX9_image 1 s args RX9 D (sf_ty cI cJ cK cS) A := cx
  unfold f_X9_image at hf
  refine sw_aload_n (pc' := 1) (i := 0) cx dX9_image_0 rfl 0 rfl rfl ?_
  refine sw_get (pc' := 4) cx in_X9 0 rfl rfl 2 (Nat.le_of_ble_eq_true rfl) fl_RX9_39 rfl dX9_image_1 rfl ?_
  refine sw_aload_n (pc' := 5) (i := 0) cx dX9_image_4 rfl 0 rfl rfl ?_
  refine sw_get (pc' := 8) cx in_X9 0 rfl rfl 0 (Nat.le_of_ble_eq_true rfl) fl_RX9_32 rfl dX9_image_5 rfl ?_
  obtain ⟨r1, hr1, hf⟩ := bd_s hf
  refine sw_callV (pc' := 11) (As := [.ref (m0 0)]) (rest := []) cx (k_X4_become l D m2 m0 (g 5) (g 5) cI cJ cK cS ke mu  r1 hr1) pk_yX4_become ml_RX9_214 ⟨rfl, rfl⟩ ⟨(Nat.le_of_ble_eq_true rfl), (Nat.le_of_ble_eq_true rfl)⟩ ⟨(Nat.le_of_ble_eq_true rfl), (Nat.le_of_ble_eq_true rfl)⟩ [21, 22, 23, 24, 25, 26, 27, 28, 29, 30, 1, 2, 3, 4, 5, 6, 7, 8, 9, 10] sx_C_ke_mu sx_n_ke_mu (mm_fst _ _ _ _ _ _ _ _) (wn := (sx_W g m0 m1 m2 ka sa sn cI cJ cK cS mu tr r1 kp tby tlen ttok tsta tbeh tnum ttak sh fi)) sx_w_ke_mu 0 rfl rfl rfl rfl (Nat.le_of_ble_eq_true rfl) rfl dX9_image_8 rfl ?_
  refine sw_aload_n (pc' := 12) (i := 0) cx dX9_image_11 rfl 0 rfl rfl ?_
  refine sw_iconst (pc' := 13) (v := 1) cx dX9_image_12 iconst_1 rfl ?_
  refine sw_put (pc' := 16) (ws' := (sx_W g m0 m1 m2 ka sa sn cI cJ cK cS mu tr r1 (1 : Int32) tby tlen ttok tsta tbeh tnum ttak sh fi)) cx in_X9 tyX9 tyX9_ok nmX9 0 rfl rfl 3 (Nat.le_of_ble_eq_true rfl) fl_RX9_250 rfl (by decide +kernel) (by decide +kernel) (Nat.le_of_ble_eq_true rfl) dX9_image_13 rfl rfl ?_
  refine sw_iconst (pc' := 17) (v := 1) cx dX9_image_16 iconst_1 rfl ?_
  obtain rfl := Option.some.inj hf
  exact sw_iret cx hr hQ dX9_image_17
abbrev rm_X9_undo : Room := ({ frames := 2, cells := 0, slots := 0, locals := 50 } : Room)
set_option maxRecDepth 100000 in
set_option maxHeartbeats 4000000 in
theorem k_X9_undo (l : Launch) (D : sf_D) (g m0 m1 m2 ka sa sn : Nat → Nat) (cI cJ cK cS : ClassId) (mu : MtS) (tr : MtS) (ke : MtS) (kp : Int32) (tby : Nat → Int32) (tlen : Int32) (ttok : Int32) (tsta : Int32) (tbeh : Int32) (tnum : Int32) (ttak : Int32) (sh : Nat → ShS) (fi : Nat → Int32)  (res : Int32 × MtS × (Nat → Int32)) (hf : f_X9_undo mu ke kp fi = some res) : sf_Ct l yX9_undo cX9_undo 1 (some .int) rm_X9_undo D (sf_ty cI cJ cK cS) [.ref (g 0)] (sx_W g m0 m1 m2 ka sa sn cI cJ cK cS mu tr ke kp tby tlen ttok tsta tbeh tnum ttak sh fi) (some (.int res.1)) (sx_W g m0 m1 m2 ka sa sn cI cJ cK cS res.2.1 tr ke kp tby tlen ttok tsta tbeh tnum ttak sh res.2.2) := by
  refine sf_met (lv := [(0, .ref (g 0))]) (by decide) (Nat.le_of_ble_eq_true rfl) rfl ?_
  intro p e s m args below meth c A Q cx hr hQ
  have cx : sf_Cx p m meth c cX9_undo 1 s args RX9 D (sf_ty cI cJ cK cS) A := cx
  unfold f_X9_undo at hf
  refine sw_aload_n (pc' := 1) (i := 0) cx dX9_undo_0 rfl 0 rfl rfl ?_
  refine sw_get (pc' := 4) cx in_X9 0 rfl rfl 3 (Nat.le_of_ble_eq_true rfl) fl_RX9_250 rfl dX9_undo_1 rfl ?_
  refine sw_if_ne (pc' := 7) (tgt := 13) cx dX9_undo_4 (by decide) rfl (fun c1 => ?_) (fun c1 => ?_)
  · replace hf := it_n c1 hf
    refine sw_aload_n (pc' := 14) (i := 0) cx dX9_undo_13 rfl 0 rfl rfl ?_
    refine sw_get (pc' := 17) cx in_X9 0 rfl rfl 0 (Nat.le_of_ble_eq_true rfl) fl_RX9_32 rfl dX9_undo_14 rfl ?_
    refine sw_aload_n (pc' := 18) (i := 0) cx dX9_undo_17 rfl 0 rfl rfl ?_
    refine sw_get (pc' := 21) cx in_X9 0 rfl rfl 2 (Nat.le_of_ble_eq_true rfl) fl_RX9_39 rfl dX9_undo_18 rfl ?_
    obtain ⟨r2, hr2, hf⟩ := bd_s hf
    refine sw_callV (pc' := 24) (As := [.ref (m2 0)]) (rest := []) cx (k_X4_become l D m0 m2 (g 5) (g 5) cI cJ cK cS mu ke  r2 hr2) pk_yX4_become ml_RX9_214 ⟨rfl, rfl⟩ ⟨(Nat.le_of_ble_eq_true rfl), (Nat.le_of_ble_eq_true rfl)⟩ ⟨(Nat.le_of_ble_eq_true rfl), (Nat.le_of_ble_eq_true rfl)⟩ [1, 2, 3, 4, 5, 6, 7, 8, 9, 10, 21, 22, 23, 24, 25, 26, 27, 28, 29, 30] sx_C_mu_ke sx_n_mu_ke (mm_fst _ _ _ _ _ _ _ _) (wn := (sx_W g m0 m1 m2 ka sa sn cI cJ cK cS r2 tr ke kp tby tlen ttok tsta tbeh tnum ttak sh fi)) sx_w_mu_ke 0 rfl rfl rfl rfl (Nat.le_of_ble_eq_true rfl) rfl dX9_undo_21 rfl ?_
    refine sw_aload_n (pc' := 25) (i := 0) cx dX9_undo_24 rfl 0 rfl rfl ?_
    refine sw_get (pc' := 28) cx in_X9 0 rfl rfl 0 (Nat.le_of_ble_eq_true rfl) fl_RX9_32 rfl dX9_undo_25 rfl ?_
    refine sw_getN (pc' := 31) cx in_X4 1 rfl rfl 10 (Nat.le_of_ble_eq_true rfl) fn_RX9_93 rfl dX9_undo_28 rfl ?_
    obtain rfl := Option.some.inj hf
    exact sw_iret cx hr hQ dX9_undo_31
  · replace hf := it_p c1 hf
    refine sw_aload_n (pc' := 8) (i := 0) cx dX9_undo_7 rfl 0 rfl rfl ?_
    refine sw_iconst (pc' := 9) (v := 3) cx dX9_undo_8 iconst_3 rfl ?_
    obtain ⟨r3, hr3, hf⟩ := bd_s hf
    refine sw_callVw (pc' := 12) (As := [.int (3 : Int32)]) (rest := []) (w' := (sx_W g m0 m1 m2 ka sa sn cI cJ cK cS mu tr ke kp tby tlen ttok tsta tbeh tnum ttak sh r3.2)) cx (k_X9_found l D g m0 m1 m2 ka sa sn cI cJ cK cS mu tr ke kp tby tlen ttok tsta tbeh tnum ttak sh fi (3 : Int32) r3 hr3) pk_yX9_found ml_RX9_68 ⟨rfl, rfl⟩ ⟨(Nat.le_of_ble_eq_true rfl), (Nat.le_of_ble_eq_true rfl)⟩ ⟨(Nat.le_of_ble_eq_true rfl), (Nat.le_of_ble_eq_true rfl)⟩ 0 rfl rfl rfl rfl (Nat.le_of_ble_eq_true rfl) rfl dX9_undo_9 rfl ?_
    obtain rfl := Option.some.inj hf
    exact sw_iret cx hr hQ dX9_undo_12
abbrev rm_X9_tear : Room := ({ frames := 0, cells := 0, slots := 0, locals := 0 } : Room)
set_option maxRecDepth 100000 in
set_option maxHeartbeats 4000000 in
theorem k_X9_tear (l : Launch) (D : sf_D) (g m0 m1 m2 ka sa sn : Nat → Nat) (cI cJ cK cS : ClassId) (mu : MtS) (tr : MtS) (ke : MtS) (kp : Int32) (tby : Nat → Int32) (tlen : Int32) (ttok : Int32) (tsta : Int32) (tbeh : Int32) (tnum : Int32) (ttak : Int32) (sh : Nat → ShS) (fi : Nat → Int32)  (res : Int32 × Int32) (hf : f_X9_tear kp = some res) : sf_Ct l yX9_tear cX9_tear 2 (some .int) rm_X9_tear D (sf_ty cI cJ cK cS) [.ref (g 0)] (sx_W g m0 m1 m2 ka sa sn cI cJ cK cS mu tr ke kp tby tlen ttok tsta tbeh tnum ttak sh fi) (some (.int res.1)) (sx_W g m0 m1 m2 ka sa sn cI cJ cK cS mu tr ke res.2 tby tlen ttok tsta tbeh tnum ttak sh fi) := by
  refine sf_met (lv := [(0, .ref (g 0))]) (by decide) (Nat.le_of_ble_eq_true rfl) rfl ?_
  intro p e s m args below meth c A Q cx hr hQ
  have cx : sf_Cx p m meth c cX9_tear 2 s args RX9 D (sf_ty cI cJ cK cS) A := cx
  have B12 : ∀ (kp : Int32) (s0 : Int32), f_X9_tear_b12 kp s0 = some res → sf_W p l e rm_X9_tear s m args below meth c 0 0 Q 2 D A (sx_W g m0 m1 m2 ka sa sn cI cJ cK cS mu tr ke kp tby tlen ttok tsta tbeh tnum ttak sh fi) [(0, .ref (g 0))] 12 [.int s0] := by
    intro kp s0 hf
    unfold f_X9_tear_b12 at hf
    refine sw_istore_n (pc' := 13) (i := 1) (lv' := [(1, .int s0), (0, .ref (g 0))]) cx dX9_tear_12 rfl (Nat.le_of_ble_eq_true rfl) rfl rfl ?_
    refine sw_aload_n (pc' := 14) (i := 0) cx dX9_tear_13 rfl 1 rfl rfl ?_
    refine sw_iconst (pc' := 15) (v := 0) cx dX9_tear_14 iconst_0 rfl ?_
    refine sw_put (pc' := 18) (ws' := (sx_W g m0 m1 m2 ka sa sn cI cJ cK cS mu tr ke (0 : Int32) tby tlen ttok tsta tbeh tnum ttak sh fi)) cx in_X9 tyX9 tyX9_ok nmX9 0 rfl rfl 3 (Nat.le_of_ble_eq_true rfl) fl_RX9_250 rfl (by decide +kernel) (by decide +kernel) (Nat.le_of_ble_eq_true rfl) dX9_tear_15 rfl rfl ?_
    refine sw_iload_n (pc' := 19) (i := 1) cx dX9_tear_18 rfl 0 rfl rfl ?_
    obtain rfl := Option.some.inj hf
    exact sw_iret cx hr hQ dX9_tear_19
  unfold f_X9_tear at hf
  refine sw_aload_n (pc' := 1) (i := 0) cx dX9_tear_0 rfl 0 rfl rfl ?_
  refine sw_get (pc' := 4) cx in_X9 0 rfl rfl 3 (Nat.le_of_ble_eq_true rfl) fl_RX9_250 rfl dX9_tear_1 rfl ?_
  refine sw_if_eq (pc' := 7) (tgt := 11) cx dX9_tear_4 (by decide) rfl (fun c1 => ?_) (fun c1 => ?_)
  · replace hf := it_p c1 hf
    refine sw_iconst (pc' := 12) (v := 0) cx dX9_tear_11 iconst_0 rfl ?_
    exact sw_lv [0] rfl (B12 kp (0 : Int32) hf)
  · replace hf := it_n c1 hf
    refine sw_iconst (pc' := 8) (v := 1) cx dX9_tear_7 iconst_1 rfl ?_
    refine sw_goto (tgt := 12) cx dX9_tear_8 (by decide) ?_
    exact sw_lv [0] rfl (B12 kp (1 : Int32) hf)
abbrev rm_X9_count : Room := ({ frames := 3, cells := 0, slots := 0, locals := 63 } : Room)
set_option maxRecDepth 100000 in
set_option maxHeartbeats 4000000 in
theorem k_X9_count (l : Launch) (D : sf_D) (g m0 m1 m2 ka sa sn : Nat → Nat) (cI cJ cK cS : ClassId) (mu : MtS) (tr : MtS) (ke : MtS) (kp : Int32) (tby : Nat → Int32) (tlen : Int32) (ttok : Int32) (tsta : Int32) (tbeh : Int32) (tnum : Int32) (ttak : Int32) (sh : Nat → ShS) (fi : Nat → Int32) (a0 : Int32) (res : Int32 × (Nat → Int32)) (hf : f_X9_count mu tlen fi a0 = some res) : sf_Ct l yX9_count cX9_count 2 (some .int) rm_X9_count D (sf_ty cI cJ cK cS) [.ref (g 0), .int a0] (sx_W g m0 m1 m2 ka sa sn cI cJ cK cS mu tr ke kp tby tlen ttok tsta tbeh tnum ttak sh fi) (some (.int res.1)) (sx_W g m0 m1 m2 ka sa sn cI cJ cK cS mu tr ke kp tby tlen ttok tsta tbeh tnum ttak sh res.2) := by
  refine sf_met (lv := [(0, .ref (g 0)), (1, .int a0)]) (by decide) (Nat.le_of_ble_eq_true rfl) rfl ?_
  intro p e s m args below meth c A Q cx hr hQ
  have cx : sf_Cx p m meth c cX9_count 2 s args RX9 D (sf_ty cI cJ cK cS) A := cx
  unfold f_X9_count at hf
  refine sw_iload_n (pc' := 1) (i := 1) cx dX9_count_0 rfl 1 rfl rfl ?_
  by_cases c1 : a0 = (0 : Int32)
  · replace hf := it_p c1 hf
    refine sw_tableEq (tgt := 32) cx c1 dX9_count_1 (by decide +kernel) (by decide +kernel) rfl (by decide) ?_
    refine sw_aload_n (pc' := 33) (i := 0) cx dX9_count_32 rfl 0 rfl rfl ?_
    refine sw_get (pc' := 36) cx in_X9 0 rfl rfl 0 (Nat.le_of_ble_eq_true rfl) fl_RX9_32 rfl dX9_count_33 rfl ?_
    refine sw_getN (pc' := 39) cx in_X4 1 rfl rfl 10 (Nat.le_of_ble_eq_true rfl) fn_RX9_93 rfl dX9_count_36 rfl ?_
    obtain rfl := Option.some.inj hf
    exact sw_iret cx hr hQ dX9_count_39
  replace hf := it_n c1 hf
  by_cases c2 : a0 = (1 : Int32)
  · replace hf := it_p c2 hf
    refine sw_tableEq (tgt := 40) cx c2 dX9_count_1 (by decide +kernel) (by decide +kernel) rfl (by decide) ?_
    refine sw_aload_n (pc' := 41) (i := 0) cx dX9_count_40 rfl 0 rfl rfl ?_
    refine sw_get (pc' := 44) cx in_X9 0 rfl rfl 4 (Nat.le_of_ble_eq_true rfl) fl_RX9_45 rfl dX9_count_41 rfl ?_
    refine sw_getN (pc' := 47) cx in_X8 38 rfl rfl 2 (Nat.le_of_ble_eq_true rfl) fn_RX9_204 rfl dX9_count_44 rfl ?_
    obtain rfl := Option.some.inj hf
    exact sw_iret cx hr hQ dX9_count_47
  replace hf := it_n c2 hf
  by_cases c3 : a0 = (2 : Int32)
  · replace hf := it_p c3 hf
    refine sw_tableEq (tgt := 48) cx c3 dX9_count_1 (by decide +kernel) (by decide +kernel) rfl (by decide) ?_
    refine sw_aload_n (pc' := 49) (i := 0) cx dX9_count_48 rfl 0 rfl rfl ?_
    refine sw_get (pc' := 52) cx in_X9 0 rfl rfl 0 (Nat.le_of_ble_eq_true rfl) fl_RX9_32 rfl dX9_count_49 rfl ?_
    obtain ⟨r4, hr4, hf⟩ := bd_s hf
    refine sw_callV (pc' := 55) (As := []) (rest := []) cx (k_X4_highOfAll l D m0 (g 5) ka cI cJ cK cS mu  r4 hr4) pk_yX4_highOfAll ml_RX9_254 ⟨rfl, rfl⟩ ⟨(Nat.le_of_ble_eq_true rfl), (Nat.le_of_ble_eq_true rfl)⟩ ⟨(Nat.le_of_ble_eq_true rfl), (Nat.le_of_ble_eq_true rfl)⟩ [1, 2, 3, 4, 5, 6, 7, 8, 9, 10, 31, 32, 33, 34, 35, 36, 37] sx_C_mu sx_n_mu (mt_fst _ _ _ _ _ _ _) (wn := (sx_W g m0 m1 m2 ka sa sn cI cJ cK cS mu tr ke kp tby tlen ttok tsta tbeh tnum ttak sh fi)) sx_w_mu 0 rfl rfl rfl rfl (Nat.le_of_ble_eq_true rfl) rfl dX9_count_52 rfl ?_
    obtain rfl := Option.some.inj hf
    exact sw_iret cx hr hQ dX9_count_55
  replace hf := it_n c3 hf
  by_cases c5 : a0 = (3 : Int32)
  · replace hf := it_p c5 hf
    refine sw_tableEq (tgt := 56) cx c5 dX9_count_1 (by decide +kernel) (by decide +kernel) rfl (by decide) ?_
    refine sw_aload_n (pc' := 57) (i := 0) cx dX9_count_56 rfl 0 rfl rfl ?_
    refine sw_get (pc' := 60) cx in_X9 0 rfl rfl 0 (Nat.le_of_ble_eq_true rfl) fl_RX9_32 rfl dX9_count_57 rfl ?_
    refine sw_getN (pc' := 63) cx in_X4 1 rfl rfl 9 (Nat.le_of_ble_eq_true rfl) fn_RX9_181 rfl dX9_count_60 rfl ?_
    obtain rfl := Option.some.inj hf
    exact sw_iret cx hr hQ dX9_count_63
  replace hf := it_n c5 hf
  refine sw_tableOut (tgt := 64) cx dX9_count_1 (by have := sf_ne (k := 0) c1 (by decide +kernel); have := sf_ne (k := 1) c2 (by decide +kernel); have := sf_ne (k := 2) c3 (by decide +kernel); have := sf_ne (k := 3) c5 (by decide +kernel); omega) (by decide) ?_
  refine sw_aload_n (pc' := 65) (i := 0) cx dX9_count_64 rfl 0 rfl rfl ?_
  refine sw_iconst (pc' := 66) (v := 0) cx dX9_count_65 iconst_0 rfl ?_
  obtain ⟨r6, hr6, hf⟩ := bd_s hf
  refine sw_callVw (pc' := 69) (As := [.int (0 : Int32)]) (rest := []) (w' := (sx_W g m0 m1 m2 ka sa sn cI cJ cK cS mu tr ke kp tby tlen ttok tsta tbeh tnum ttak sh r6.2)) cx (k_X9_found l D g m0 m1 m2 ka sa sn cI cJ cK cS mu tr ke kp tby tlen ttok tsta tbeh tnum ttak sh fi (0 : Int32) r6 hr6) pk_yX9_found ml_RX9_68 ⟨rfl, rfl⟩ ⟨(Nat.le_of_ble_eq_true rfl), (Nat.le_of_ble_eq_true rfl)⟩ ⟨(Nat.le_of_ble_eq_true rfl), (Nat.le_of_ble_eq_true rfl)⟩ 0 rfl rfl rfl rfl (Nat.le_of_ble_eq_true rfl) rfl dX9_count_66 rfl ?_
  obtain rfl := Option.some.inj hf
  exact sw_iret cx hr hQ dX9_count_69
abbrev rm_X9_status : Room := ({ frames := 2, cells := 0, slots := 0, locals := 43 } : Room)
set_option maxRecDepth 100000 in
set_option maxHeartbeats 4000000 in
theorem k_X9_status (l : Launch) (D : sf_D) (g m0 m1 m2 ka sa sn : Nat → Nat) (cI cJ cK cS : ClassId) (mu : MtS) (tr : MtS) (ke : MtS) (kp : Int32) (tby : Nat → Int32) (tlen : Int32) (ttok : Int32) (tsta : Int32) (tbeh : Int32) (tnum : Int32) (ttak : Int32) (sh : Nat → ShS) (fi : Nat → Int32) (a0 : Int32) (res : Int32 × (Nat → Int32)) (hf : f_X9_status fi a0 = some res) : sf_Ct l yX9_status cX9_status 4 (some .int) rm_X9_status D (sf_ty cI cJ cK cS) [.ref (g 0), .int a0] (sx_W g m0 m1 m2 ka sa sn cI cJ cK cS mu tr ke kp tby tlen ttok tsta tbeh tnum ttak sh fi) (some (.int res.1)) (sx_W g m0 m1 m2 ka sa sn cI cJ cK cS mu tr ke kp tby tlen ttok tsta tbeh tnum ttak sh res.2) := by
  refine sf_met (lv := [(0, .ref (g 0)), (1, .int a0)]) (by decide) (Nat.le_of_ble_eq_true rfl) rfl ?_
  intro p e s m args below meth c A Q cx hr hQ
  have cx : sf_Cx p m meth c cX9_status 4 s args RX9 D (sf_ty cI cJ cK cS) A := cx
  have B31 : ∀ (n : Nat), ∀ (fi : Nat → Int32) (x2 : Int32) (x3 : Int32), f_X9_status_b31 n fi x2 x3 = some res → sf_W p l e rm_X9_status s m args below meth c 0 0 Q 4 D A (sx_W g m0 m1 m2 ka sa sn cI cJ cK cS mu tr ke kp tby tlen ttok tsta tbeh tnum ttak sh fi) [(0, .ref (g 0)), (2, .int x2), (3, .int x3)] 31 [] := by
    intro n
    induction n with
    | zero => intro fi x2 x3 hf; rw [f_X9_status_b31] at hf; cases hf
    | succ n ih =>
      intro fi x2 x3 hf
      rw [f_X9_status_b31] at hf
      refine sw_iload_n (pc' := 32) (i := 3) cx dX9_status_31 rfl 2 rfl rfl ?_
      refine sw_bipush (pc' := 34) (v := 7) cx dX9_status_32 bipush_7 rfl ?_
      refine sw_icmp_ge (pc' := 37) (tgt := 52) cx dX9_status_34 (by decide) rfl (fun c6 => ?_) (fun c6 => ?_)
      · replace hf := it_p c6 hf
        refine sw_iload_n (pc' := 53) (i := 2) cx dX9_status_52 rfl 1 rfl rfl ?_
        obtain rfl := Option.some.inj hf
        exact sw_iret cx hr hQ dX9_status_53
      · replace hf := it_n c6 hf
        refine sw_iload_n (pc' := 38) (i := 2) cx dX9_status_37 rfl 1 rfl rfl ?_
        refine sw_aload_n (pc' := 39) (i := 0) cx dX9_status_38 rfl 0 rfl rfl ?_
        refine sw_get (pc' := 42) cx in_X9 0 rfl rfl 6 (Nat.le_of_ble_eq_true rfl) fl_RX9_56 rfl dX9_status_39 rfl ?_
        refine sw_iload_n (pc' := 43) (i := 3) cx dX9_status_42 rfl 2 rfl rfl ?_
        obtain ⟨h7, hf⟩ := gx_s hf
        refine sw_iald (pc' := 44) cx 49 0 rfl rfl h7 dX9_status_43 rfl ?_
        refine sw_iadd (pc' := 45) cx dX9_status_44 rfl ?_
        refine sw_istore_n (pc' := 46) (i := 2) (lv' := [(2, .int (x2 + (fi (x3).toNatClampNeg))), (0, .ref (g 0)), (3, .int x3)]) cx dX9_status_45 rfl (Nat.le_of_ble_eq_true rfl) rfl rfl ?_
        refine sw_iinc (pc' := 49) (v := (x3 + (1 : Int32))) (lv' := [(3, .int (x3 + (1 : Int32))), (2, .int (x2 + (fi (x3).toNatClampNeg))), (0, .ref (g 0))]) cx dX9_status_46 2 rfl rfl (Nat.le_of_ble_eq_true rfl) rfl rfl ?_
        refine sw_goto (tgt := 31) cx dX9_status_49 (by decide) ?_
        exact sw_lv [2, 1, 0] rfl (ih fi (x2 + (fi (x3).toNatClampNeg)) (x3 + (1 : Int32)) hf)
  unfold f_X9_status at hf
  refine sw_iload_n (pc' := 1) (i := 1) cx dX9_status_0 rfl 1 rfl rfl ?_
  refine sw_iconst (pc' := 2) (v := -1) cx dX9_status_1 iconst_m1 rfl ?_
  refine sw_bipush (pc' := 4) (v := 6) cx dX9_status_2 bipush_6 rfl ?_
  obtain ⟨r1, hr1, hf⟩ := bd_s hf
  refine sw_callS (pc' := 7) (As := [.int a0, .int (-1 : Int32), .int (6 : Int32)]) (rest := []) cx (k_X9_isWithin l D cI cJ cK cS a0 (-1 : Int32) (6 : Int32) r1 hr1) pk_yX9_isWithin ml_RX9_64 ⟨rfl, rfl⟩ ⟨(Nat.le_of_ble_eq_true rfl), (Nat.le_of_ble_eq_true rfl)⟩ ⟨(Nat.le_of_ble_eq_true rfl), (Nat.le_of_ble_eq_true rfl)⟩ [] rfl rfl rfl (wn := (sx_W g m0 m1 m2 ka sa sn cI cJ cK cS mu tr ke kp tby tlen ttok tsta tbeh tnum ttak sh fi)) rfl rfl (Nat.le_of_ble_eq_true rfl) rfl dX9_status_4 rfl ?_
  refine sw_if_ne (pc' := 10) (tgt := 16) cx dX9_status_7 (by decide) rfl (fun c2 => ?_) (fun c2 => ?_)
  · replace hf := it_n c2 hf
    refine sw_iload_n (pc' := 17) (i := 1) cx dX9_status_16 rfl 1 rfl rfl ?_
    refine sw_if_lt (pc' := 20) (tgt := 27) cx dX9_status_17 (by decide) rfl (fun c3 => ?_) (fun c3 => ?_)
    · replace hf := it_p c3 hf
      refine sw_iconst (pc' := 28) (v := 0) cx dX9_status_27 iconst_0 rfl ?_
      refine sw_istore_n (pc' := 29) (i := 2) (lv' := [(2, .int (0 : Int32)), (0, .ref (g 0)), (1, .int a0)]) cx dX9_status_28 rfl (Nat.le_of_ble_eq_true rfl) rfl rfl ?_
      refine sw_iconst (pc' := 30) (v := 0) cx dX9_status_29 iconst_0 rfl ?_
      refine sw_istore_n (pc' := 31) (i := 3) (lv' := [(3, .int (0 : Int32)), (2, .int (0 : Int32)), (0, .ref (g 0)), (1, .int a0)]) cx dX9_status_30 rfl (Nat.le_of_ble_eq_true rfl) rfl rfl ?_
      exact sw_lv [2, 1, 0] rfl (B31 1000 fi (0 : Int32) (0 : Int32) hf)
    · replace hf := it_n c3 hf
      refine sw_aload_n (pc' := 21) (i := 0) cx dX9_status_20 rfl 0 rfl rfl ?_
      refine sw_get (pc' := 24) cx in_X9 0 rfl rfl 6 (Nat.le_of_ble_eq_true rfl) fl_RX9_56 rfl dX9_status_21 rfl ?_
      refine sw_iload_n (pc' := 25) (i := 1) cx dX9_status_24 rfl 1 rfl rfl ?_
      obtain ⟨h4, hf⟩ := gx_s hf
      refine sw_iald (pc' := 26) cx 49 0 rfl rfl h4 dX9_status_25 rfl ?_
      obtain rfl := Option.some.inj hf
      exact sw_iret cx hr hQ dX9_status_26
  · replace hf := it_p c2 hf
    refine sw_aload_n (pc' := 11) (i := 0) cx dX9_status_10 rfl 0 rfl rfl ?_
    refine sw_iconst (pc' := 12) (v := 0) cx dX9_status_11 iconst_0 rfl ?_
    obtain ⟨r5, hr5, hf⟩ := bd_s hf
    refine sw_callVw (pc' := 15) (As := [.int (0 : Int32)]) (rest := []) (w' := (sx_W g m0 m1 m2 ka sa sn cI cJ cK cS mu tr ke kp tby tlen ttok tsta tbeh tnum ttak sh r5.2)) cx (k_X9_found l D g m0 m1 m2 ka sa sn cI cJ cK cS mu tr ke kp tby tlen ttok tsta tbeh tnum ttak sh fi (0 : Int32) r5 hr5) pk_yX9_found ml_RX9_68 ⟨rfl, rfl⟩ ⟨(Nat.le_of_ble_eq_true rfl), (Nat.le_of_ble_eq_true rfl)⟩ ⟨(Nat.le_of_ble_eq_true rfl), (Nat.le_of_ble_eq_true rfl)⟩ 0 rfl rfl rfl rfl (Nat.le_of_ble_eq_true rfl) rfl dX9_status_12 rfl ?_
    obtain rfl := Option.some.inj hf
    exact sw_iret cx hr hQ dX9_status_15
