abbrev rm_X9_startTrial : Room := ({ frames := 2, cells := 0, slots := 0, locals := 50 } : Room)
set_option maxRecDepth 100000 in
set_option maxHeartbeats 4000000 in
theorem k_X9_startTrial (l : Launch) (D : sf_D) (g m0 m1 m2 ka sa sn : Nat → Nat) (cI cJ cK cS : ClassId) (mu : MtS) (tr : MtS) (ke : MtS) (kp : Int32) (tby : Nat → Int32) (tlen : Int32) (ttok : Int32) (tsta : Int32) (tbeh : Int32) (tnum : Int32) (ttak : Int32) (sh : Nat → ShS) (fi : Nat → Int32)  (res : MtS) (hf : f_X9_startTrial mu tr = some res) : sf_Ct l yX9_startTrial cX9_startTrial 1 none rm_X9_startTrial D (sf_ty cI cJ cK cS) [.ref (g 0)] (sx_W g m0 m1 m2 ka sa sn cI cJ cK cS mu tr ke kp tby tlen ttok tsta tbeh tnum ttak sh fi) none (sx_W g m0 m1 m2 ka sa sn cI cJ cK cS mu res ke kp tby tlen ttok tsta tbeh tnum ttak sh fi) := by
  refine sf_met (lv := [(0, .ref (g 0))]) (by decide) (Nat.le_of_ble_eq_true rfl) rfl ?_
  intro p e s m args below meth c A Q cx hr hQ
  have cx : sf_Cx p m meth c cX9_startTrial 1 s args RX9 D (sf_ty cI cJ cK cS) A := cx
  unfold f_X9_startTrial at hf
  refine sw_aload_n (pc' := 1) (i := 0) cx dX9_startTrial_0 rfl 0 rfl rfl ?_
  refine sw_get (pc' := 4) cx in_X9 0 rfl rfl 1 (Nat.le_of_ble_eq_true rfl) fl_RX9_36 rfl dX9_startTrial_1 rfl ?_
  refine sw_aload_n (pc' := 5) (i := 0) cx dX9_startTrial_4 rfl 0 rfl rfl ?_
  refine sw_get (pc' := 8) cx in_X9 0 rfl rfl 0 (Nat.le_of_ble_eq_true rfl) fl_RX9_32 rfl dX9_startTrial_5 rfl ?_
  obtain ⟨r1, hr1, hf⟩ := bd_s hf
  refine sw_callV (pc' := 11) (As := [.ref (m0 0)]) (rest := []) cx (k_X4_become l D m1 m0 (g 5) (g 5) cI cJ cK cS tr mu  r1 hr1) pk_yX4_become ml_RX9_214 ⟨rfl, rfl⟩ ⟨(Nat.le_of_ble_eq_true rfl), (Nat.le_of_ble_eq_true rfl)⟩ ⟨(Nat.le_of_ble_eq_true rfl), (Nat.le_of_ble_eq_true rfl)⟩ [11, 12, 13, 14, 15, 16, 17, 18, 19, 20, 1, 2, 3, 4, 5, 6, 7, 8, 9, 10] sx_C_tr_mu sx_n_tr_mu (mm_fst _ _ _ _ _ _ _ _) (wn := (sx_W g m0 m1 m2 ka sa sn cI cJ cK cS mu r1 ke kp tby tlen ttok tsta tbeh tnum ttak sh fi)) sx_w_tr_mu 0 rfl rfl rfl rfl (Nat.le_of_ble_eq_true rfl) rfl dX9_startTrial_8 rfl ?_
  obtain rfl := Option.some.inj hf
  exact sw_vret cx hr hQ dX9_startTrial_11
abbrev rm_X9_on : Room := ({ frames := 6, cells := 0, slots := 0, locals := 132 } : Room)
set_option maxRecDepth 100000 in
set_option maxHeartbeats 4000000 in
theorem k_X9_on (l : Launch) (D : sf_D) (g m0 m1 m2 ka sa sn : Nat → Nat) (cI cJ cK cS : ClassId) (mu : MtS) (tr : MtS) (ke : MtS) (kp : Int32) (tby : Nat → Int32) (tlen : Int32) (ttok : Int32) (tsta : Int32) (tbeh : Int32) (tnum : Int32) (ttak : Int32) (sh : Nat → ShS) (fi : Nat → Int32) (a0 : Int32) (res : Int64 × MtS × (Nat → Int32)) (hf : f_X9_on mu tr fi a0 = some res) : sf_Ct l yX9_on cX9_on 3 (some .long) rm_X9_on D (sf_ty cI cJ cK cS) [.ref (g 0), .int a0] (sx_W g m0 m1 m2 ka sa sn cI cJ cK cS mu tr ke kp tby tlen ttok tsta tbeh tnum ttak sh fi) (some (.long res.1)) (sx_W g m0 m1 m2 ka sa sn cI cJ cK cS mu res.2.1 ke kp tby tlen ttok tsta tbeh tnum ttak sh res.2.2) := by
  refine sf_met (lv := [(0, .ref (g 0)), (1, .int a0)]) (by decide) (Nat.le_of_ble_eq_true rfl) rfl ?_
  intro p e s m args below meth c A Q cx hr hQ
  have cx : sf_Cx p m meth c cX9_on 3 s args RX9 D (sf_ty cI cJ cK cS) A := cx
  unfold f_X9_on at hf
  refine sw_aload_n (pc' := 1) (i := 0) cx dX9_on_0 rfl 0 rfl rfl ?_
  refine sw_iload_n (pc' := 2) (i := 1) cx dX9_on_1 rfl 1 rfl rfl ?_
  refine sw_iconst (pc' := 3) (v := 0) cx dX9_on_2 iconst_0 rfl ?_
  refine sw_sipush (pc' := 6) (v := 200) cx dX9_on_3 sipush_200 rfl ?_
  obtain ⟨r1, hr1, hf⟩ := bd_s hf
  refine sw_callVw (pc' := 9) (As := [.int a0, .int (0 : Int32), .int (200 : Int32)]) (rest := []) (w' := (sx_W g m0 m1 m2 ka sa sn cI cJ cK cS mu tr ke kp tby tlen ttok tsta tbeh tnum ttak sh r1.2)) cx (k_X9_againstYears l D g m0 m1 m2 ka sa sn cI cJ cK cS mu tr ke kp tby tlen ttok tsta tbeh tnum ttak sh fi a0 (0 : Int32) (200 : Int32) r1 hr1) pk_yX9_againstYears ml_RX9_171 ⟨rfl, rfl⟩ ⟨(Nat.le_of_ble_eq_true rfl), (Nat.le_of_ble_eq_true rfl)⟩ ⟨(Nat.le_of_ble_eq_true rfl), (Nat.le_of_ble_eq_true rfl)⟩ 0 rfl rfl rfl rfl (Nat.le_of_ble_eq_true rfl) rfl dX9_on_6 rfl ?_
  refine sw_istore_n (pc' := 10) (i := 2) (lv' := [(2, .int r1.1), (0, .ref (g 0)), (1, .int a0)]) cx dX9_on_9 rfl (Nat.le_of_ble_eq_true rfl) rfl rfl ?_
  refine sw_iload_n (pc' := 11) (i := 2) cx dX9_on_10 rfl 0 rfl rfl ?_
  refine sw_if_eq (pc' := 14) (tgt := 17) cx dX9_on_11 (by decide) rfl (fun c2 => ?_) (fun c2 => ?_)
  · replace hf := it_p c2 hf
    refine sw_aload_n (pc' := 18) (i := 0) cx dX9_on_17 rfl 1 rfl rfl ?_
    obtain ⟨r3, hr3, hf⟩ := bd_s hf
    refine sw_callVw (pc' := 21) (As := []) (rest := []) (w' := (sx_W g m0 m1 m2 ka sa sn cI cJ cK cS mu r3 ke kp tby tlen ttok tsta tbeh tnum ttak sh r1.2)) cx (k_X9_startTrial l D g m0 m1 m2 ka sa sn cI cJ cK cS mu tr ke kp tby tlen ttok tsta tbeh tnum ttak sh r1.2  r3 hr3) pk_yX9_startTrial ml_RX9_190 ⟨rfl, rfl⟩ ⟨(Nat.le_of_ble_eq_true rfl), (Nat.le_of_ble_eq_true rfl)⟩ ⟨(Nat.le_of_ble_eq_true rfl), (Nat.le_of_ble_eq_true rfl)⟩ 0 rfl rfl rfl rfl (Nat.le_of_ble_eq_true rfl) rfl dX9_on_18 rfl ?_
    refine sw_aload_n (pc' := 22) (i := 0) cx dX9_on_21 rfl 1 rfl rfl ?_
    refine sw_get (pc' := 25) cx in_X9 0 rfl rfl 1 (Nat.le_of_ble_eq_true rfl) fl_RX9_36 rfl dX9_on_22 rfl ?_
    refine sw_iload_n (pc' := 26) (i := 1) cx dX9_on_25 rfl 2 rfl rfl ?_
    obtain ⟨r4, hr4, hf⟩ := bd_s hf
    refine sw_callV (pc' := 29) (As := [.int a0]) (rest := []) cx (k_X4_goYears l D m1 (g 5) ka cI cJ cK cS r3 a0 r4 hr4) pk_yX4_goYears ml_RX9_175 ⟨rfl, rfl⟩ ⟨(Nat.le_of_ble_eq_true rfl), (Nat.le_of_ble_eq_true rfl)⟩ ⟨(Nat.le_of_ble_eq_true rfl), (Nat.le_of_ble_eq_true rfl)⟩ [11, 12, 13, 14, 15, 16, 17, 18, 19, 20, 31, 32, 33, 34, 35, 36, 37] sx_C_tr sx_n_tr (mt_fst _ _ _ _ _ _ _) (wn := (sx_W g m0 m1 m2 ka sa sn cI cJ cK cS mu r4 ke kp tby tlen ttok tsta tbeh tnum ttak sh r1.2)) sx_w_tr 0 rfl rfl rfl rfl (Nat.le_of_ble_eq_true rfl) rfl dX9_on_26 rfl ?_
    refine sw_aload_n (pc' := 30) (i := 0) cx dX9_on_29 rfl 1 rfl rfl ?_
    refine sw_get (pc' := 33) cx in_X9 0 rfl rfl 1 (Nat.le_of_ble_eq_true rfl) fl_RX9_36 rfl dX9_on_30 rfl ?_
    refine sw_getN (pc' := 36) cx in_X4 11 rfl rfl 5 (Nat.le_of_ble_eq_true rfl) fn_RX9_148 rfl dX9_on_33 rfl ?_
    obtain rfl := Option.some.inj hf
    exact sw_lret cx hr hQ dX9_on_36
  · replace hf := it_n c2 hf
    refine sw_iload_n (pc' := 15) (i := 2) cx dX9_on_14 rfl 0 rfl rfl ?_
    refine sw_i2l (pc' := 16) cx dX9_on_15 rfl ?_
    obtain rfl := Option.some.inj hf
    exact sw_lret cx hr hQ dX9_on_16
abbrev rm_X9_reachOn : Room := ({ frames := 6, cells := 0, slots := 0, locals := 132 } : Room)
set_option maxRecDepth 100000 in
set_option maxHeartbeats 4000000 in
theorem k_X9_reachOn (l : Launch) (D : sf_D) (g m0 m1 m2 ka sa sn : Nat → Nat) (cI cJ cK cS : ClassId) (mu : MtS) (tr : MtS) (ke : MtS) (kp : Int32) (tby : Nat → Int32) (tlen : Int32) (ttok : Int32) (tsta : Int32) (tbeh : Int32) (tnum : Int32) (ttak : Int32) (sh : Nat → ShS) (fi : Nat → Int32) (a0 : Int32) (res : Int32 × MtS × (Nat → Int32)) (hf : f_X9_reachOn mu tr fi a0 = some res) : sf_Ct l yX9_reachOn cX9_reachOn 3 (some .int) rm_X9_reachOn D (sf_ty cI cJ cK cS) [.ref (g 0), .int a0] (sx_W g m0 m1 m2 ka sa sn cI cJ cK cS mu tr ke kp tby tlen ttok tsta tbeh tnum ttak sh fi) (some (.int res.1)) (sx_W g m0 m1 m2 ka sa sn cI cJ cK cS mu res.2.1 ke kp tby tlen ttok tsta tbeh tnum ttak sh res.2.2) := by
  refine sf_met (lv := [(0, .ref (g 0)), (1, .int a0)]) (by decide) (Nat.le_of_ble_eq_true rfl) rfl ?_
  intro p e s m args below meth c A Q cx hr hQ
  have cx : sf_Cx p m meth c cX9_reachOn 3 s args RX9 D (sf_ty cI cJ cK cS) A := cx
  unfold f_X9_reachOn at hf
  refine sw_aload_n (pc' := 1) (i := 0) cx dX9_reachOn_0 rfl 0 rfl rfl ?_
  refine sw_iload_n (pc' := 2) (i := 1) cx dX9_reachOn_1 rfl 1 rfl rfl ?_
  refine sw_iconst (pc' := 3) (v := 0) cx dX9_reachOn_2 iconst_0 rfl ?_
  refine sw_sipush (pc' := 6) (v := 200) cx dX9_reachOn_3 sipush_200 rfl ?_
  obtain ⟨r1, hr1, hf⟩ := bd_s hf
  refine sw_callVw (pc' := 9) (As := [.int a0, .int (0 : Int32), .int (200 : Int32)]) (rest := []) (w' := (sx_W g m0 m1 m2 ka sa sn cI cJ cK cS mu tr ke kp tby tlen ttok tsta tbeh tnum ttak sh r1.2)) cx (k_X9_againstYears l D g m0 m1 m2 ka sa sn cI cJ cK cS mu tr ke kp tby tlen ttok tsta tbeh tnum ttak sh fi a0 (0 : Int32) (200 : Int32) r1 hr1) pk_yX9_againstYears ml_RX9_171 ⟨rfl, rfl⟩ ⟨(Nat.le_of_ble_eq_true rfl), (Nat.le_of_ble_eq_true rfl)⟩ ⟨(Nat.le_of_ble_eq_true rfl), (Nat.le_of_ble_eq_true rfl)⟩ 0 rfl rfl rfl rfl (Nat.le_of_ble_eq_true rfl) rfl dX9_reachOn_6 rfl ?_
  refine sw_istore_n (pc' := 10) (i := 2) (lv' := [(2, .int r1.1), (0, .ref (g 0)), (1, .int a0)]) cx dX9_reachOn_9 rfl (Nat.le_of_ble_eq_true rfl) rfl rfl ?_
  refine sw_iload_n (pc' := 11) (i := 2) cx dX9_reachOn_10 rfl 0 rfl rfl ?_
  refine sw_if_eq (pc' := 14) (tgt := 16) cx dX9_reachOn_11 (by decide) rfl (fun c2 => ?_) (fun c2 => ?_)
  · replace hf := it_p c2 hf
    refine sw_aload_n (pc' := 17) (i := 0) cx dX9_reachOn_16 rfl 1 rfl rfl ?_
    obtain ⟨r3, hr3, hf⟩ := bd_s hf
    refine sw_callVw (pc' := 20) (As := []) (rest := []) (w' := (sx_W g m0 m1 m2 ka sa sn cI cJ cK cS mu r3 ke kp tby tlen ttok tsta tbeh tnum ttak sh r1.2)) cx (k_X9_startTrial l D g m0 m1 m2 ka sa sn cI cJ cK cS mu tr ke kp tby tlen ttok tsta tbeh tnum ttak sh r1.2  r3 hr3) pk_yX9_startTrial ml_RX9_190 ⟨rfl, rfl⟩ ⟨(Nat.le_of_ble_eq_true rfl), (Nat.le_of_ble_eq_true rfl)⟩ ⟨(Nat.le_of_ble_eq_true rfl), (Nat.le_of_ble_eq_true rfl)⟩ 0 rfl rfl rfl rfl (Nat.le_of_ble_eq_true rfl) rfl dX9_reachOn_17 rfl ?_
    refine sw_aload_n (pc' := 21) (i := 0) cx dX9_reachOn_20 rfl 1 rfl rfl ?_
    refine sw_get (pc' := 24) cx in_X9 0 rfl rfl 1 (Nat.le_of_ble_eq_true rfl) fl_RX9_36 rfl dX9_reachOn_21 rfl ?_
    refine sw_iload_n (pc' := 25) (i := 1) cx dX9_reachOn_24 rfl 2 rfl rfl ?_
    obtain ⟨r4, hr4, hf⟩ := bd_s hf
    refine sw_callV (pc' := 28) (As := [.int a0]) (rest := []) cx (k_X4_goYears l D m1 (g 5) ka cI cJ cK cS r3 a0 r4 hr4) pk_yX4_goYears ml_RX9_175 ⟨rfl, rfl⟩ ⟨(Nat.le_of_ble_eq_true rfl), (Nat.le_of_ble_eq_true rfl)⟩ ⟨(Nat.le_of_ble_eq_true rfl), (Nat.le_of_ble_eq_true rfl)⟩ [11, 12, 13, 14, 15, 16, 17, 18, 19, 20, 31, 32, 33, 34, 35, 36, 37] sx_C_tr sx_n_tr (mt_fst _ _ _ _ _ _ _) (wn := (sx_W g m0 m1 m2 ka sa sn cI cJ cK cS mu r4 ke kp tby tlen ttok tsta tbeh tnum ttak sh r1.2)) sx_w_tr 0 rfl rfl rfl rfl (Nat.le_of_ble_eq_true rfl) rfl dX9_reachOn_25 rfl ?_
    refine sw_aload_n (pc' := 29) (i := 0) cx dX9_reachOn_28 rfl 1 rfl rfl ?_
    refine sw_get (pc' := 32) cx in_X9 0 rfl rfl 1 (Nat.le_of_ble_eq_true rfl) fl_RX9_36 rfl dX9_reachOn_29 rfl ?_
    obtain ⟨r5, hr5, hf⟩ := bd_s hf
    refine sw_callV (pc' := 35) (As := []) (rest := []) cx (k_X4_climb l D m1 (g 5) ka cI cJ cK cS r4  r5 hr5) pk_yX4_climb ml_RX9_160 ⟨rfl, rfl⟩ ⟨(Nat.le_of_ble_eq_true rfl), (Nat.le_of_ble_eq_true rfl)⟩ ⟨(Nat.le_of_ble_eq_true rfl), (Nat.le_of_ble_eq_true rfl)⟩ [11, 12, 13, 14, 15, 16, 17, 18, 19, 20, 31, 32, 33, 34, 35, 36, 37] sx_C_tr sx_n_tr (mt_fst _ _ _ _ _ _ _) (wn := (sx_W g m0 m1 m2 ka sa sn cI cJ cK cS mu r4 ke kp tby tlen ttok tsta tbeh tnum ttak sh r1.2)) sx_w_tr 0 rfl rfl rfl rfl (Nat.le_of_ble_eq_true rfl) rfl dX9_reachOn_32 rfl ?_
    obtain rfl := Option.some.inj hf
    exact sw_iret cx hr hQ dX9_reachOn_35
  · replace hf := it_n c2 hf
    refine sw_iload_n (pc' := 15) (i := 2) cx dX9_reachOn_14 rfl 0 rfl rfl ?_
    obtain rfl := Option.some.inj hf
    exact sw_iret cx hr hQ dX9_reachOn_15
abbrev rm_X9_pass : Room := ({ frames := 6, cells := 0, slots := 0, locals := 132 } : Room)
set_option maxRecDepth 100000 in
set_option maxHeartbeats 4000000 in
theorem k_X9_pass (l : Launch) (D : sf_D) (g m0 m1 m2 ka sa sn : Nat → Nat) (cI cJ cK cS : ClassId) (mu : MtS) (tr : MtS) (ke : MtS) (kp : Int32) (tby : Nat → Int32) (tlen : Int32) (ttok : Int32) (tsta : Int32) (tbeh : Int32) (tnum : Int32) (ttak : Int32) (sh : Nat → ShS) (fi : Nat → Int32)  (res : Int32 × MtS × (Nat → Int32)) (hf : f_X9_pass mu tr fi = some res) : sf_Ct l yX9_pass cX9_pass 2 (some .int) rm_X9_pass D (sf_ty cI cJ cK cS) [.ref (g 0)] (sx_W g m0 m1 m2 ka sa sn cI cJ cK cS mu tr ke kp tby tlen ttok tsta tbeh tnum ttak sh fi) (some (.int res.1)) (sx_W g m0 m1 m2 ka sa sn cI cJ cK cS mu res.2.1 ke kp tby tlen ttok tsta tbeh tnum ttak sh res.2.2) := by
  refine sf_met (lv := [(0, .ref (g 0))]) (by decide) (Nat.le_of_ble_eq_true rfl) rfl ?_
  intro p e s m args below meth c A Q cx hr hQ
  have cx : sf_Cx p m meth c cX9_pass 2 s args RX9 D (sf_ty cI cJ cK cS) A := cx
  have B22 : ∀ (n : Nat), ∀ (tr : MtS) (fi : Nat → Int32) (x1 : Int32), f_X9_pass_b22 mu n tr fi x1 = some res → sf_W p l e rm_X9_pass s m args below meth c 0 0 Q 2 D A (sx_W g m0 m1 m2 ka sa sn cI cJ cK cS mu tr ke kp tby tlen ttok tsta tbeh tnum ttak sh fi) [(0, .ref (g 0)), (1, .int x1)] 22 [] := by
    intro n
    induction n with
    | zero => intro tr fi x1 hf; rw [f_X9_pass_b22] at hf; cases hf
    | succ n ih =>
      intro tr fi x1 hf
      rw [f_X9_pass_b22] at hf
      refine sw_iload_n (pc' := 23) (i := 1) cx dX9_pass_22 rfl 1 rfl rfl ?_
      refine sw_sipush (pc' := 26) (v := 200) cx dX9_pass_23 sipush_200 rfl ?_
      refine sw_icmp_gt (pc' := 29) (tgt := 57) cx dX9_pass_26 (by decide) rfl (fun c5 => ?_) (fun c5 => ?_)
      · replace hf := it_p c5 hf
        refine sw_aload_n (pc' := 58) (i := 0) cx dX9_pass_57 rfl 0 rfl rfl ?_
        refine sw_iconst (pc' := 59) (v := 3) cx dX9_pass_58 iconst_3 rfl ?_
        obtain ⟨r6, hr6, hf⟩ := bd_s hf
        refine sw_callVw (pc' := 62) (As := [.int (3 : Int32)]) (rest := []) (w' := (sx_W g m0 m1 m2 ka sa sn cI cJ cK cS mu tr ke kp tby tlen ttok tsta tbeh tnum ttak sh r6.2)) cx (k_X9_found l D g m0 m1 m2 ka sa sn cI cJ cK cS mu tr ke kp tby tlen ttok tsta tbeh tnum ttak sh fi (3 : Int32) r6 hr6) pk_yX9_found ml_RX9_68 ⟨rfl, rfl⟩ ⟨(Nat.le_of_ble_eq_true rfl), (Nat.le_of_ble_eq_true rfl)⟩ ⟨(Nat.le_of_ble_eq_true rfl), (Nat.le_of_ble_eq_true rfl)⟩ 0 rfl rfl rfl rfl (Nat.le_of_ble_eq_true rfl) rfl dX9_pass_59 rfl ?_
        obtain rfl := Option.some.inj hf
        exact sw_iret cx hr hQ dX9_pass_62
      · replace hf := it_n c5 hf
        refine sw_aload_n (pc' := 30) (i := 0) cx dX9_pass_29 rfl 0 rfl rfl ?_
        refine sw_get (pc' := 33) cx in_X9 0 rfl rfl 1 (Nat.le_of_ble_eq_true rfl) fl_RX9_36 rfl dX9_pass_30 rfl ?_
        obtain ⟨r7, hr7, hf⟩ := bd_s hf
        refine sw_callV (pc' := 36) (As := []) (rest := []) cx (k_X4_climb l D m1 (g 5) ka cI cJ cK cS tr  r7 hr7) pk_yX4_climb ml_RX9_160 ⟨rfl, rfl⟩ ⟨(Nat.le_of_ble_eq_true rfl), (Nat.le_of_ble_eq_true rfl)⟩ ⟨(Nat.le_of_ble_eq_true rfl), (Nat.le_of_ble_eq_true rfl)⟩ [11, 12, 13, 14, 15, 16, 17, 18, 19, 20, 31, 32, 33, 34, 35, 36, 37] sx_C_tr sx_n_tr (mt_fst _ _ _ _ _ _ _) (wn := (sx_W g m0 m1 m2 ka sa sn cI cJ cK cS mu tr ke kp tby tlen ttok tsta tbeh tnum ttak sh fi)) sx_w_tr 0 rfl rfl rfl rfl (Nat.le_of_ble_eq_true rfl) rfl dX9_pass_33 rfl ?_
        refine sw_bipush (pc' := 38) (v := 40) cx dX9_pass_36 bipush_40 rfl ?_
        refine sw_icmp_ne (pc' := 41) (tgt := 43) cx dX9_pass_38 (by decide) rfl (fun c8 => ?_) (fun c8 => ?_)
        · replace hf := it_n c8 hf
          refine sw_aload_n (pc' := 44) (i := 0) cx dX9_pass_43 rfl 0 rfl rfl ?_
          refine sw_get (pc' := 47) cx in_X9 0 rfl rfl 1 (Nat.le_of_ble_eq_true rfl) fl_RX9_36 rfl dX9_pass_44 rfl ?_
          refine sw_iconst (pc' := 48) (v := 1) cx dX9_pass_47 iconst_1 rfl ?_
          obtain ⟨r9, hr9, hf⟩ := bd_s hf
          refine sw_callV (pc' := 51) (As := [.int (1 : Int32)]) (rest := []) cx (k_X4_goYears l D m1 (g 5) ka cI cJ cK cS tr (1 : Int32) r9 hr9) pk_yX4_goYears ml_RX9_175 ⟨rfl, rfl⟩ ⟨(Nat.le_of_ble_eq_true rfl), (Nat.le_of_ble_eq_true rfl)⟩ ⟨(Nat.le_of_ble_eq_true rfl), (Nat.le_of_ble_eq_true rfl)⟩ [11, 12, 13, 14, 15, 16, 17, 18, 19, 20, 31, 32, 33, 34, 35, 36, 37] sx_C_tr sx_n_tr (mt_fst _ _ _ _ _ _ _) (wn := (sx_W g m0 m1 m2 ka sa sn cI cJ cK cS mu r9 ke kp tby tlen ttok tsta tbeh tnum ttak sh fi)) sx_w_tr 0 rfl rfl rfl rfl (Nat.le_of_ble_eq_true rfl) rfl dX9_pass_48 rfl ?_
          refine sw_iinc (pc' := 54) (v := (x1 + (1 : Int32))) (lv' := [(1, .int (x1 + (1 : Int32))), (0, .ref (g 0))]) cx dX9_pass_51 1 rfl rfl (Nat.le_of_ble_eq_true rfl) rfl rfl ?_
          refine sw_goto (tgt := 22) cx dX9_pass_54 (by decide) ?_
          exact sw_lv [1, 0] rfl (ih r9 fi (x1 + (1 : Int32)) hf)
        · replace hf := it_p c8 hf
          refine sw_iload_n (pc' := 42) (i := 1) cx dX9_pass_41 rfl 1 rfl rfl ?_
          obtain rfl := Option.some.inj hf
          exact sw_iret cx hr hQ dX9_pass_42
  unfold f_X9_pass at hf
  refine sw_aload_n (pc' := 1) (i := 0) cx dX9_pass_0 rfl 0 rfl rfl ?_
  refine sw_sipush (pc' := 4) (v := 200) cx dX9_pass_1 sipush_200 rfl ?_
  obtain ⟨r1, hr1, hf⟩ := bd_s hf
  refine sw_callVw (pc' := 7) (As := [.int (200 : Int32)]) (rest := []) (w' := (sx_W g m0 m1 m2 ka sa sn cI cJ cK cS mu tr ke kp tby tlen ttok tsta tbeh tnum ttak sh fi)) cx (k_X9_isTooLateFor l D g m0 m1 m2 ka sa sn cI cJ cK cS mu tr ke kp tby tlen ttok tsta tbeh tnum ttak sh fi (200 : Int32) r1 hr1) pk_yX9_isTooLateFor ml_RX9_193 ⟨rfl, rfl⟩ ⟨(Nat.le_of_ble_eq_true rfl), (Nat.le_of_ble_eq_true rfl)⟩ ⟨(Nat.le_of_ble_eq_true rfl), (Nat.le_of_ble_eq_true rfl)⟩ 0 rfl rfl rfl rfl (Nat.le_of_ble_eq_true rfl) rfl dX9_pass_4 rfl ?_
  refine sw_if_eq (pc' := 10) (tgt := 16) cx dX9_pass_7 (by decide) rfl (fun c2 => ?_) (fun c2 => ?_)
  · replace hf := it_p c2 hf
    refine sw_aload_n (pc' := 17) (i := 0) cx dX9_pass_16 rfl 0 rfl rfl ?_
    obtain ⟨r3, hr3, hf⟩ := bd_s hf
    refine sw_callVw (pc' := 20) (As := []) (rest := []) (w' := (sx_W g m0 m1 m2 ka sa sn cI cJ cK cS mu r3 ke kp tby tlen ttok tsta tbeh tnum ttak sh fi)) cx (k_X9_startTrial l D g m0 m1 m2 ka sa sn cI cJ cK cS mu tr ke kp tby tlen ttok tsta tbeh tnum ttak sh fi  r3 hr3) pk_yX9_startTrial ml_RX9_190 ⟨rfl, rfl⟩ ⟨(Nat.le_of_ble_eq_true rfl), (Nat.le_of_ble_eq_true rfl)⟩ ⟨(Nat.le_of_ble_eq_true rfl), (Nat.le_of_ble_eq_true rfl)⟩ 0 rfl rfl rfl rfl (Nat.le_of_ble_eq_true rfl) rfl dX9_pass_17 rfl ?_
    refine sw_iconst (pc' := 21) (v := 0) cx dX9_pass_20 iconst_0 rfl ?_
    refine sw_istore_n (pc' := 22) (i := 1) (lv' := [(1, .int (0 : Int32)), (0, .ref (g 0))]) cx dX9_pass_21 rfl (Nat.le_of_ble_eq_true rfl) rfl rfl ?_
    exact sw_lv [1, 0] rfl (B22 1000 r3 fi (0 : Int32) hf)
  · replace hf := it_n c2 hf
    refine sw_aload_n (pc' := 11) (i := 0) cx dX9_pass_10 rfl 0 rfl rfl ?_
    refine sw_iconst (pc' := 12) (v := 4) cx dX9_pass_11 iconst_4 rfl ?_
    obtain ⟨r4, hr4, hf⟩ := bd_s hf
    refine sw_callVw (pc' := 15) (As := [.int (4 : Int32)]) (rest := []) (w' := (sx_W g m0 m1 m2 ka sa sn cI cJ cK cS mu tr ke kp tby tlen ttok tsta tbeh tnum ttak sh r4.2)) cx (k_X9_found l D g m0 m1 m2 ka sa sn cI cJ cK cS mu tr ke kp tby tlen ttok tsta tbeh tnum ttak sh fi (4 : Int32) r4 hr4) pk_yX9_found ml_RX9_68 ⟨rfl, rfl⟩ ⟨(Nat.le_of_ble_eq_true rfl), (Nat.le_of_ble_eq_true rfl)⟩ ⟨(Nat.le_of_ble_eq_true rfl), (Nat.le_of_ble_eq_true rfl)⟩ 0 rfl rfl rfl rfl (Nat.le_of_ble_eq_true rfl) rfl dX9_pass_12 rfl ?_
    obtain rfl := Option.some.inj hf
    exact sw_iret cx hr hQ dX9_pass_15
abbrev rm_X9_paid : Room := ({ frames := 6, cells := 0, slots := 0, locals := 132 } : Room)
set_option maxRecDepth 100000 in
set_option maxHeartbeats 4000000 in
theorem k_X9_paid (l : Launch) (D : sf_D) (g m0 m1 m2 ka sa sn : Nat → Nat) (cI cJ cK cS : ClassId) (mu : MtS) (tr : MtS) (ke : MtS) (kp : Int32) (tby : Nat → Int32) (tlen : Int32) (ttok : Int32) (tsta : Int32) (tbeh : Int32) (tnum : Int32) (ttak : Int32) (sh : Nat → ShS) (fi : Nat → Int32) (a0 : Int32) (res : Int32 × MtS × (Nat → Int32)) (hf : f_X9_paid mu tr fi a0 = some res) : sf_Ct l yX9_paid cX9_paid 3 (some .int) rm_X9_paid D (sf_ty cI cJ cK cS) [.ref (g 0), .int a0] (sx_W g m0 m1 m2 ka sa sn cI cJ cK cS mu tr ke kp tby tlen ttok tsta tbeh tnum ttak sh fi) (some (.int res.1)) (sx_W g m0 m1 m2 ka sa sn cI cJ cK cS mu res.2.1 ke kp tby tlen ttok tsta tbeh tnum ttak sh res.2.2) := by
  refine sf_met (lv := [(0, .ref (g 0)), (1, .int a0)]) (by decide) (Nat.le_of_ble_eq_true rfl) rfl ?_
  intro p e s m args below meth c A Q cx hr hQ
  have cx : sf_Cx p m meth c cX9_paid 3 s args RX9 D (sf_ty cI cJ cK cS) A := cx
  have B39 : ∀ (n : Nat), ∀ (tr : MtS) (fi : Nat → Int32) (x1 : Int32) (x2 : Int32), f_X9_paid_b39 mu n tr fi x1 x2 = some res → sf_W p l e rm_X9_paid s m args below meth c 0 0 Q 3 D A (sx_W g m0 m1 m2 ka sa sn cI cJ cK cS mu tr ke kp tby tlen ttok tsta tbeh tnum ttak sh fi) [(0, .ref (g 0)), (1, .int x1), (2, .int x2)] 39 [] := by
    intro n
    induction n with
    | zero => intro tr fi x1 x2 hf; rw [f_X9_paid_b39] at hf; cases hf
    | succ n ih =>
      intro tr fi x1 x2 hf
      rw [f_X9_paid_b39] at hf
      refine sw_iload_n (pc' := 40) (i := 2) cx dX9_paid_39 rfl 2 rfl rfl ?_
      refine sw_sipush (pc' := 43) (v := 200) cx dX9_paid_40 sipush_200 rfl ?_
      refine sw_icmp_gt (pc' := 46) (tgt := 74) cx dX9_paid_43 (by decide) rfl (fun c8 => ?_) (fun c8 => ?_)
      · replace hf := it_p c8 hf
        refine sw_aload_n (pc' := 75) (i := 0) cx dX9_paid_74 rfl 0 rfl rfl ?_
        refine sw_iconst (pc' := 76) (v := 3) cx dX9_paid_75 iconst_3 rfl ?_
        obtain ⟨r9, hr9, hf⟩ := bd_s hf
        refine sw_callVw (pc' := 79) (As := [.int (3 : Int32)]) (rest := []) (w' := (sx_W g m0 m1 m2 ka sa sn cI cJ cK cS mu tr ke kp tby tlen ttok tsta tbeh tnum ttak sh r9.2)) cx (k_X9_found l D g m0 m1 m2 ka sa sn cI cJ cK cS mu tr ke kp tby tlen ttok tsta tbeh tnum ttak sh fi (3 : Int32) r9 hr9) pk_yX9_found ml_RX9_68 ⟨rfl, rfl⟩ ⟨(Nat.le_of_ble_eq_true rfl), (Nat.le_of_ble_eq_true rfl)⟩ ⟨(Nat.le_of_ble_eq_true rfl), (Nat.le_of_ble_eq_true rfl)⟩ 0 rfl rfl rfl rfl (Nat.le_of_ble_eq_true rfl) rfl dX9_paid_76 rfl ?_
        obtain rfl := Option.some.inj hf
        exact sw_iret cx hr hQ dX9_paid_79
      · replace hf := it_n c8 hf
        refine sw_aload_n (pc' := 47) (i := 0) cx dX9_paid_46 rfl 0 rfl rfl ?_
        refine sw_get (pc' := 50) cx in_X9 0 rfl rfl 1 (Nat.le_of_ble_eq_true rfl) fl_RX9_36 rfl dX9_paid_47 rfl ?_
        refine sw_getN (pc' := 53) cx in_X4 11 rfl rfl 12 (Nat.le_of_ble_eq_true rfl) fn_RX9_102 rfl dX9_paid_50 rfl ?_
        refine sw_iload_n (pc' := 54) (i := 1) cx dX9_paid_53 rfl 1 rfl rfl ?_
        obtain ⟨h10, hf⟩ := gx_s hf
        refine sw_iald (pc' := 55) cx 17 0 rfl rfl h10 dX9_paid_54 rfl ?_
        refine sw_if_ne (pc' := 58) (tgt := 60) cx dX9_paid_55 (by decide) rfl (fun c11 => ?_) (fun c11 => ?_)
        · replace hf := it_n c11 hf
          refine sw_aload_n (pc' := 61) (i := 0) cx dX9_paid_60 rfl 0 rfl rfl ?_
          refine sw_get (pc' := 64) cx in_X9 0 rfl rfl 1 (Nat.le_of_ble_eq_true rfl) fl_RX9_36 rfl dX9_paid_61 rfl ?_
          refine sw_iconst (pc' := 65) (v := 1) cx dX9_paid_64 iconst_1 rfl ?_
          obtain ⟨r12, hr12, hf⟩ := bd_s hf
          refine sw_callV (pc' := 68) (As := [.int (1 : Int32)]) (rest := []) cx (k_X4_goYears l D m1 (g 5) ka cI cJ cK cS tr (1 : Int32) r12 hr12) pk_yX4_goYears ml_RX9_175 ⟨rfl, rfl⟩ ⟨(Nat.le_of_ble_eq_true rfl), (Nat.le_of_ble_eq_true rfl)⟩ ⟨(Nat.le_of_ble_eq_true rfl), (Nat.le_of_ble_eq_true rfl)⟩ [11, 12, 13, 14, 15, 16, 17, 18, 19, 20, 31, 32, 33, 34, 35, 36, 37] sx_C_tr sx_n_tr (mt_fst _ _ _ _ _ _ _) (wn := (sx_W g m0 m1 m2 ka sa sn cI cJ cK cS mu r12 ke kp tby tlen ttok tsta tbeh tnum ttak sh fi)) sx_w_tr 0 rfl rfl rfl rfl (Nat.le_of_ble_eq_true rfl) rfl dX9_paid_65 rfl ?_
          refine sw_iinc (pc' := 71) (v := (x2 + (1 : Int32))) (lv' := [(2, .int (x2 + (1 : Int32))), (0, .ref (g 0)), (1, .int x1)]) cx dX9_paid_68 2 rfl rfl (Nat.le_of_ble_eq_true rfl) rfl rfl ?_
          refine sw_goto (tgt := 39) cx dX9_paid_71 (by decide) ?_
          exact sw_lv [1, 2, 0] rfl (ih r12 fi x1 (x2 + (1 : Int32)) hf)
        · replace hf := it_p c11 hf
          refine sw_iload_n (pc' := 59) (i := 2) cx dX9_paid_58 rfl 2 rfl rfl ?_
          obtain rfl := Option.some.inj hf
          exact sw_iret cx hr hQ dX9_paid_59
  unfold f_X9_paid at hf
  refine sw_aload_n (pc' := 1) (i := 0) cx dX9_paid_0 rfl 0 rfl rfl ?_
  refine sw_get (pc' := 4) cx in_X9 0 rfl rfl 0 (Nat.le_of_ble_eq_true rfl) fl_RX9_32 rfl dX9_paid_1 rfl ?_
  refine sw_iload_n (pc' := 5) (i := 1) cx dX9_paid_4 rfl 1 rfl rfl ?_
  obtain ⟨r1, hr1, hf⟩ := bd_s hf
  refine sw_callV (pc' := 8) (As := [.int a0]) (rest := []) cx (k_X4_hasFine l D m0 (g 5) ka cI cJ cK cS mu a0 r1 hr1) pk_yX4_hasFine ml_RX9_96 ⟨rfl, rfl⟩ ⟨(Nat.le_of_ble_eq_true rfl), (Nat.le_of_ble_eq_true rfl)⟩ ⟨(Nat.le_of_ble_eq_true rfl), (Nat.le_of_ble_eq_true rfl)⟩ [1, 2, 3, 4, 5, 6, 7, 8, 9, 10, 31, 32, 33, 34, 35, 36, 37] sx_C_mu sx_n_mu (mt_fst _ _ _ _ _ _ _) (wn := (sx_W g m0 m1 m2 ka sa sn cI cJ cK cS mu tr ke kp tby tlen ttok tsta tbeh tnum ttak sh fi)) sx_w_mu 0 rfl rfl rfl rfl (Nat.le_of_ble_eq_true rfl) rfl dX9_paid_5 rfl ?_
  refine sw_if_ne (pc' := 11) (tgt := 17) cx dX9_paid_8 (by decide) rfl (fun c2 => ?_) (fun c2 => ?_)
  · replace hf := it_n c2 hf
    refine sw_aload_n (pc' := 18) (i := 0) cx dX9_paid_17 rfl 0 rfl rfl ?_
    refine sw_sipush (pc' := 21) (v := 200) cx dX9_paid_18 sipush_200 rfl ?_
    obtain ⟨r3, hr3, hf⟩ := bd_s hf
    refine sw_callVw (pc' := 24) (As := [.int (200 : Int32)]) (rest := []) (w' := (sx_W g m0 m1 m2 ka sa sn cI cJ cK cS mu tr ke kp tby tlen ttok tsta tbeh tnum ttak sh fi)) cx (k_X9_isTooLateFor l D g m0 m1 m2 ka sa sn cI cJ cK cS mu tr ke kp tby tlen ttok tsta tbeh tnum ttak sh fi (200 : Int32) r3 hr3) pk_yX9_isTooLateFor ml_RX9_193 ⟨rfl, rfl⟩ ⟨(Nat.le_of_ble_eq_true rfl), (Nat.le_of_ble_eq_true rfl)⟩ ⟨(Nat.le_of_ble_eq_true rfl), (Nat.le_of_ble_eq_true rfl)⟩ 0 rfl rfl rfl rfl (Nat.le_of_ble_eq_true rfl) rfl dX9_paid_21 rfl ?_
    refine sw_if_eq (pc' := 27) (tgt := 33) cx dX9_paid_24 (by decide) rfl (fun c4 => ?_) (fun c4 => ?_)
    · replace hf := it_p c4 hf
      refine sw_aload_n (pc' := 34) (i := 0) cx dX9_paid_33 rfl 0 rfl rfl ?_
      obtain ⟨r5, hr5, hf⟩ := bd_s hf
      refine sw_callVw (pc' := 37) (As := []) (rest := []) (w' := (sx_W g m0 m1 m2 ka sa sn cI cJ cK cS mu r5 ke kp tby tlen ttok tsta tbeh tnum ttak sh fi)) cx (k_X9_startTrial l D g m0 m1 m2 ka sa sn cI cJ cK cS mu tr ke kp tby tlen ttok tsta tbeh tnum ttak sh fi  r5 hr5) pk_yX9_startTrial ml_RX9_190 ⟨rfl, rfl⟩ ⟨(Nat.le_of_ble_eq_true rfl), (Nat.le_of_ble_eq_true rfl)⟩ ⟨(Nat.le_of_ble_eq_true rfl), (Nat.le_of_ble_eq_true rfl)⟩ 0 rfl rfl rfl rfl (Nat.le_of_ble_eq_true rfl) rfl dX9_paid_34 rfl ?_
      refine sw_iconst (pc' := 38) (v := 0) cx dX9_paid_37 iconst_0 rfl ?_
      refine sw_istore_n (pc' := 39) (i := 2) (lv' := [(2, .int (0 : Int32)), (0, .ref (g 0)), (1, .int a0)]) cx dX9_paid_38 rfl (Nat.le_of_ble_eq_true rfl) rfl rfl ?_
      exact sw_lv [1, 2, 0] rfl (B39 1000 r5 fi a0 (0 : Int32) hf)
    · replace hf := it_n c4 hf
      refine sw_aload_n (pc' := 28) (i := 0) cx dX9_paid_27 rfl 0 rfl rfl ?_
      refine sw_iconst (pc' := 29) (v := 4) cx dX9_paid_28 iconst_4 rfl ?_
      obtain ⟨r6, hr6, hf⟩ := bd_s hf
      refine sw_callVw (pc' := 32) (As := [.int (4 : Int32)]) (rest := []) (w' := (sx_W g m0 m1 m2 ka sa sn cI cJ cK cS mu tr ke kp tby tlen ttok tsta tbeh tnum ttak sh r6.2)) cx (k_X9_found l D g m0 m1 m2 ka sa sn cI cJ cK cS mu tr ke kp tby tlen ttok tsta tbeh tnum ttak sh fi (4 : Int32) r6 hr6) pk_yX9_found ml_RX9_68 ⟨rfl, rfl⟩ ⟨(Nat.le_of_ble_eq_true rfl), (Nat.le_of_ble_eq_true rfl)⟩ ⟨(Nat.le_of_ble_eq_true rfl), (Nat.le_of_ble_eq_true rfl)⟩ 0 rfl rfl rfl rfl (Nat.le_of_ble_eq_true rfl) rfl dX9_paid_29 rfl ?_
      obtain rfl := Option.some.inj hf
      exact sw_iret cx hr hQ dX9_paid_32
  · replace hf := it_p c2 hf
    refine sw_aload_n (pc' := 12) (i := 0) cx dX9_paid_11 rfl 0 rfl rfl ?_
    refine sw_iconst (pc' := 13) (v := 0) cx dX9_paid_12 iconst_0 rfl ?_
    obtain ⟨r7, hr7, hf⟩ := bd_s hf
    refine sw_callVw (pc' := 16) (As := [.int (0 : Int32)]) (rest := []) (w' := (sx_W g m0 m1 m2 ka sa sn cI cJ cK cS mu tr ke kp tby tlen ttok tsta tbeh tnum ttak sh r7.2)) cx (k_X9_found l D g m0 m1 m2 ka sa sn cI cJ cK cS mu tr ke kp tby tlen ttok tsta tbeh tnum ttak sh fi (0 : Int32) r7 hr7) pk_yX9_found ml_RX9_68 ⟨rfl, rfl⟩ ⟨(Nat.le_of_ble_eq_true rfl), (Nat.le_of_ble_eq_true rfl)⟩ ⟨(Nat.le_of_ble_eq_true rfl), (Nat.le_of_ble_eq_true rfl)⟩ 0 rfl rfl rfl rfl (Nat.le_of_ble_eq_true rfl) rfl dX9_paid_13 rfl ?_
    obtain rfl := Option.some.inj hf
    exact sw_iret cx hr hQ dX9_paid_16
abbrev rm_X9_farthest : Room := ({ frames := 6, cells := 0, slots := 0, locals := 132 } : Room)
set_option maxRecDepth 100000 in
set_option maxHeartbeats 4000000 in
theorem k_X9_farthest (l : Launch) (D : sf_D) (g m0 m1 m2 ka sa sn : Nat → Nat) (cI cJ cK cS : ClassId) (mu : MtS) (tr : MtS) (ke : MtS) (kp : Int32) (tby : Nat → Int32) (tlen : Int32) (ttok : Int32) (tsta : Int32) (tbeh : Int32) (tnum : Int32) (ttak : Int32) (sh : Nat → ShS) (fi : Nat → Int32) (a0 : Int32) (res : Int32 × MtS × (Nat → Int32)) (hf : f_X9_farthest mu tr fi a0 = some res) : sf_Ct l yX9_farthest cX9_farthest 5 (some .int) rm_X9_farthest D (sf_ty cI cJ cK cS) [.ref (g 0), .int a0] (sx_W g m0 m1 m2 ka sa sn cI cJ cK cS mu tr ke kp tby tlen ttok tsta tbeh tnum ttak sh fi) (some (.int res.1)) (sx_W g m0 m1 m2 ka sa sn cI cJ cK cS mu res.2.1 ke kp tby tlen ttok tsta tbeh tnum ttak sh res.2.2) := by
  refine sf_met (lv := [(0, .ref (g 0)), (1, .int a0)]) (by decide) (Nat.le_of_ble_eq_true rfl) rfl ?_
  intro p e s m args below meth c A Q cx hr hQ
  have cx : sf_Cx p m meth c cX9_farthest 5 s args RX9 D (sf_ty cI cJ cK cS) A := cx
  have B31 : ∀ (n : Nat), ∀ (tr : MtS) (fi : Nat → Int32) (x1 : Int32) (x3 : Int32) (x4 : Int32), f_X9_farthest_b31 mu n tr fi x1 x3 x4 = some res → sf_W p l e rm_X9_farthest s m args below meth c 0 0 Q 5 D A (sx_W g m0 m1 m2 ka sa sn cI cJ cK cS mu tr ke kp tby tlen ttok tsta tbeh tnum ttak sh fi) [(0, .ref (g 0)), (1, .int x1), (3, .int x3), (4, .int x4)] 31 [] := by
    intro n
    induction n with
    | zero => intro tr fi x1 x3 x4 hf; rw [f_X9_farthest_b31] at hf; cases hf
    | succ n ih =>
      intro tr fi x1 x3 x4 hf
      rw [f_X9_farthest_b31] at hf
      refine sw_iload (pc' := 33) (i := 4) cx dX9_farthest_31 3 rfl rfl ?_
      refine sw_iload_n (pc' := 34) (i := 1) cx dX9_farthest_33 rfl 1 rfl rfl ?_
      refine sw_icmp_gt (pc' := 37) (tgt := 63) cx dX9_farthest_34 (by decide) rfl (fun c5 => ?_) (fun c5 => ?_)
      · replace hf := it_p c5 hf
        refine sw_iload_n (pc' := 64) (i := 3) cx dX9_farthest_63 rfl 2 rfl rfl ?_
        obtain rfl := Option.some.inj hf
        exact sw_iret cx hr hQ dX9_farthest_64
      · replace hf := it_n c5 hf
        refine sw_aload_n (pc' := 38) (i := 0) cx dX9_farthest_37 rfl 0 rfl rfl ?_
        refine sw_get (pc' := 41) cx in_X9 0 rfl rfl 1 (Nat.le_of_ble_eq_true rfl) fl_RX9_36 rfl dX9_farthest_38 rfl ?_
        refine sw_iconst (pc' := 42) (v := 1) cx dX9_farthest_41 iconst_1 rfl ?_
        obtain ⟨r6, hr6, hf⟩ := bd_s hf
        refine sw_callV (pc' := 45) (As := [.int (1 : Int32)]) (rest := []) cx (k_X4_goYears l D m1 (g 5) ka cI cJ cK cS tr (1 : Int32) r6 hr6) pk_yX4_goYears ml_RX9_175 ⟨rfl, rfl⟩ ⟨(Nat.le_of_ble_eq_true rfl), (Nat.le_of_ble_eq_true rfl)⟩ ⟨(Nat.le_of_ble_eq_true rfl), (Nat.le_of_ble_eq_true rfl)⟩ [11, 12, 13, 14, 15, 16, 17, 18, 19, 20, 31, 32, 33, 34, 35, 36, 37] sx_C_tr sx_n_tr (mt_fst _ _ _ _ _ _ _) (wn := (sx_W g m0 m1 m2 ka sa sn cI cJ cK cS mu r6 ke kp tby tlen ttok tsta tbeh tnum ttak sh fi)) sx_w_tr 0 rfl rfl rfl rfl (Nat.le_of_ble_eq_true rfl) rfl dX9_farthest_42 rfl ?_
        refine sw_iload_n (pc' := 46) (i := 3) cx dX9_farthest_45 rfl 2 rfl rfl ?_
        refine sw_aload_n (pc' := 47) (i := 0) cx dX9_farthest_46 rfl 0 rfl rfl ?_
        refine sw_get (pc' := 50) cx in_X9 0 rfl rfl 1 (Nat.le_of_ble_eq_true rfl) fl_RX9_36 rfl dX9_farthest_47 rfl ?_
        obtain ⟨r7, hr7, hf⟩ := bd_s hf
        refine sw_callV (pc' := 53) (As := []) (rest := [.int x3]) cx (k_X4_climb l D m1 (g 5) ka cI cJ cK cS r6  r7 hr7) pk_yX4_climb ml_RX9_160 ⟨rfl, rfl⟩ ⟨(Nat.le_of_ble_eq_true rfl), (Nat.le_of_ble_eq_true rfl)⟩ ⟨(Nat.le_of_ble_eq_true rfl), (Nat.le_of_ble_eq_true rfl)⟩ [11, 12, 13, 14, 15, 16, 17, 18, 19, 20, 31, 32, 33, 34, 35, 36, 37] sx_C_tr sx_n_tr (mt_fst _ _ _ _ _ _ _) (wn := (sx_W g m0 m1 m2 ka sa sn cI cJ cK cS mu r6 ke kp tby tlen ttok tsta tbeh tnum ttak sh fi)) sx_w_tr 0 rfl rfl rfl rfl (Nat.le_of_ble_eq_true rfl) rfl dX9_farthest_50 rfl ?_
        refine sw_mmax (pc' := 56) cx ml_RX9_196 stat_Lib_Math_max_name ini_RJ9 code_Lib_Math_max_name (Nat.le_of_ble_eq_true rfl) (Nat.le_of_ble_eq_true rfl) ⟨(Nat.le_of_ble_eq_true rfl), (Nat.le_of_ble_eq_true rfl)⟩ dX9_farthest_53 rfl ?_
        refine sw_istore_n (pc' := 57) (i := 3) (lv' := [(3, .int (if x3 < r7 then r7 else x3)), (0, .ref (g 0)), (1, .int x1), (4, .int x4)]) cx dX9_farthest_56 rfl (Nat.le_of_ble_eq_true rfl) rfl rfl ?_
        refine sw_iinc (pc' := 60) (v := (x4 + (1 : Int32))) (lv' := [(4, .int (x4 + (1 : Int32))), (3, .int (if x3 < r7 then r7 else x3)), (0, .ref (g 0)), (1, .int x1)]) cx dX9_farthest_57 3 rfl rfl (Nat.le_of_ble_eq_true rfl) rfl rfl ?_
        refine sw_goto (tgt := 31) cx dX9_farthest_60 (by decide) ?_
        exact sw_lv [2, 3, 1, 0] rfl (ih r6 fi x1 (if x3 < r7 then r7 else x3) (x4 + (1 : Int32)) hf)
  unfold f_X9_farthest at hf
  refine sw_aload_n (pc' := 1) (i := 0) cx dX9_farthest_0 rfl 0 rfl rfl ?_
  refine sw_iload_n (pc' := 2) (i := 1) cx dX9_farthest_1 rfl 1 rfl rfl ?_
  refine sw_iconst (pc' := 3) (v := 0) cx dX9_farthest_2 iconst_0 rfl ?_
  refine sw_sipush (pc' := 6) (v := 200) cx dX9_farthest_3 sipush_200 rfl ?_
  obtain ⟨r1, hr1, hf⟩ := bd_s hf
  refine sw_callVw (pc' := 9) (As := [.int a0, .int (0 : Int32), .int (200 : Int32)]) (rest := []) (w' := (sx_W g m0 m1 m2 ka sa sn cI cJ cK cS mu tr ke kp tby tlen ttok tsta tbeh tnum ttak sh r1.2)) cx (k_X9_againstYears l D g m0 m1 m2 ka sa sn cI cJ cK cS mu tr ke kp tby tlen ttok tsta tbeh tnum ttak sh fi a0 (0 : Int32) (200 : Int32) r1 hr1) pk_yX9_againstYears ml_RX9_171 ⟨rfl, rfl⟩ ⟨(Nat.le_of_ble_eq_true rfl), (Nat.le_of_ble_eq_true rfl)⟩ ⟨(Nat.le_of_ble_eq_true rfl), (Nat.le_of_ble_eq_true rfl)⟩ 0 rfl rfl rfl rfl (Nat.le_of_ble_eq_true rfl) rfl dX9_farthest_6 rfl ?_
  refine sw_istore_n (pc' := 10) (i := 2) (lv' := [(2, .int r1.1), (0, .ref (g 0)), (1, .int a0)]) cx dX9_farthest_9 rfl (Nat.le_of_ble_eq_true rfl) rfl rfl ?_
  refine sw_iload_n (pc' := 11) (i := 2) cx dX9_farthest_10 rfl 0 rfl rfl ?_
  refine sw_if_eq (pc' := 14) (tgt := 16) cx dX9_farthest_11 (by decide) rfl (fun c2 => ?_) (fun c2 => ?_)
  · replace hf := it_p c2 hf
    refine sw_aload_n (pc' := 17) (i := 0) cx dX9_farthest_16 rfl 1 rfl rfl ?_
    obtain ⟨r3, hr3, hf⟩ := bd_s hf
    refine sw_callVw (pc' := 20) (As := []) (rest := []) (w' := (sx_W g m0 m1 m2 ka sa sn cI cJ cK cS mu r3 ke kp tby tlen ttok tsta tbeh tnum ttak sh r1.2)) cx (k_X9_startTrial l D g m0 m1 m2 ka sa sn cI cJ cK cS mu tr ke kp tby tlen ttok tsta tbeh tnum ttak sh r1.2  r3 hr3) pk_yX9_startTrial ml_RX9_190 ⟨rfl, rfl⟩ ⟨(Nat.le_of_ble_eq_true rfl), (Nat.le_of_ble_eq_true rfl)⟩ ⟨(Nat.le_of_ble_eq_true rfl), (Nat.le_of_ble_eq_true rfl)⟩ 0 rfl rfl rfl rfl (Nat.le_of_ble_eq_true rfl) rfl dX9_farthest_17 rfl ?_
    refine sw_aload_n (pc' := 21) (i := 0) cx dX9_farthest_20 rfl 1 rfl rfl ?_
    refine sw_get (pc' := 24) cx in_X9 0 rfl rfl 1 (Nat.le_of_ble_eq_true rfl) fl_RX9_36 rfl dX9_farthest_21 rfl ?_
    obtain ⟨r4, hr4, hf⟩ := bd_s hf
    refine sw_callV (pc' := 27) (As := []) (rest := []) cx (k_X4_climb l D m1 (g 5) ka cI cJ cK cS r3  r4 hr4) pk_yX4_climb ml_RX9_160 ⟨rfl, rfl⟩ ⟨(Nat.le_of_ble_eq_true rfl), (Nat.le_of_ble_eq_true rfl)⟩ ⟨(Nat.le_of_ble_eq_true rfl), (Nat.le_of_ble_eq_true rfl)⟩ [11, 12, 13, 14, 15, 16, 17, 18, 19, 20, 31, 32, 33, 34, 35, 36, 37] sx_C_tr sx_n_tr (mt_fst _ _ _ _ _ _ _) (wn := (sx_W g m0 m1 m2 ka sa sn cI cJ cK cS mu r3 ke kp tby tlen ttok tsta tbeh tnum ttak sh r1.2)) sx_w_tr 0 rfl rfl rfl rfl (Nat.le_of_ble_eq_true rfl) rfl dX9_farthest_24 rfl ?_
    refine sw_istore_n (pc' := 28) (i := 3) (lv' := [(3, .int r4), (2, .int r1.1), (0, .ref (g 0)), (1, .int a0)]) cx dX9_farthest_27 rfl (Nat.le_of_ble_eq_true rfl) rfl rfl ?_
    refine sw_iconst (pc' := 29) (v := 1) cx dX9_farthest_28 iconst_1 rfl ?_
    refine sw_istore (pc' := 31) (i := 4) (lv' := [(4, .int (1 : Int32)), (3, .int r4), (2, .int r1.1), (0, .ref (g 0)), (1, .int a0)]) cx dX9_farthest_29 (Nat.le_of_ble_eq_true rfl) rfl rfl ?_
    exact sw_lv [3, 4, 1, 0] rfl (B31 1000 r3 r1.2 a0 r4 (1 : Int32) hf)
  · replace hf := it_n c2 hf
    refine sw_iload_n (pc' := 15) (i := 2) cx dX9_farthest_14 rfl 0 rfl rfl ?_
    obtain rfl := Option.some.inj hf
    exact sw_iret cx hr hQ dX9_farthest_15
abbrev rm_X9_best : Room := ({ frames := 6, cells := 0, slots := 0, locals := 132 } : Room)
set_option maxRecDepth 100000 in
set_option maxHeartbeats 4000000 in
theorem k_X9_best (l : Launch) (D : sf_D) (g m0 m1 m2 ka sa sn : Nat → Nat) (cI cJ cK cS : ClassId) (mu : MtS) (tr : MtS) (ke : MtS) (kp : Int32) (tby : Nat → Int32) (tlen : Int32) (ttok : Int32) (tsta : Int32) (tbeh : Int32) (tnum : Int32) (ttak : Int32) (sh : Nat → ShS) (fi : Nat → Int32) (a0 : Int32) (a1 : Int32) (res : Int32 × MtS × (Nat → Int32)) (hf : f_X9_best mu tr fi a0 a1 = some res) : sf_Ct l yX9_best cX9_best 9 (some .int) rm_X9_best D (sf_ty cI cJ cK cS) [.ref (g 0), .int a0, .int a1] (sx_W g m0 m1 m2 ka sa sn cI cJ cK cS mu tr ke kp tby tlen ttok tsta tbeh tnum ttak sh fi) (some (.int res.1)) (sx_W g m0 m1 m2 ka sa sn cI cJ cK cS mu res.2.1 ke kp tby tlen ttok tsta tbeh tnum ttak sh res.2.2) := by
  refine sf_met (lv := [(0, .ref (g 0)), (1, .int a0), (2, .int a1)]) (by decide) (Nat.le_of_ble_eq_true rfl) rfl ?_
  intro p e s m args below meth c A Q cx hr hQ
  have cx : sf_Cx p m meth c cX9_best 9 s args RX9 D (sf_ty cI cJ cK cS) A := cx
  have B134 : ∀ (kk : MtS → (Nat → Int32) → Int32 → Int32 → Int32 → Int32 → Int32 → Int32 → Option (Int32 × MtS × (Nat → Int32))), (∀ (tr : MtS) (fi : Nat → Int32) (x1 : Int32) (x2 : Int32) (x4 : Int32) (x5 : Int32) (x6 : Int32) (x7 : Int32), kk tr fi x1 x2 x4 x5 x6 x7 = some res → sf_W p l e rm_X9_best s m args below meth c 0 0 Q 9 D A (sx_W g m0 m1 m2 ka sa sn cI cJ cK cS mu tr ke kp tby tlen ttok tsta tbeh tnum ttak sh fi) [(0, .ref (g 0)), (1, .int x1), (2, .int x2), (4, .int x4), (5, .int x5), (6, .int x6), (7, .int x7)] 71 []) → ∀ (tr : MtS) (fi : Nat → Int32) (x1 : Int32) (x2 : Int32) (x4 : Int32) (x5 : Int32) (x6 : Int32) (x7 : Int32), f_X9_best_b134 mu kk tr fi x1 x2 x4 x5 x6 x7 = some res → sf_W p l e rm_X9_best s m args below meth c 0 0 Q 9 D A (sx_W g m0 m1 m2 ka sa sn cI cJ cK cS mu tr ke kp tby tlen ttok tsta tbeh tnum ttak sh fi) [(0, .ref (g 0)), (1, .int x1), (2, .int x2), (4, .int x4), (5, .int x5), (6, .int x6), (7, .int x7)] 134 [] := by
    intro kk hkk tr fi x1 x2 x4 x5 x6 x7 hf
    unfold f_X9_best_b134 at hf
    refine sw_iinc (pc' := 137) (v := (x7 + (1 : Int32))) (lv' := [(7, .int (x7 + (1 : Int32))), (0, .ref (g 0)), (1, .int x1), (2, .int x2), (4, .int x4), (5, .int x5), (6, .int x6)]) cx dX9_best_134 6 rfl rfl (Nat.le_of_ble_eq_true rfl) rfl rfl ?_
    refine sw_goto (tgt := 71) cx dX9_best_137 (by decide) ?_
    exact sw_lv [1, 2, 3, 4, 5, 6, 0] rfl (hkk tr fi x1 x2 x4 x5 x6 (x7 + (1 : Int32)) hf)
  have B71 : ∀ (n : Nat), ∀ (tr : MtS) (fi : Nat → Int32) (x1 : Int32) (x2 : Int32) (x4 : Int32) (x5 : Int32) (x6 : Int32) (x7 : Int32), f_X9_best_b71 mu n tr fi x1 x2 x4 x5 x6 x7 = some res → sf_W p l e rm_X9_best s m args below meth c 0 0 Q 9 D A (sx_W g m0 m1 m2 ka sa sn cI cJ cK cS mu tr ke kp tby tlen ttok tsta tbeh tnum ttak sh fi) [(0, .ref (g 0)), (1, .int x1), (2, .int x2), (4, .int x4), (5, .int x5), (6, .int x6), (7, .int x7)] 71 [] := by
    intro n
    induction n with
    | zero => intro tr fi x1 x2 x4 x5 x6 x7 hf; rw [f_X9_best_b71] at hf; cases hf
    | succ n ih =>
      intro tr fi x1 x2 x4 x5 x6 x7 hf
      rw [f_X9_best_b71] at hf
      refine sw_iload (pc' := 73) (i := 7) cx dX9_best_71 6 rfl rfl ?_
      refine sw_bipush (pc' := 75) (v := 40) cx dX9_best_73 bipush_40 rfl ?_
      refine sw_icmp_ge (pc' := 78) (tgt := 140) cx dX9_best_75 (by decide) rfl (fun c10 => ?_) (fun c10 => ?_)
      · replace hf := it_p c10 hf
        refine sw_iload (pc' := 142) (i := 5) cx dX9_best_140 4 rfl rfl ?_
        obtain rfl := Option.some.inj hf
        exact sw_iret cx hr hQ dX9_best_142
      · replace hf := it_n c10 hf
        refine sw_iload (pc' := 80) (i := 7) cx dX9_best_78 6 rfl rfl ?_
        refine sw_iload (pc' := 82) (i := 4) cx dX9_best_80 3 rfl rfl ?_
        refine sw_icmp_ne (pc' := 85) (tgt := 88) cx dX9_best_82 (by decide) rfl (fun c11 => ?_) (fun c11 => ?_)
        · replace hf := it_n c11 hf
          refine sw_aload_n (pc' := 89) (i := 0) cx dX9_best_88 rfl 0 rfl rfl ?_
          obtain ⟨r12, hr12, hf⟩ := bd_s hf
          refine sw_callVw (pc' := 92) (As := []) (rest := []) (w' := (sx_W g m0 m1 m2 ka sa sn cI cJ cK cS mu r12 ke kp tby tlen ttok tsta tbeh tnum ttak sh fi)) cx (k_X9_startTrial l D g m0 m1 m2 ka sa sn cI cJ cK cS mu tr ke kp tby tlen ttok tsta tbeh tnum ttak sh fi  r12 hr12) pk_yX9_startTrial ml_RX9_190 ⟨rfl, rfl⟩ ⟨(Nat.le_of_ble_eq_true rfl), (Nat.le_of_ble_eq_true rfl)⟩ ⟨(Nat.le_of_ble_eq_true rfl), (Nat.le_of_ble_eq_true rfl)⟩ 0 rfl rfl rfl rfl (Nat.le_of_ble_eq_true rfl) rfl dX9_best_89 rfl ?_
          refine sw_aload_n (pc' := 93) (i := 0) cx dX9_best_92 rfl 0 rfl rfl ?_
          refine sw_get (pc' := 96) cx in_X9 0 rfl rfl 1 (Nat.le_of_ble_eq_true rfl) fl_RX9_36 rfl dX9_best_93 rfl ?_
          refine sw_iload_n (pc' := 97) (i := 1) cx dX9_best_96 rfl 1 rfl rfl ?_
          refine sw_iload (pc' := 99) (i := 7) cx dX9_best_97 6 rfl rfl ?_
          obtain ⟨r13, hr13, hf⟩ := bd_s hf
          refine sw_callV (pc' := 102) (As := [.int x1, .int x7]) (rest := []) cx (k_X4_moveFine l D m1 (g 5) ka cI cJ cK cS r12 x1 x7 r13 hr13) pk_yX4_moveFine ml_RX9_124 ⟨rfl, rfl⟩ ⟨(Nat.le_of_ble_eq_true rfl), (Nat.le_of_ble_eq_true rfl)⟩ ⟨(Nat.le_of_ble_eq_true rfl), (Nat.le_of_ble_eq_true rfl)⟩ [11, 12, 13, 14, 15, 16, 17, 18, 19, 20, 31, 32, 33, 34, 35, 36, 37] sx_C_tr sx_n_tr (mt_fst _ _ _ _ _ _ _) (wn := (sx_W g m0 m1 m2 ka sa sn cI cJ cK cS mu r13 ke kp tby tlen ttok tsta tbeh tnum ttak sh fi)) sx_w_tr 0 rfl rfl rfl rfl (Nat.le_of_ble_eq_true rfl) rfl dX9_best_99 rfl ?_
          refine sw_aload_n (pc' := 103) (i := 0) cx dX9_best_102 rfl 0 rfl rfl ?_
          refine sw_get (pc' := 106) cx in_X9 0 rfl rfl 1 (Nat.le_of_ble_eq_true rfl) fl_RX9_36 rfl dX9_best_103 rfl ?_
          refine sw_iload_n (pc' := 107) (i := 2) cx dX9_best_106 rfl 2 rfl rfl ?_
          obtain ⟨r14, hr14, hf⟩ := bd_s hf
          refine sw_callV (pc' := 110) (As := [.int x2]) (rest := []) cx (k_X4_goYears l D m1 (g 5) ka cI cJ cK cS r13 x2 r14 hr14) pk_yX4_goYears ml_RX9_175 ⟨rfl, rfl⟩ ⟨(Nat.le_of_ble_eq_true rfl), (Nat.le_of_ble_eq_true rfl)⟩ ⟨(Nat.le_of_ble_eq_true rfl), (Nat.le_of_ble_eq_true rfl)⟩ [11, 12, 13, 14, 15, 16, 17, 18, 19, 20, 31, 32, 33, 34, 35, 36, 37] sx_C_tr sx_n_tr (mt_fst _ _ _ _ _ _ _) (wn := (sx_W g m0 m1 m2 ka sa sn cI cJ cK cS mu r14 ke kp tby tlen ttok tsta tbeh tnum ttak sh fi)) sx_w_tr 0 rfl rfl rfl rfl (Nat.le_of_ble_eq_true rfl) rfl dX9_best_107 rfl ?_
          refine sw_aload_n (pc' := 111) (i := 0) cx dX9_best_110 rfl 0 rfl rfl ?_
          refine sw_get (pc' := 114) cx in_X9 0 rfl rfl 1 (Nat.le_of_ble_eq_true rfl) fl_RX9_36 rfl dX9_best_111 rfl ?_
          obtain ⟨r15, hr15, hf⟩ := bd_s hf
          refine sw_callV (pc' := 117) (As := []) (rest := []) cx (k_X4_climb l D m1 (g 5) ka cI cJ cK cS r14  r15 hr15) pk_yX4_climb ml_RX9_160 ⟨rfl, rfl⟩ ⟨(Nat.le_of_ble_eq_true rfl), (Nat.le_of_ble_eq_true rfl)⟩ ⟨(Nat.le_of_ble_eq_true rfl), (Nat.le_of_ble_eq_true rfl)⟩ [11, 12, 13, 14, 15, 16, 17, 18, 19, 20, 31, 32, 33, 34, 35, 36, 37] sx_C_tr sx_n_tr (mt_fst _ _ _ _ _ _ _) (wn := (sx_W g m0 m1 m2 ka sa sn cI cJ cK cS mu r14 ke kp tby tlen ttok tsta tbeh tnum ttak sh fi)) sx_w_tr 0 rfl rfl rfl rfl (Nat.le_of_ble_eq_true rfl) rfl dX9_best_114 rfl ?_
          refine sw_istore (pc' := 119) (i := 8) (lv' := [(8, .int r15), (0, .ref (g 0)), (1, .int x1), (2, .int x2), (4, .int x4), (5, .int x5), (6, .int x6), (7, .int x7)]) cx dX9_best_117 (Nat.le_of_ble_eq_true rfl) rfl rfl ?_
          refine sw_iload (pc' := 121) (i := 8) cx dX9_best_119 0 rfl rfl ?_
          refine sw_iload (pc' := 123) (i := 6) cx dX9_best_121 6 rfl rfl ?_
          refine sw_icmp_le (pc' := 126) (tgt := 134) cx dX9_best_123 (by decide) rfl (fun c16 => ?_) (fun c16 => ?_)
          · replace hf := it_p c16 hf
            exact sw_lv [1, 2, 3, 4, 5, 6, 7] rfl (B134 _ ih r14 fi x1 x2 x4 x5 x6 x7 hf)
          · replace hf := it_n c16 hf
            refine sw_iload (pc' := 128) (i := 8) cx dX9_best_126 0 rfl rfl ?_
            refine sw_istore (pc' := 130) (i := 6) (lv' := [(6, .int r15), (8, .int r15), (0, .ref (g 0)), (1, .int x1), (2, .int x2), (4, .int x4), (5, .int x5), (7, .int x7)]) cx dX9_best_128 (Nat.le_of_ble_eq_true rfl) rfl rfl ?_
            refine sw_iload (pc' := 132) (i := 7) cx dX9_best_130 7 rfl rfl ?_
            refine sw_istore (pc' := 134) (i := 5) (lv' := [(5, .int x7), (6, .int r15), (8, .int r15), (0, .ref (g 0)), (1, .int x1), (2, .int x2), (4, .int x4), (7, .int x7)]) cx dX9_best_132 (Nat.le_of_ble_eq_true rfl) rfl rfl ?_
            exact sw_lv [3, 4, 5, 6, 0, 1, 7] rfl (B134 _ ih r14 fi x1 x2 x4 x7 r15 x7 hf)
        · replace hf := it_p c11 hf
          refine sw_goto (tgt := 134) cx dX9_best_85 (by decide) ?_
          exact sw_lv [0, 1, 2, 3, 4, 5, 6] rfl (B134 _ ih tr fi x1 x2 x4 x5 x6 x7 hf)
  unfold f_X9_best at hf
  refine sw_aload_n (pc' := 1) (i := 0) cx dX9_best_0 rfl 0 rfl rfl ?_
  refine sw_get (pc' := 4) cx in_X9 0 rfl rfl 0 (Nat.le_of_ble_eq_true rfl) fl_RX9_32 rfl dX9_best_1 rfl ?_
  refine sw_iload_n (pc' := 5) (i := 1) cx dX9_best_4 rfl 1 rfl rfl ?_
  obtain ⟨r1, hr1, hf⟩ := bd_s hf
  refine sw_callV (pc' := 8) (As := [.int a0]) (rest := []) cx (k_X4_hasFine l D m0 (g 5) ka cI cJ cK cS mu a0 r1 hr1) pk_yX4_hasFine ml_RX9_96 ⟨rfl, rfl⟩ ⟨(Nat.le_of_ble_eq_true rfl), (Nat.le_of_ble_eq_true rfl)⟩ ⟨(Nat.le_of_ble_eq_true rfl), (Nat.le_of_ble_eq_true rfl)⟩ [1, 2, 3, 4, 5, 6, 7, 8, 9, 10, 31, 32, 33, 34, 35, 36, 37] sx_C_mu sx_n_mu (mt_fst _ _ _ _ _ _ _) (wn := (sx_W g m0 m1 m2 ka sa sn cI cJ cK cS mu tr ke kp tby tlen ttok tsta tbeh tnum ttak sh fi)) sx_w_mu 0 rfl rfl rfl rfl (Nat.le_of_ble_eq_true rfl) rfl dX9_best_5 rfl ?_
  refine sw_if_ne (pc' := 11) (tgt := 17) cx dX9_best_8 (by decide) rfl (fun c2 => ?_) (fun c2 => ?_)
  · replace hf := it_n c2 hf
    refine sw_aload_n (pc' := 18) (i := 0) cx dX9_best_17 rfl 0 rfl rfl ?_
    refine sw_iload_n (pc' := 19) (i := 2) cx dX9_best_18 rfl 2 rfl rfl ?_
    refine sw_iconst (pc' := 20) (v := 1) cx dX9_best_19 iconst_1 rfl ?_
    refine sw_bipush (pc' := 22) (v := 100) cx dX9_best_20 bipush_100 rfl ?_
    obtain ⟨r3, hr3, hf⟩ := bd_s hf
    refine sw_callVw (pc' := 25) (As := [.int a1, .int (1 : Int32), .int (100 : Int32)]) (rest := []) (w' := (sx_W g m0 m1 m2 ka sa sn cI cJ cK cS mu tr ke kp tby tlen ttok tsta tbeh tnum ttak sh r3.2)) cx (k_X9_againstYears l D g m0 m1 m2 ka sa sn cI cJ cK cS mu tr ke kp tby tlen ttok tsta tbeh tnum ttak sh fi a1 (1 : Int32) (100 : Int32) r3 hr3) pk_yX9_againstYears ml_RX9_171 ⟨rfl, rfl⟩ ⟨(Nat.le_of_ble_eq_true rfl), (Nat.le_of_ble_eq_true rfl)⟩ ⟨(Nat.le_of_ble_eq_true rfl), (Nat.le_of_ble_eq_true rfl)⟩ 0 rfl rfl rfl rfl (Nat.le_of_ble_eq_true rfl) rfl dX9_best_22 rfl ?_
    refine sw_istore_n (pc' := 26) (i := 3) (lv' := [(3, .int r3.1), (0, .ref (g 0)), (1, .int a0), (2, .int a1)]) cx dX9_best_25 rfl (Nat.le_of_ble_eq_true rfl) rfl rfl ?_
    refine sw_iload_n (pc' := 27) (i := 3) cx dX9_best_26 rfl 0 rfl rfl ?_
    refine sw_if_eq (pc' := 30) (tgt := 32) cx dX9_best_27 (by decide) rfl (fun c4 => ?_) (fun c4 => ?_)
    · replace hf := it_p c4 hf
      refine sw_aload_n (pc' := 33) (i := 0) cx dX9_best_32 rfl 1 rfl rfl ?_
      refine sw_get (pc' := 36) cx in_X9 0 rfl rfl 0 (Nat.le_of_ble_eq_true rfl) fl_RX9_32 rfl dX9_best_33 rfl ?_
      refine sw_getN (pc' := 39) cx in_X4 1 rfl rfl 13 (Nat.le_of_ble_eq_true rfl) fn_RX9_105 rfl dX9_best_36 rfl ?_
      refine sw_iload_n (pc' := 40) (i := 1) cx dX9_best_39 rfl 2 rfl rfl ?_
      obtain ⟨h5, hf⟩ := gx_s hf
      refine sw_iald (pc' := 41) cx 8 0 rfl rfl h5 dX9_best_40 rfl ?_
      refine sw_istore (pc' := 43) (i := 4) (lv' := [(4, .int ((mu.1 7) (a0).toNatClampNeg)), (3, .int r3.1), (0, .ref (g 0)), (1, .int a0), (2, .int a1)]) cx dX9_best_41 (Nat.le_of_ble_eq_true rfl) rfl rfl ?_
      refine sw_iload (pc' := 45) (i := 4) cx dX9_best_43 0 rfl rfl ?_
      refine sw_istore (pc' := 47) (i := 5) (lv' := [(5, .int ((mu.1 7) (a0).toNatClampNeg)), (4, .int ((mu.1 7) (a0).toNatClampNeg)), (3, .int r3.1), (0, .ref (g 0)), (1, .int a0), (2, .int a1)]) cx dX9_best_45 (Nat.le_of_ble_eq_true rfl) rfl rfl ?_
      refine sw_aload_n (pc' := 48) (i := 0) cx dX9_best_47 rfl 3 rfl rfl ?_
      obtain ⟨r6, hr6, hf⟩ := bd_s hf
      refine sw_callVw (pc' := 51) (As := []) (rest := []) (w' := (sx_W g m0 m1 m2 ka sa sn cI cJ cK cS mu r6 ke kp tby tlen ttok tsta tbeh tnum ttak sh r3.2)) cx (k_X9_startTrial l D g m0 m1 m2 ka sa sn cI cJ cK cS mu tr ke kp tby tlen ttok tsta tbeh tnum ttak sh r3.2  r6 hr6) pk_yX9_startTrial ml_RX9_190 ⟨rfl, rfl⟩ ⟨(Nat.le_of_ble_eq_true rfl), (Nat.le_of_ble_eq_true rfl)⟩ ⟨(Nat.le_of_ble_eq_true rfl), (Nat.le_of_ble_eq_true rfl)⟩ 0 rfl rfl rfl rfl (Nat.le_of_ble_eq_true rfl) rfl dX9_best_48 rfl ?_
      refine sw_aload_n (pc' := 52) (i := 0) cx dX9_best_51 rfl 3 rfl rfl ?_
      refine sw_get (pc' := 55) cx in_X9 0 rfl rfl 1 (Nat.le_of_ble_eq_true rfl) fl_RX9_36 rfl dX9_best_52 rfl ?_
      refine sw_iload_n (pc' := 56) (i := 2) cx dX9_best_55 rfl 5 rfl rfl ?_
      obtain ⟨r7, hr7, hf⟩ := bd_s hf
      refine sw_callV (pc' := 59) (As := [.int a1]) (rest := []) cx (k_X4_goYears l D m1 (g 5) ka cI cJ cK cS r6 a1 r7 hr7) pk_yX4_goYears ml_RX9_175 ⟨rfl, rfl⟩ ⟨(Nat.le_of_ble_eq_true rfl), (Nat.le_of_ble_eq_true rfl)⟩ ⟨(Nat.le_of_ble_eq_true rfl), (Nat.le_of_ble_eq_true rfl)⟩ [11, 12, 13, 14, 15, 16, 17, 18, 19, 20, 31, 32, 33, 34, 35, 36, 37] sx_C_tr sx_n_tr (mt_fst _ _ _ _ _ _ _) (wn := (sx_W g m0 m1 m2 ka sa sn cI cJ cK cS mu r7 ke kp tby tlen ttok tsta tbeh tnum ttak sh r3.2)) sx_w_tr 0 rfl rfl rfl rfl (Nat.le_of_ble_eq_true rfl) rfl dX9_best_56 rfl ?_
      refine sw_aload_n (pc' := 60) (i := 0) cx dX9_best_59 rfl 3 rfl rfl ?_
      refine sw_get (pc' := 63) cx in_X9 0 rfl rfl 1 (Nat.le_of_ble_eq_true rfl) fl_RX9_36 rfl dX9_best_60 rfl ?_
      obtain ⟨r8, hr8, hf⟩ := bd_s hf
      refine sw_callV (pc' := 66) (As := []) (rest := []) cx (k_X4_climb l D m1 (g 5) ka cI cJ cK cS r7  r8 hr8) pk_yX4_climb ml_RX9_160 ⟨rfl, rfl⟩ ⟨(Nat.le_of_ble_eq_true rfl), (Nat.le_of_ble_eq_true rfl)⟩ ⟨(Nat.le_of_ble_eq_true rfl), (Nat.le_of_ble_eq_true rfl)⟩ [11, 12, 13, 14, 15, 16, 17, 18, 19, 20, 31, 32, 33, 34, 35, 36, 37] sx_C_tr sx_n_tr (mt_fst _ _ _ _ _ _ _) (wn := (sx_W g m0 m1 m2 ka sa sn cI cJ cK cS mu r7 ke kp tby tlen ttok tsta tbeh tnum ttak sh r3.2)) sx_w_tr 0 rfl rfl rfl rfl (Nat.le_of_ble_eq_true rfl) rfl dX9_best_63 rfl ?_
      refine sw_istore (pc' := 68) (i := 6) (lv' := [(6, .int r8), (5, .int ((mu.1 7) (a0).toNatClampNeg)), (4, .int ((mu.1 7) (a0).toNatClampNeg)), (3, .int r3.1), (0, .ref (g 0)), (1, .int a0), (2, .int a1)]) cx dX9_best_66 (Nat.le_of_ble_eq_true rfl) rfl rfl ?_
      refine sw_iconst (pc' := 69) (v := 0) cx dX9_best_68 iconst_0 rfl ?_
      refine sw_istore (pc' := 71) (i := 7) (lv' := [(7, .int (0 : Int32)), (6, .int r8), (5, .int ((mu.1 7) (a0).toNatClampNeg)), (4, .int ((mu.1 7) (a0).toNatClampNeg)), (3, .int r3.1), (0, .ref (g 0)), (1, .int a0), (2, .int a1)]) cx dX9_best_69 (Nat.le_of_ble_eq_true rfl) rfl rfl ?_
      exact sw_lv [5, 6, 7, 3, 2, 1, 0] rfl (B71 1000 r7 r3.2 a0 a1 ((mu.1 7) (a0).toNatClampNeg) ((mu.1 7) (a0).toNatClampNeg) r8 (0 : Int32) hf)
    · replace hf := it_n c4 hf
      refine sw_iload_n (pc' := 31) (i := 3) cx dX9_best_30 rfl 0 rfl rfl ?_
      obtain rfl := Option.some.inj hf
      exact sw_iret cx hr hQ dX9_best_31
  · replace hf := it_p c2 hf
    refine sw_aload_n (pc' := 12) (i := 0) cx dX9_best_11 rfl 0 rfl rfl ?_
    refine sw_iconst (pc' := 13) (v := 0) cx dX9_best_12 iconst_0 rfl ?_
    obtain ⟨r9, hr9, hf⟩ := bd_s hf
    refine sw_callVw (pc' := 16) (As := [.int (0 : Int32)]) (rest := []) (w' := (sx_W g m0 m1 m2 ka sa sn cI cJ cK cS mu tr ke kp tby tlen ttok tsta tbeh tnum ttak sh r9.2)) cx (k_X9_found l D g m0 m1 m2 ka sa sn cI cJ cK cS mu tr ke kp tby tlen ttok tsta tbeh tnum ttak sh fi (0 : Int32) r9 hr9) pk_yX9_found ml_RX9_68 ⟨rfl, rfl⟩ ⟨(Nat.le_of_ble_eq_true rfl), (Nat.le_of_ble_eq_true rfl)⟩ ⟨(Nat.le_of_ble_eq_true rfl), (Nat.le_of_ble_eq_true rfl)⟩ 0 rfl rfl rfl rfl (Nat.le_of_ble_eq_true rfl) rfl dX9_best_13 rfl ?_
    obtain rfl := Option.some.inj hf
    exact sw_iret cx hr hQ dX9_best_16
abbrev rm_X9_kind : Room := ({ frames := 6, cells := 0, slots := 0, locals := 132 } : Room)
set_option maxRecDepth 100000 in
set_option maxHeartbeats 4000000 in
theorem k_X9_kind (l : Launch) (D : sf_D) (g m0 m1 m2 ka sa sn : Nat → Nat) (cI cJ cK cS : ClassId) (mu : MtS) (tr : MtS) (ke : MtS) (kp : Int32) (tby : Nat → Int32) (tlen : Int32) (ttok : Int32) (tsta : Int32) (tbeh : Int32) (tnum : Int32) (ttak : Int32) (sh : Nat → ShS) (fi : Nat → Int32) (a0 : Int32) (a1 : Int32) (res : Int32 × MtS × (Nat → Int32)) (hf : f_X9_kind mu tr fi a0 a1 = some res) : sf_Ct l yX9_kind cX9_kind 8 (some .int) rm_X9_kind D (sf_ty cI cJ cK cS) [.ref (g 0), .int a0, .int a1] (sx_W g m0 m1 m2 ka sa sn cI cJ cK cS mu tr ke kp tby tlen ttok tsta tbeh tnum ttak sh fi) (some (.int res.1)) (sx_W g m0 m1 m2 ka sa sn cI cJ cK cS mu res.2.1 ke kp tby tlen ttok tsta tbeh tnum ttak sh res.2.2) := by
  refine sf_met (lv := [(0, .ref (g 0)), (1, .int a0), (2, .int a1)]) (by decide) (Nat.le_of_ble_eq_true rfl) rfl ?_
  intro p e s m args below meth c A Q cx hr hQ
  have cx : sf_Cx p m meth c cX9_kind 8 s args RX9 D (sf_ty cI cJ cK cS) A := cx
  have B95 : ∀ (kk : MtS → (Nat → Int32) → Int32 → Int32 → Int32 → Int32 → Int32 → Option (Int32 × MtS × (Nat → Int32))), (∀ (tr : MtS) (fi : Nat → Int32) (x1 : Int32) (x2 : Int32) (x4 : Int32) (x5 : Int32) (x6 : Int32), kk tr fi x1 x2 x4 x5 x6 = some res → sf_W p l e rm_X9_kind s m args below meth c 0 0 Q 8 D A (sx_W g m0 m1 m2 ka sa sn cI cJ cK cS mu tr ke kp tby tlen ttok tsta tbeh tnum ttak sh fi) [(0, .ref (g 0)), (1, .int x1), (2, .int x2), (4, .int x4), (5, .int x5), (6, .int x6)] 41 []) → ∀ (tr : MtS) (fi : Nat → Int32) (x1 : Int32) (x2 : Int32) (x4 : Int32) (x5 : Int32) (x6 : Int32), f_X9_kind_b95 mu kk tr fi x1 x2 x4 x5 x6 = some res → sf_W p l e rm_X9_kind s m args below meth c 0 0 Q 8 D A (sx_W g m0 m1 m2 ka sa sn cI cJ cK cS mu tr ke kp tby tlen ttok tsta tbeh tnum ttak sh fi) [(0, .ref (g 0)), (1, .int x1), (2, .int x2), (4, .int x4), (5, .int x5), (6, .int x6)] 95 [] := by
    intro kk hkk tr fi x1 x2 x4 x5 x6 hf
    unfold f_X9_kind_b95 at hf
    refine sw_iinc (pc' := 98) (v := (x6 + (1 : Int32))) (lv' := [(6, .int (x6 + (1 : Int32))), (0, .ref (g 0)), (1, .int x1), (2, .int x2), (4, .int x4), (5, .int x5)]) cx dX9_kind_95 5 rfl rfl (Nat.le_of_ble_eq_true rfl) rfl rfl ?_
    refine sw_goto (tgt := 41) cx dX9_kind_98 (by decide) ?_
    exact sw_lv [1, 2, 3, 4, 5, 0] rfl (hkk tr fi x1 x2 x4 x5 (x6 + (1 : Int32)) hf)
  have B41 : ∀ (n : Nat), ∀ (tr : MtS) (fi : Nat → Int32) (x1 : Int32) (x2 : Int32) (x4 : Int32) (x5 : Int32) (x6 : Int32), f_X9_kind_b41 mu n tr fi x1 x2 x4 x5 x6 = some res → sf_W p l e rm_X9_kind s m args below meth c 0 0 Q 8 D A (sx_W g m0 m1 m2 ka sa sn cI cJ cK cS mu tr ke kp tby tlen ttok tsta tbeh tnum ttak sh fi) [(0, .ref (g 0)), (1, .int x1), (2, .int x2), (4, .int x4), (5, .int x5), (6, .int x6)] 41 [] := by
    intro n
    induction n with
    | zero => intro tr fi x1 x2 x4 x5 x6 hf; rw [f_X9_kind_b41] at hf; cases hf
    | succ n ih =>
      intro tr fi x1 x2 x4 x5 x6 hf
      rw [f_X9_kind_b41] at hf
      refine sw_iload (pc' := 43) (i := 6) cx dX9_kind_41 5 rfl rfl ?_
      refine sw_bipush (pc' := 45) (v := 6) cx dX9_kind_43 bipush_6 rfl ?_
      refine sw_icmp_ge (pc' := 48) (tgt := 101) cx dX9_kind_45 (by decide) rfl (fun c6 => ?_) (fun c6 => ?_)
      · replace hf := it_p c6 hf
        refine sw_iload (pc' := 103) (i := 4) cx dX9_kind_101 3 rfl rfl ?_
        obtain rfl := Option.some.inj hf
        exact sw_iret cx hr hQ dX9_kind_103
      · replace hf := it_n c6 hf
        refine sw_aload_n (pc' := 49) (i := 0) cx dX9_kind_48 rfl 0 rfl rfl ?_
        obtain ⟨r7, hr7, hf⟩ := bd_s hf
        refine sw_callVw (pc' := 52) (As := []) (rest := []) (w' := (sx_W g m0 m1 m2 ka sa sn cI cJ cK cS mu r7 ke kp tby tlen ttok tsta tbeh tnum ttak sh fi)) cx (k_X9_startTrial l D g m0 m1 m2 ka sa sn cI cJ cK cS mu tr ke kp tby tlen ttok tsta tbeh tnum ttak sh fi  r7 hr7) pk_yX9_startTrial ml_RX9_190 ⟨rfl, rfl⟩ ⟨(Nat.le_of_ble_eq_true rfl), (Nat.le_of_ble_eq_true rfl)⟩ ⟨(Nat.le_of_ble_eq_true rfl), (Nat.le_of_ble_eq_true rfl)⟩ 0 rfl rfl rfl rfl (Nat.le_of_ble_eq_true rfl) rfl dX9_kind_49 rfl ?_
        refine sw_aload_n (pc' := 53) (i := 0) cx dX9_kind_52 rfl 0 rfl rfl ?_
        refine sw_get (pc' := 56) cx in_X9 0 rfl rfl 1 (Nat.le_of_ble_eq_true rfl) fl_RX9_36 rfl dX9_kind_53 rfl ?_
        refine sw_getN (pc' := 59) cx in_X4 11 rfl rfl 11 (Nat.le_of_ble_eq_true rfl) fn_RX9_99 rfl dX9_kind_56 rfl ?_
        refine sw_iload_n (pc' := 60) (i := 1) cx dX9_kind_59 rfl 1 rfl rfl ?_
        refine sw_iload (pc' := 62) (i := 6) cx dX9_kind_60 5 rfl rfl ?_
        obtain ⟨h8, hf⟩ := gx_s hf
        refine sw_iast (pc' := 63) (ws' := (sx_W g m0 m1 m2 ka sa sn cI cJ cK cS mu (mt_mk (r7.1 0 0) (r7.1 0 1) (r7.1 0 2) (r7.1 0 3) (r7.1 0 4) (r7.1 1) (r7.1 2) (r7.1 3) (r7.1 4) (upd (r7.1 5) (x1).toNatClampNeg x6) (r7.1 6) (r7.1 7) (r7.1 8) (r7.1 9) r7.2) ke kp tby tlen ttok tsta tbeh tnum ttak sh fi)) cx 16 0 rfl rfl h8 dX9_kind_62 rfl rfl ?_
        refine sw_aload_n (pc' := 64) (i := 0) cx dX9_kind_63 rfl 0 rfl rfl ?_
        refine sw_get (pc' := 67) cx in_X9 0 rfl rfl 1 (Nat.le_of_ble_eq_true rfl) fl_RX9_36 rfl dX9_kind_64 rfl ?_
        refine sw_iload_n (pc' := 68) (i := 2) cx dX9_kind_67 rfl 2 rfl rfl ?_
        obtain ⟨r9, hr9, hf⟩ := bd_s hf
        refine sw_callV (pc' := 71) (As := [.int x2]) (rest := []) cx (k_X4_goYears l D m1 (g 5) ka cI cJ cK cS (mt_mk (r7.1 0 0) (r7.1 0 1) (r7.1 0 2) (r7.1 0 3) (r7.1 0 4) (r7.1 1) (r7.1 2) (r7.1 3) (r7.1 4) (upd (r7.1 5) (x1).toNatClampNeg x6) (r7.1 6) (r7.1 7) (r7.1 8) (r7.1 9) r7.2) x2 r9 hr9) pk_yX4_goYears ml_RX9_175 ⟨rfl, rfl⟩ ⟨(Nat.le_of_ble_eq_true rfl), (Nat.le_of_ble_eq_true rfl)⟩ ⟨(Nat.le_of_ble_eq_true rfl), (Nat.le_of_ble_eq_true rfl)⟩ [11, 12, 13, 14, 15, 16, 17, 18, 19, 20, 31, 32, 33, 34, 35, 36, 37] sx_C_tr sx_n_tr (mt_fst _ _ _ _ _ _ _) (wn := (sx_W g m0 m1 m2 ka sa sn cI cJ cK cS mu r9 ke kp tby tlen ttok tsta tbeh tnum ttak sh fi)) sx_w_tr 0 rfl rfl rfl rfl (Nat.le_of_ble_eq_true rfl) rfl dX9_kind_68 rfl ?_
        refine sw_aload_n (pc' := 72) (i := 0) cx dX9_kind_71 rfl 0 rfl rfl ?_
        refine sw_get (pc' := 75) cx in_X9 0 rfl rfl 1 (Nat.le_of_ble_eq_true rfl) fl_RX9_36 rfl dX9_kind_72 rfl ?_
        obtain ⟨r10, hr10, hf⟩ := bd_s hf
        refine sw_callV (pc' := 78) (As := []) (rest := []) cx (k_X4_climb l D m1 (g 5) ka cI cJ cK cS r9  r10 hr10) pk_yX4_climb ml_RX9_160 ⟨rfl, rfl⟩ ⟨(Nat.le_of_ble_eq_true rfl), (Nat.le_of_ble_eq_true rfl)⟩ ⟨(Nat.le_of_ble_eq_true rfl), (Nat.le_of_ble_eq_true rfl)⟩ [11, 12, 13, 14, 15, 16, 17, 18, 19, 20, 31, 32, 33, 34, 35, 36, 37] sx_C_tr sx_n_tr (mt_fst _ _ _ _ _ _ _) (wn := (sx_W g m0 m1 m2 ka sa sn cI cJ cK cS mu r9 ke kp tby tlen ttok tsta tbeh tnum ttak sh fi)) sx_w_tr 0 rfl rfl rfl rfl (Nat.le_of_ble_eq_true rfl) rfl dX9_kind_75 rfl ?_
        refine sw_istore (pc' := 80) (i := 7) (lv' := [(7, .int r10), (0, .ref (g 0)), (1, .int x1), (2, .int x2), (4, .int x4), (5, .int x5), (6, .int x6)]) cx dX9_kind_78 (Nat.le_of_ble_eq_true rfl) rfl rfl ?_
        refine sw_iload (pc' := 82) (i := 7) cx dX9_kind_80 0 rfl rfl ?_
        refine sw_iload (pc' := 84) (i := 5) cx dX9_kind_82 5 rfl rfl ?_
        refine sw_icmp_le (pc' := 87) (tgt := 95) cx dX9_kind_84 (by decide) rfl (fun c11 => ?_) (fun c11 => ?_)
        · replace hf := it_p c11 hf
          exact sw_lv [1, 2, 3, 4, 5, 6] rfl (B95 _ ih r9 fi x1 x2 x4 x5 x6 hf)
        · replace hf := it_n c11 hf
          refine sw_iload (pc' := 89) (i := 7) cx dX9_kind_87 0 rfl rfl ?_
          refine sw_istore (pc' := 91) (i := 5) (lv' := [(5, .int r10), (7, .int r10), (0, .ref (g 0)), (1, .int x1), (2, .int x2), (4, .int x4), (6, .int x6)]) cx dX9_kind_89 (Nat.le_of_ble_eq_true rfl) rfl rfl ?_
          refine sw_iload (pc' := 93) (i := 6) cx dX9_kind_91 6 rfl rfl ?_
          refine sw_istore (pc' := 95) (i := 4) (lv' := [(4, .int x6), (5, .int r10), (7, .int r10), (0, .ref (g 0)), (1, .int x1), (2, .int x2), (6, .int x6)]) cx dX9_kind_93 (Nat.le_of_ble_eq_true rfl) rfl rfl ?_
          exact sw_lv [3, 4, 5, 0, 1, 6] rfl (B95 _ ih r9 fi x1 x2 x6 r10 x6 hf)
  unfold f_X9_kind at hf
  refine sw_aload_n (pc' := 1) (i := 0) cx dX9_kind_0 rfl 0 rfl rfl ?_
  refine sw_get (pc' := 4) cx in_X9 0 rfl rfl 0 (Nat.le_of_ble_eq_true rfl) fl_RX9_32 rfl dX9_kind_1 rfl ?_
  refine sw_iload_n (pc' := 5) (i := 1) cx dX9_kind_4 rfl 1 rfl rfl ?_
  obtain ⟨r1, hr1, hf⟩ := bd_s hf
  refine sw_callV (pc' := 8) (As := [.int a0]) (rest := []) cx (k_X4_hasFine l D m0 (g 5) ka cI cJ cK cS mu a0 r1 hr1) pk_yX4_hasFine ml_RX9_96 ⟨rfl, rfl⟩ ⟨(Nat.le_of_ble_eq_true rfl), (Nat.le_of_ble_eq_true rfl)⟩ ⟨(Nat.le_of_ble_eq_true rfl), (Nat.le_of_ble_eq_true rfl)⟩ [1, 2, 3, 4, 5, 6, 7, 8, 9, 10, 31, 32, 33, 34, 35, 36, 37] sx_C_mu sx_n_mu (mt_fst _ _ _ _ _ _ _) (wn := (sx_W g m0 m1 m2 ka sa sn cI cJ cK cS mu tr ke kp tby tlen ttok tsta tbeh tnum ttak sh fi)) sx_w_mu 0 rfl rfl rfl rfl (Nat.le_of_ble_eq_true rfl) rfl dX9_kind_5 rfl ?_
  refine sw_if_ne (pc' := 11) (tgt := 17) cx dX9_kind_8 (by decide) rfl (fun c2 => ?_) (fun c2 => ?_)
  · replace hf := it_n c2 hf
    refine sw_aload_n (pc' := 18) (i := 0) cx dX9_kind_17 rfl 0 rfl rfl ?_
    refine sw_iload_n (pc' := 19) (i := 2) cx dX9_kind_18 rfl 2 rfl rfl ?_
    refine sw_iconst (pc' := 20) (v := 1) cx dX9_kind_19 iconst_1 rfl ?_
    refine sw_bipush (pc' := 22) (v := 100) cx dX9_kind_20 bipush_100 rfl ?_
    obtain ⟨r3, hr3, hf⟩ := bd_s hf
    refine sw_callVw (pc' := 25) (As := [.int a1, .int (1 : Int32), .int (100 : Int32)]) (rest := []) (w' := (sx_W g m0 m1 m2 ka sa sn cI cJ cK cS mu tr ke kp tby tlen ttok tsta tbeh tnum ttak sh r3.2)) cx (k_X9_againstYears l D g m0 m1 m2 ka sa sn cI cJ cK cS mu tr ke kp tby tlen ttok tsta tbeh tnum ttak sh fi a1 (1 : Int32) (100 : Int32) r3 hr3) pk_yX9_againstYears ml_RX9_171 ⟨rfl, rfl⟩ ⟨(Nat.le_of_ble_eq_true rfl), (Nat.le_of_ble_eq_true rfl)⟩ ⟨(Nat.le_of_ble_eq_true rfl), (Nat.le_of_ble_eq_true rfl)⟩ 0 rfl rfl rfl rfl (Nat.le_of_ble_eq_true rfl) rfl dX9_kind_22 rfl ?_
    refine sw_istore_n (pc' := 26) (i := 3) (lv' := [(3, .int r3.1), (0, .ref (g 0)), (1, .int a0), (2, .int a1)]) cx dX9_kind_25 rfl (Nat.le_of_ble_eq_true rfl) rfl rfl ?_
    refine sw_iload_n (pc' := 27) (i := 3) cx dX9_kind_26 rfl 0 rfl rfl ?_
    refine sw_if_eq (pc' := 30) (tgt := 32) cx dX9_kind_27 (by decide) rfl (fun c4 => ?_) (fun c4 => ?_)
    · replace hf := it_p c4 hf
      refine sw_iconst (pc' := 33) (v := 0) cx dX9_kind_32 iconst_0 rfl ?_
      refine sw_istore (pc' := 35) (i := 4) (lv' := [(4, .int (0 : Int32)), (3, .int r3.1), (0, .ref (g 0)), (1, .int a0), (2, .int a1)]) cx dX9_kind_33 (Nat.le_of_ble_eq_true rfl) rfl rfl ?_
      refine sw_iconst (pc' := 36) (v := -1) cx dX9_kind_35 iconst_m1 rfl ?_
      refine sw_istore (pc' := 38) (i := 5) (lv' := [(5, .int (-1 : Int32)), (4, .int (0 : Int32)), (3, .int r3.1), (0, .ref (g 0)), (1, .int a0), (2, .int a1)]) cx dX9_kind_36 (Nat.le_of_ble_eq_true rfl) rfl rfl ?_
      refine sw_iconst (pc' := 39) (v := 0) cx dX9_kind_38 iconst_0 rfl ?_
      refine sw_istore (pc' := 41) (i := 6) (lv' := [(6, .int (0 : Int32)), (5, .int (-1 : Int32)), (4, .int (0 : Int32)), (3, .int r3.1), (0, .ref (g 0)), (1, .int a0), (2, .int a1)]) cx dX9_kind_39 (Nat.le_of_ble_eq_true rfl) rfl rfl ?_
      exact sw_lv [4, 5, 6, 2, 1, 0] rfl (B41 1000 tr r3.2 a0 a1 (0 : Int32) (-1 : Int32) (0 : Int32) hf)
    · replace hf := it_n c4 hf
      refine sw_iload_n (pc' := 31) (i := 3) cx dX9_kind_30 rfl 0 rfl rfl ?_
      obtain rfl := Option.some.inj hf
      exact sw_iret cx hr hQ dX9_kind_31
  · replace hf := it_p c2 hf
    refine sw_aload_n (pc' := 12) (i := 0) cx dX9_kind_11 rfl 0 rfl rfl ?_
    refine sw_iconst (pc' := 13) (v := 0) cx dX9_kind_12 iconst_0 rfl ?_
    obtain ⟨r5, hr5, hf⟩ := bd_s hf
    refine sw_callVw (pc' := 16) (As := [.int (0 : Int32)]) (rest := []) (w' := (sx_W g m0 m1 m2 ka sa sn cI cJ cK cS mu tr ke kp tby tlen ttok tsta tbeh tnum ttak sh r5.2)) cx (k_X9_found l D g m0 m1 m2 ka sa sn cI cJ cK cS mu tr ke kp tby tlen ttok tsta tbeh tnum ttak sh fi (0 : Int32) r5 hr5) pk_yX9_found ml_RX9_68 ⟨rfl, rfl⟩ ⟨(Nat.le_of_ble_eq_true rfl), (Nat.le_of_ble_eq_true rfl)⟩ ⟨(Nat.le_of_ble_eq_true rfl), (Nat.le_of_ble_eq_true rfl)⟩ 0 rfl rfl rfl rfl (Nat.le_of_ble_eq_true rfl) rfl dX9_kind_13 rfl ?_
    obtain rfl := Option.some.inj hf
    exact sw_iret cx hr hQ dX9_kind_16
abbrev rm_X9_mend : Room := ({ frames := 4, cells := 0, slots := 0, locals := 85 } : Room)
set_option maxRecDepth 100000 in
set_option maxHeartbeats 4000000 in
theorem k_X9_mend (l : Launch) (D : sf_D) (g m0 m1 m2 ka sa sn : Nat → Nat) (cI cJ cK cS : ClassId) (mu : MtS) (tr : MtS) (ke : MtS) (kp : Int32) (tby : Nat → Int32) (tlen : Int32) (ttok : Int32) (tsta : Int32) (tbeh : Int32) (tnum : Int32) (ttak : Int32) (sh : Nat → ShS) (fi : Nat → Int32)  (res : Int32 × MtS × (Nat → Int32)) (hf : f_X9_mend mu tr fi = some res) : sf_Ct l yX9_mend cX9_mend 2 (some .int) rm_X9_mend D (sf_ty cI cJ cK cS) [.ref (g 0)] (sx_W g m0 m1 m2 ka sa sn cI cJ cK cS mu tr ke kp tby tlen ttok tsta tbeh tnum ttak sh fi) (some (.int res.1)) (sx_W g m0 m1 m2 ka sa sn cI cJ cK cS mu res.2.1 ke kp tby tlen ttok tsta tbeh tnum ttak sh res.2.2) := by
  refine sf_met (lv := [(0, .ref (g 0))]) (by decide) (Nat.le_of_ble_eq_true rfl) rfl ?_
  intro p e s m args below meth c A Q cx hr hQ
  have cx : sf_Cx p m meth c cX9_mend 2 s args RX9 D (sf_ty cI cJ cK cS) A := cx
  have B36 : ∀ (tr : MtS) (fi : Nat → Int32), f_X9_mend_b36 mu tr fi = some res → sf_W p l e rm_X9_mend s m args below meth c 0 0 Q 2 D A (sx_W g m0 m1 m2 ka sa sn cI cJ cK cS mu tr ke kp tby tlen ttok tsta tbeh tnum ttak sh fi) [(0, .ref (g 0))] 36 [] := by
    intro tr fi hf
    unfold f_X9_mend_b36 at hf
    refine sw_aload_n (pc' := 37) (i := 0) cx dX9_mend_36 rfl 0 rfl rfl ?_
    refine sw_iconst (pc' := 38) (v := 3) cx dX9_mend_37 iconst_3 rfl ?_
    obtain ⟨r12, hr12, hf⟩ := bd_s hf
    refine sw_callVw (pc' := 41) (As := [.int (3 : Int32)]) (rest := []) (w' := (sx_W g m0 m1 m2 ka sa sn cI cJ cK cS mu tr ke kp tby tlen ttok tsta tbeh tnum ttak sh r12.2)) cx (k_X9_found l D g m0 m1 m2 ka sa sn cI cJ cK cS mu tr ke kp tby tlen ttok tsta tbeh tnum ttak sh fi (3 : Int32) r12 hr12) pk_yX9_found ml_RX9_68 ⟨rfl, rfl⟩ ⟨(Nat.le_of_ble_eq_true rfl), (Nat.le_of_ble_eq_true rfl)⟩ ⟨(Nat.le_of_ble_eq_true rfl), (Nat.le_of_ble_eq_true rfl)⟩ 0 rfl rfl rfl rfl (Nat.le_of_ble_eq_true rfl) rfl dX9_mend_38 rfl ?_
    obtain rfl := Option.some.inj hf
    exact sw_iret cx hr hQ dX9_mend_41
  unfold f_X9_mend at hf
  refine sw_aload_n (pc' := 1) (i := 0) cx dX9_mend_0 rfl 0 rfl rfl ?_
  refine sw_get (pc' := 4) cx in_X9 0 rfl rfl 0 (Nat.le_of_ble_eq_true rfl) fl_RX9_32 rfl dX9_mend_1 rfl ?_
  obtain ⟨r1, hr1, hf⟩ := bd_s hf
  refine sw_callV (pc' := 7) (As := []) (rest := []) cx (k_X4_climb l D m0 (g 5) ka cI cJ cK cS mu  r1 hr1) pk_yX4_climb ml_RX9_160 ⟨rfl, rfl⟩ ⟨(Nat.le_of_ble_eq_true rfl), (Nat.le_of_ble_eq_true rfl)⟩ ⟨(Nat.le_of_ble_eq_true rfl), (Nat.le_of_ble_eq_true rfl)⟩ [1, 2, 3, 4, 5, 6, 7, 8, 9, 10, 31, 32, 33, 34, 35, 36, 37] sx_C_mu sx_n_mu (mt_fst _ _ _ _ _ _ _) (wn := (sx_W g m0 m1 m2 ka sa sn cI cJ cK cS mu tr ke kp tby tlen ttok tsta tbeh tnum ttak sh fi)) sx_w_mu 0 rfl rfl rfl rfl (Nat.le_of_ble_eq_true rfl) rfl dX9_mend_4 rfl ?_
  refine sw_istore_n (pc' := 8) (i := 1) (lv' := [(1, .int r1), (0, .ref (g 0))]) cx dX9_mend_7 rfl (Nat.le_of_ble_eq_true rfl) rfl rfl ?_
  refine sw_aload_n (pc' := 9) (i := 0) cx dX9_mend_8 rfl 1 rfl rfl ?_
  refine sw_get (pc' := 12) cx in_X9 0 rfl rfl 0 (Nat.le_of_ble_eq_true rfl) fl_RX9_32 rfl dX9_mend_9 rfl ?_
  refine sw_getN (pc' := 15) cx in_X4 1 rfl rfl 10 (Nat.le_of_ble_eq_true rfl) fn_RX9_93 rfl dX9_mend_12 rfl ?_
  refine sw_if_eq (pc' := 18) (tgt := 36) cx dX9_mend_15 (by decide) rfl (fun c2 => ?_) (fun c2 => ?_)
  · replace hf := it_p c2 hf
    exact sw_lv [1] rfl (B36 tr fi hf)
  · replace hf := it_n c2 hf
    refine sw_iload_n (pc' := 19) (i := 1) cx dX9_mend_18 rfl 0 rfl rfl ?_
    obtain ⟨r3, hr3, hf⟩ := bd_s hf
    refine sw_callS (pc' := 22) (As := [.int r1]) (rest := []) cx (k_X9_isPlace l D cI cJ cK cS r1 r3 hr3) pk_yX9_isPlace ml_RX9_60 ⟨rfl, rfl⟩ ⟨(Nat.le_of_ble_eq_true rfl), (Nat.le_of_ble_eq_true rfl)⟩ ⟨(Nat.le_of_ble_eq_true rfl), (Nat.le_of_ble_eq_true rfl)⟩ [] rfl rfl rfl (wn := (sx_W g m0 m1 m2 ka sa sn cI cJ cK cS mu tr ke kp tby tlen ttok tsta tbeh tnum ttak sh fi)) rfl rfl (Nat.le_of_ble_eq_true rfl) rfl dX9_mend_19 rfl ?_
    refine sw_if_eq (pc' := 25) (tgt := 36) cx dX9_mend_22 (by decide) rfl (fun c4 => ?_) (fun c4 => ?_)
    · replace hf := it_p c4 hf
      exact sw_lv [1] rfl (B36 tr fi hf)
    · replace hf := it_n c4 hf
      refine sw_aload_n (pc' := 26) (i := 0) cx dX9_mend_25 rfl 1 rfl rfl ?_
      refine sw_get (pc' := 29) cx in_X9 0 rfl rfl 0 (Nat.le_of_ble_eq_true rfl) fl_RX9_32 rfl dX9_mend_26 rfl ?_
      refine sw_iload_n (pc' := 30) (i := 1) cx dX9_mend_29 rfl 0 rfl rfl ?_
      obtain ⟨r5, hr5, hf⟩ := bd_s hf
      refine sw_callV (pc' := 33) (As := [.int r1]) (rest := []) cx (k_X4_isWhole l D m0 (g 5) ka cI cJ cK cS mu r1 r5 hr5) pk_yX4_isWhole ml_RX9_136 ⟨rfl, rfl⟩ ⟨(Nat.le_of_ble_eq_true rfl), (Nat.le_of_ble_eq_true rfl)⟩ ⟨(Nat.le_of_ble_eq_true rfl), (Nat.le_of_ble_eq_true rfl)⟩ [1, 2, 3, 4, 5, 6, 7, 8, 9, 10, 31, 32, 33, 34, 35, 36, 37] sx_C_mu sx_n_mu (mt_fst _ _ _ _ _ _ _) (wn := (sx_W g m0 m1 m2 ka sa sn cI cJ cK cS mu tr ke kp tby tlen ttok tsta tbeh tnum ttak sh fi)) sx_w_mu 0 rfl rfl rfl rfl (Nat.le_of_ble_eq_true rfl) rfl dX9_mend_30 rfl ?_
      refine sw_if_eq (pc' := 36) (tgt := 42) cx dX9_mend_33 (by decide) rfl (fun c6 => ?_) (fun c6 => ?_)
      · replace hf := it_p c6 hf
        refine sw_aload_n (pc' := 43) (i := 0) cx dX9_mend_42 rfl 1 rfl rfl ?_
        obtain ⟨r7, hr7, hf⟩ := bd_s hf
        refine sw_callVw (pc' := 46) (As := []) (rest := []) (w' := (sx_W g m0 m1 m2 ka sa sn cI cJ cK cS mu r7 ke kp tby tlen ttok tsta tbeh tnum ttak sh fi)) cx (k_X9_startTrial l D g m0 m1 m2 ka sa sn cI cJ cK cS mu tr ke kp tby tlen ttok tsta tbeh tnum ttak sh fi  r7 hr7) pk_yX9_startTrial ml_RX9_190 ⟨rfl, rfl⟩ ⟨(Nat.le_of_ble_eq_true rfl), (Nat.le_of_ble_eq_true rfl)⟩ ⟨(Nat.le_of_ble_eq_true rfl), (Nat.le_of_ble_eq_true rfl)⟩ 0 rfl rfl rfl rfl (Nat.le_of_ble_eq_true rfl) rfl dX9_mend_43 rfl ?_
        refine sw_aload_n (pc' := 47) (i := 0) cx dX9_mend_46 rfl 1 rfl rfl ?_
        refine sw_get (pc' := 50) cx in_X9 0 rfl rfl 1 (Nat.le_of_ble_eq_true rfl) fl_RX9_36 rfl dX9_mend_47 rfl ?_
        refine sw_iload_n (pc' := 51) (i := 1) cx dX9_mend_50 rfl 0 rfl rfl ?_
        refine sw_bipush (pc' := 53) (v := 10) cx dX9_mend_51 bipush_10 rfl ?_
        refine sw_iconst (pc' := 54) (v := 0) cx dX9_mend_53 iconst_0 rfl ?_
        obtain ⟨r8, hr8, hf⟩ := bd_s hf
        refine sw_callV (pc' := 57) (As := [.int r1, .int (10 : Int32), .int (0 : Int32)]) (rest := []) cx (k_X4_cut l D m1 (g 5) ka cI cJ cK cS r7 r1 (10 : Int32) (0 : Int32) r8 hr8) pk_yX4_cut ml_RX9_152 ⟨rfl, rfl⟩ ⟨(Nat.le_of_ble_eq_true rfl), (Nat.le_of_ble_eq_true rfl)⟩ ⟨(Nat.le_of_ble_eq_true rfl), (Nat.le_of_ble_eq_true rfl)⟩ [11, 12, 13, 14, 15, 16, 17, 18, 19, 20, 31, 32, 33, 34, 35, 36, 37] sx_C_tr sx_n_tr (mt_fst _ _ _ _ _ _ _) (wn := (sx_W g m0 m1 m2 ka sa sn cI cJ cK cS mu r8 ke kp tby tlen ttok tsta tbeh tnum ttak sh fi)) sx_w_tr 0 rfl rfl rfl rfl (Nat.le_of_ble_eq_true rfl) rfl dX9_mend_54 rfl ?_
        refine sw_aload_n (pc' := 58) (i := 0) cx dX9_mend_57 rfl 1 rfl rfl ?_
        refine sw_get (pc' := 61) cx in_X9 0 rfl rfl 1 (Nat.le_of_ble_eq_true rfl) fl_RX9_36 rfl dX9_mend_58 rfl ?_
        obtain ⟨r9, hr9, hf⟩ := bd_s hf
        refine sw_callV (pc' := 64) (As := []) (rest := []) cx (k_X4_climb l D m1 (g 5) ka cI cJ cK cS r8  r9 hr9) pk_yX4_climb ml_RX9_160 ⟨rfl, rfl⟩ ⟨(Nat.le_of_ble_eq_true rfl), (Nat.le_of_ble_eq_true rfl)⟩ ⟨(Nat.le_of_ble_eq_true rfl), (Nat.le_of_ble_eq_true rfl)⟩ [11, 12, 13, 14, 15, 16, 17, 18, 19, 20, 31, 32, 33, 34, 35, 36, 37] sx_C_tr sx_n_tr (mt_fst _ _ _ _ _ _ _) (wn := (sx_W g m0 m1 m2 ka sa sn cI cJ cK cS mu r8 ke kp tby tlen ttok tsta tbeh tnum ttak sh fi)) sx_w_tr 0 rfl rfl rfl rfl (Nat.le_of_ble_eq_true rfl) rfl dX9_mend_61 rfl ?_
        refine sw_iload_n (pc' := 65) (i := 1) cx dX9_mend_64 rfl 0 rfl rfl ?_
        refine sw_icmp_le (pc' := 68) (tgt := 72) cx dX9_mend_65 (by decide) rfl (fun c10 => ?_) (fun c10 => ?_)
        · replace hf := it_p c10 hf
          refine sw_aload_n (pc' := 73) (i := 0) cx dX9_mend_72 rfl 1 rfl rfl ?_
          refine sw_iconst (pc' := 74) (v := 3) cx dX9_mend_73 iconst_3 rfl ?_
          obtain ⟨r11, hr11, hf⟩ := bd_s hf
          refine sw_callVw (pc' := 77) (As := [.int (3 : Int32)]) (rest := []) (w' := (sx_W g m0 m1 m2 ka sa sn cI cJ cK cS mu r8 ke kp tby tlen ttok tsta tbeh tnum ttak sh r11.2)) cx (k_X9_found l D g m0 m1 m2 ka sa sn cI cJ cK cS mu r8 ke kp tby tlen ttok tsta tbeh tnum ttak sh fi (3 : Int32) r11 hr11) pk_yX9_found ml_RX9_68 ⟨rfl, rfl⟩ ⟨(Nat.le_of_ble_eq_true rfl), (Nat.le_of_ble_eq_true rfl)⟩ ⟨(Nat.le_of_ble_eq_true rfl), (Nat.le_of_ble_eq_true rfl)⟩ 0 rfl rfl rfl rfl (Nat.le_of_ble_eq_true rfl) rfl dX9_mend_74 rfl ?_
          obtain rfl := Option.some.inj hf
          exact sw_iret cx hr hQ dX9_mend_77
        · replace hf := it_n c10 hf
          refine sw_iload_n (pc' := 69) (i := 1) cx dX9_mend_68 rfl 0 rfl rfl ?_
          refine sw_goto (tgt := 77) cx dX9_mend_69 (by decide) ?_
          obtain rfl := Option.some.inj hf
          exact sw_iret cx hr hQ dX9_mend_77
      · replace hf := it_n c6 hf
        exact sw_lv [1] rfl (B36 tr fi hf)
abbrev rm_X9_needed : Room := ({ frames := 6, cells := 0, slots := 0, locals := 132 } : Room)
set_option maxRecDepth 100000 in
set_option maxHeartbeats 4000000 in
theorem k_X9_needed (l : Launch) (D : sf_D) (g m0 m1 m2 ka sa sn : Nat → Nat) (cI cJ cK cS : ClassId) (mu : MtS) (tr : MtS) (ke : MtS) (kp : Int32) (tby : Nat → Int32) (tlen : Int32) (ttok : Int32) (tsta : Int32) (tbeh : Int32) (tnum : Int32) (ttak : Int32) (sh : Nat → ShS) (fi : Nat → Int32) (a0 : Int32) (res : Int32 × MtS × (Nat → Int32)) (hf : f_X9_needed mu tr fi a0 = some res) : sf_Ct l yX9_needed cX9_needed 7 (some .int) rm_X9_needed D (sf_ty cI cJ cK cS) [.ref (g 0), .int a0] (sx_W g m0 m1 m2 ka sa sn cI cJ cK cS mu tr ke kp tby tlen ttok tsta tbeh tnum ttak sh fi) (some (.int res.1)) (sx_W g m0 m1 m2 ka sa sn cI cJ cK cS mu res.2.1 ke kp tby tlen ttok tsta tbeh tnum ttak sh res.2.2) := by
  refine sf_met (lv := [(0, .ref (g 0)), (1, .int a0)]) (by decide) (Nat.le_of_ble_eq_true rfl) rfl ?_
  intro p e s m args below meth c A Q cx hr hQ
  have cx : sf_Cx p m meth c cX9_needed 7 s args RX9 D (sf_ty cI cJ cK cS) A := cx
  have B98 : ∀ (kk : MtS → (Nat → Int32) → Int32 → Int32 → Int32 → Int32 → Option (Int32 × MtS × (Nat → Int32))), (∀ (tr : MtS) (fi : Nat → Int32) (x1 : Int32) (x3 : Int32) (x4 : Int32) (x5 : Int32), kk tr fi x1 x3 x4 x5 = some res → sf_W p l e rm_X9_needed s m args below meth c 0 0 Q 7 D A (sx_W g m0 m1 m2 ka sa sn cI cJ cK cS mu tr ke kp tby tlen ttok tsta tbeh tnum ttak sh fi) [(0, .ref (g 0)), (1, .int x1), (3, .int x3), (4, .int x4), (5, .int x5)] 41 []) → ∀ (tr : MtS) (fi : Nat → Int32) (x1 : Int32) (x3 : Int32) (x4 : Int32) (x5 : Int32), f_X9_needed_b98 mu kk tr fi x1 x3 x4 x5 = some res → sf_W p l e rm_X9_needed s m args below meth c 0 0 Q 7 D A (sx_W g m0 m1 m2 ka sa sn cI cJ cK cS mu tr ke kp tby tlen ttok tsta tbeh tnum ttak sh fi) [(0, .ref (g 0)), (1, .int x1), (3, .int x3), (4, .int x4), (5, .int x5)] 98 [] := by
    intro kk hkk tr fi x1 x3 x4 x5 hf
    unfold f_X9_needed_b98 at hf
    refine sw_iinc (pc' := 101) (v := (x5 + (1 : Int32))) (lv' := [(5, .int (x5 + (1 : Int32))), (0, .ref (g 0)), (1, .int x1), (3, .int x3), (4, .int x4)]) cx dX9_needed_98 4 rfl rfl (Nat.le_of_ble_eq_true rfl) rfl rfl ?_
    refine sw_goto (tgt := 41) cx dX9_needed_101 (by decide) ?_
    exact sw_lv [1, 2, 3, 4, 0] rfl (hkk tr fi x1 x3 x4 (x5 + (1 : Int32)) hf)
  have B41 : ∀ (n : Nat), ∀ (tr : MtS) (fi : Nat → Int32) (x1 : Int32) (x3 : Int32) (x4 : Int32) (x5 : Int32), f_X9_needed_b41 mu n tr fi x1 x3 x4 x5 = some res → sf_W p l e rm_X9_needed s m args below meth c 0 0 Q 7 D A (sx_W g m0 m1 m2 ka sa sn cI cJ cK cS mu tr ke kp tby tlen ttok tsta tbeh tnum ttak sh fi) [(0, .ref (g 0)), (1, .int x1), (3, .int x3), (4, .int x4), (5, .int x5)] 41 [] := by
    intro n
    induction n with
    | zero => intro tr fi x1 x3 x4 x5 hf; rw [f_X9_needed_b41] at hf; cases hf
    | succ n ih =>
      intro tr fi x1 x3 x4 x5 hf
      rw [f_X9_needed_b41] at hf
      refine sw_iload (pc' := 43) (i := 5) cx dX9_needed_41 4 rfl rfl ?_
      refine sw_aload_n (pc' := 44) (i := 0) cx dX9_needed_43 rfl 0 rfl rfl ?_
      refine sw_get (pc' := 47) cx in_X9 0 rfl rfl 0 (Nat.le_of_ble_eq_true rfl) fl_RX9_32 rfl dX9_needed_44 rfl ?_
      refine sw_getN (pc' := 50) cx in_X4 1 rfl rfl 10 (Nat.le_of_ble_eq_true rfl) fn_RX9_93 rfl dX9_needed_47 rfl ?_
      refine sw_icmp_ge (pc' := 53) (tgt := 104) cx dX9_needed_50 (by decide) rfl (fun c6 => ?_) (fun c6 => ?_)
      · replace hf := it_p c6 hf
        refine sw_iload (pc' := 106) (i := 4) cx dX9_needed_104 3 rfl rfl ?_
        refine sw_if_ge (pc' := 109) (tgt := 117) cx dX9_needed_106 (by decide) rfl (fun c7 => ?_) (fun c7 => ?_)
        · replace hf := it_p c7 hf
          refine sw_iload (pc' := 119) (i := 4) cx dX9_needed_117 3 rfl rfl ?_
          obtain rfl := Option.some.inj hf
          exact sw_iret cx hr hQ dX9_needed_119
        · replace hf := it_n c7 hf
          refine sw_aload_n (pc' := 110) (i := 0) cx dX9_needed_109 rfl 0 rfl rfl ?_
          refine sw_iconst (pc' := 111) (v := 3) cx dX9_needed_110 iconst_3 rfl ?_
          obtain ⟨r8, hr8, hf⟩ := bd_s hf
          refine sw_callVw (pc' := 114) (As := [.int (3 : Int32)]) (rest := []) (w' := (sx_W g m0 m1 m2 ka sa sn cI cJ cK cS mu tr ke kp tby tlen ttok tsta tbeh tnum ttak sh r8.2)) cx (k_X9_found l D g m0 m1 m2 ka sa sn cI cJ cK cS mu tr ke kp tby tlen ttok tsta tbeh tnum ttak sh fi (3 : Int32) r8 hr8) pk_yX9_found ml_RX9_68 ⟨rfl, rfl⟩ ⟨(Nat.le_of_ble_eq_true rfl), (Nat.le_of_ble_eq_true rfl)⟩ ⟨(Nat.le_of_ble_eq_true rfl), (Nat.le_of_ble_eq_true rfl)⟩ 0 rfl rfl rfl rfl (Nat.le_of_ble_eq_true rfl) rfl dX9_needed_111 rfl ?_
          refine sw_goto (tgt := 119) cx dX9_needed_114 (by decide) ?_
          obtain rfl := Option.some.inj hf
          exact sw_iret cx hr hQ dX9_needed_119
      · replace hf := it_n c6 hf
        refine sw_aload_n (pc' := 54) (i := 0) cx dX9_needed_53 rfl 0 rfl rfl ?_
        obtain ⟨r9, hr9, hf⟩ := bd_s hf
        refine sw_callVw (pc' := 57) (As := []) (rest := []) (w' := (sx_W g m0 m1 m2 ka sa sn cI cJ cK cS mu r9 ke kp tby tlen ttok tsta tbeh tnum ttak sh fi)) cx (k_X9_startTrial l D g m0 m1 m2 ka sa sn cI cJ cK cS mu tr ke kp tby tlen ttok tsta tbeh tnum ttak sh fi  r9 hr9) pk_yX9_startTrial ml_RX9_190 ⟨rfl, rfl⟩ ⟨(Nat.le_of_ble_eq_true rfl), (Nat.le_of_ble_eq_true rfl)⟩ ⟨(Nat.le_of_ble_eq_true rfl), (Nat.le_of_ble_eq_true rfl)⟩ 0 rfl rfl rfl rfl (Nat.le_of_ble_eq_true rfl) rfl dX9_needed_54 rfl ?_
        refine sw_aload_n (pc' := 58) (i := 0) cx dX9_needed_57 rfl 0 rfl rfl ?_
        refine sw_get (pc' := 61) cx in_X9 0 rfl rfl 1 (Nat.le_of_ble_eq_true rfl) fl_RX9_36 rfl dX9_needed_58 rfl ?_
        refine sw_getN (pc' := 64) cx in_X4 11 rfl rfl 12 (Nat.le_of_ble_eq_true rfl) fn_RX9_102 rfl dX9_needed_61 rfl ?_
        refine sw_iload (pc' := 66) (i := 5) cx dX9_needed_64 4 rfl rfl ?_
        refine sw_iconst (pc' := 67) (v := 0) cx dX9_needed_66 iconst_0 rfl ?_
        obtain ⟨h10, hf⟩ := gx_s hf
        refine sw_iast (pc' := 68) (ws' := (sx_W g m0 m1 m2 ka sa sn cI cJ cK cS mu (mt_mk (r9.1 0 0) (r9.1 0 1) (r9.1 0 2) (r9.1 0 3) (r9.1 0 4) (r9.1 1) (r9.1 2) (r9.1 3) (r9.1 4) (r9.1 5) (upd (r9.1 6) (x5).toNatClampNeg (0 : Int32)) (r9.1 7) (r9.1 8) (r9.1 9) r9.2) ke kp tby tlen ttok tsta tbeh tnum ttak sh fi)) cx 17 0 rfl rfl h10 dX9_needed_67 rfl rfl ?_
        refine sw_aload_n (pc' := 69) (i := 0) cx dX9_needed_68 rfl 0 rfl rfl ?_
        refine sw_get (pc' := 72) cx in_X9 0 rfl rfl 1 (Nat.le_of_ble_eq_true rfl) fl_RX9_36 rfl dX9_needed_69 rfl ?_
        refine sw_iload_n (pc' := 73) (i := 1) cx dX9_needed_72 rfl 1 rfl rfl ?_
        obtain ⟨r11, hr11, hf⟩ := bd_s hf
        refine sw_callV (pc' := 76) (As := [.int x1]) (rest := []) cx (k_X4_goYears l D m1 (g 5) ka cI cJ cK cS (mt_mk (r9.1 0 0) (r9.1 0 1) (r9.1 0 2) (r9.1 0 3) (r9.1 0 4) (r9.1 1) (r9.1 2) (r9.1 3) (r9.1 4) (r9.1 5) (upd (r9.1 6) (x5).toNatClampNeg (0 : Int32)) (r9.1 7) (r9.1 8) (r9.1 9) r9.2) x1 r11 hr11) pk_yX4_goYears ml_RX9_175 ⟨rfl, rfl⟩ ⟨(Nat.le_of_ble_eq_true rfl), (Nat.le_of_ble_eq_true rfl)⟩ ⟨(Nat.le_of_ble_eq_true rfl), (Nat.le_of_ble_eq_true rfl)⟩ [11, 12, 13, 14, 15, 16, 17, 18, 19, 20, 31, 32, 33, 34, 35, 36, 37] sx_C_tr sx_n_tr (mt_fst _ _ _ _ _ _ _) (wn := (sx_W g m0 m1 m2 ka sa sn cI cJ cK cS mu r11 ke kp tby tlen ttok tsta tbeh tnum ttak sh fi)) sx_w_tr 0 rfl rfl rfl rfl (Nat.le_of_ble_eq_true rfl) rfl dX9_needed_73 rfl ?_
        refine sw_aload_n (pc' := 77) (i := 0) cx dX9_needed_76 rfl 0 rfl rfl ?_
        refine sw_get (pc' := 80) cx in_X9 0 rfl rfl 1 (Nat.le_of_ble_eq_true rfl) fl_RX9_36 rfl dX9_needed_77 rfl ?_
        obtain ⟨r12, hr12, hf⟩ := bd_s hf
        refine sw_callV (pc' := 83) (As := []) (rest := []) cx (k_X4_climb l D m1 (g 5) ka cI cJ cK cS r11  r12 hr12) pk_yX4_climb ml_RX9_160 ⟨rfl, rfl⟩ ⟨(Nat.le_of_ble_eq_true rfl), (Nat.le_of_ble_eq_true rfl)⟩ ⟨(Nat.le_of_ble_eq_true rfl), (Nat.le_of_ble_eq_true rfl)⟩ [11, 12, 13, 14, 15, 16, 17, 18, 19, 20, 31, 32, 33, 34, 35, 36, 37] sx_C_tr sx_n_tr (mt_fst _ _ _ _ _ _ _) (wn := (sx_W g m0 m1 m2 ka sa sn cI cJ cK cS mu r11 ke kp tby tlen ttok tsta tbeh tnum ttak sh fi)) sx_w_tr 0 rfl rfl rfl rfl (Nat.le_of_ble_eq_true rfl) rfl dX9_needed_80 rfl ?_
        refine sw_istore (pc' := 85) (i := 6) (lv' := [(6, .int r12), (0, .ref (g 0)), (1, .int x1), (3, .int x3), (4, .int x4), (5, .int x5)]) cx dX9_needed_83 (Nat.le_of_ble_eq_true rfl) rfl rfl ?_
        refine sw_iload (pc' := 87) (i := 6) cx dX9_needed_85 0 rfl rfl ?_
        refine sw_iload_n (pc' := 88) (i := 3) cx dX9_needed_87 rfl 3 rfl rfl ?_
        refine sw_icmp_ge (pc' := 91) (tgt := 98) cx dX9_needed_88 (by decide) rfl (fun c13 => ?_) (fun c13 => ?_)
        · replace hf := it_p c13 hf
          exact sw_lv [1, 2, 3, 4, 5] rfl (B98 _ ih r11 fi x1 x3 x4 x5 hf)
        · replace hf := it_n c13 hf
          refine sw_iload (pc' := 93) (i := 6) cx dX9_needed_91 0 rfl rfl ?_
          refine sw_istore_n (pc' := 94) (i := 3) (lv' := [(3, .int r12), (6, .int r12), (0, .ref (g 0)), (1, .int x1), (4, .int x4), (5, .int x5)]) cx dX9_needed_93 rfl (Nat.le_of_ble_eq_true rfl) rfl rfl ?_
          refine sw_iload (pc' := 96) (i := 5) cx dX9_needed_94 5 rfl rfl ?_
          refine sw_istore (pc' := 98) (i := 4) (lv' := [(4, .int x5), (3, .int r12), (6, .int r12), (0, .ref (g 0)), (1, .int x1), (5, .int x5)]) cx dX9_needed_96 (Nat.le_of_ble_eq_true rfl) rfl rfl ?_
          exact sw_lv [3, 4, 1, 0, 5] rfl (B98 _ ih r11 fi x1 r12 x5 x5 hf)
  unfold f_X9_needed at hf
  refine sw_aload_n (pc' := 1) (i := 0) cx dX9_needed_0 rfl 0 rfl rfl ?_
  refine sw_iload_n (pc' := 2) (i := 1) cx dX9_needed_1 rfl 1 rfl rfl ?_
  refine sw_iconst (pc' := 3) (v := 1) cx dX9_needed_2 iconst_1 rfl ?_
  refine sw_bipush (pc' := 5) (v := 100) cx dX9_needed_3 bipush_100 rfl ?_
  obtain ⟨r1, hr1, hf⟩ := bd_s hf
  refine sw_callVw (pc' := 8) (As := [.int a0, .int (1 : Int32), .int (100 : Int32)]) (rest := []) (w' := (sx_W g m0 m1 m2 ka sa sn cI cJ cK cS mu tr ke kp tby tlen ttok tsta tbeh tnum ttak sh r1.2)) cx (k_X9_againstYears l D g m0 m1 m2 ka sa sn cI cJ cK cS mu tr ke kp tby tlen ttok tsta tbeh tnum ttak sh fi a0 (1 : Int32) (100 : Int32) r1 hr1) pk_yX9_againstYears ml_RX9_171 ⟨rfl, rfl⟩ ⟨(Nat.le_of_ble_eq_true rfl), (Nat.le_of_ble_eq_true rfl)⟩ ⟨(Nat.le_of_ble_eq_true rfl), (Nat.le_of_ble_eq_true rfl)⟩ 0 rfl rfl rfl rfl (Nat.le_of_ble_eq_true rfl) rfl dX9_needed_5 rfl ?_
  refine sw_istore_n (pc' := 9) (i := 2) (lv' := [(2, .int r1.1), (0, .ref (g 0)), (1, .int a0)]) cx dX9_needed_8 rfl (Nat.le_of_ble_eq_true rfl) rfl rfl ?_
  refine sw_iload_n (pc' := 10) (i := 2) cx dX9_needed_9 rfl 0 rfl rfl ?_
  refine sw_if_eq (pc' := 13) (tgt := 15) cx dX9_needed_10 (by decide) rfl (fun c2 => ?_) (fun c2 => ?_)
  · replace hf := it_p c2 hf
    refine sw_aload_n (pc' := 16) (i := 0) cx dX9_needed_15 rfl 1 rfl rfl ?_
    obtain ⟨r3, hr3, hf⟩ := bd_s hf
    refine sw_callVw (pc' := 19) (As := []) (rest := []) (w' := (sx_W g m0 m1 m2 ka sa sn cI cJ cK cS mu r3 ke kp tby tlen ttok tsta tbeh tnum ttak sh r1.2)) cx (k_X9_startTrial l D g m0 m1 m2 ka sa sn cI cJ cK cS mu tr ke kp tby tlen ttok tsta tbeh tnum ttak sh r1.2  r3 hr3) pk_yX9_startTrial ml_RX9_190 ⟨rfl, rfl⟩ ⟨(Nat.le_of_ble_eq_true rfl), (Nat.le_of_ble_eq_true rfl)⟩ ⟨(Nat.le_of_ble_eq_true rfl), (Nat.le_of_ble_eq_true rfl)⟩ 0 rfl rfl rfl rfl (Nat.le_of_ble_eq_true rfl) rfl dX9_needed_16 rfl ?_
    refine sw_aload_n (pc' := 20) (i := 0) cx dX9_needed_19 rfl 1 rfl rfl ?_
    refine sw_get (pc' := 23) cx in_X9 0 rfl rfl 1 (Nat.le_of_ble_eq_true rfl) fl_RX9_36 rfl dX9_needed_20 rfl ?_
    refine sw_iload_n (pc' := 24) (i := 1) cx dX9_needed_23 rfl 2 rfl rfl ?_
    obtain ⟨r4, hr4, hf⟩ := bd_s hf
    refine sw_callV (pc' := 27) (As := [.int a0]) (rest := []) cx (k_X4_goYears l D m1 (g 5) ka cI cJ cK cS r3 a0 r4 hr4) pk_yX4_goYears ml_RX9_175 ⟨rfl, rfl⟩ ⟨(Nat.le_of_ble_eq_true rfl), (Nat.le_of_ble_eq_true rfl)⟩ ⟨(Nat.le_of_ble_eq_true rfl), (Nat.le_of_ble_eq_true rfl)⟩ [11, 12, 13, 14, 15, 16, 17, 18, 19, 20, 31, 32, 33, 34, 35, 36, 37] sx_C_tr sx_n_tr (mt_fst _ _ _ _ _ _ _) (wn := (sx_W g m0 m1 m2 ka sa sn cI cJ cK cS mu r4 ke kp tby tlen ttok tsta tbeh tnum ttak sh r1.2)) sx_w_tr 0 rfl rfl rfl rfl (Nat.le_of_ble_eq_true rfl) rfl dX9_needed_24 rfl ?_
    refine sw_aload_n (pc' := 28) (i := 0) cx dX9_needed_27 rfl 1 rfl rfl ?_
    refine sw_get (pc' := 31) cx in_X9 0 rfl rfl 1 (Nat.le_of_ble_eq_true rfl) fl_RX9_36 rfl dX9_needed_28 rfl ?_
    obtain ⟨r5, hr5, hf⟩ := bd_s hf
    refine sw_callV (pc' := 34) (As := []) (rest := []) cx (k_X4_climb l D m1 (g 5) ka cI cJ cK cS r4  r5 hr5) pk_yX4_climb ml_RX9_160 ⟨rfl, rfl⟩ ⟨(Nat.le_of_ble_eq_true rfl), (Nat.le_of_ble_eq_true rfl)⟩ ⟨(Nat.le_of_ble_eq_true rfl), (Nat.le_of_ble_eq_true rfl)⟩ [11, 12, 13, 14, 15, 16, 17, 18, 19, 20, 31, 32, 33, 34, 35, 36, 37] sx_C_tr sx_n_tr (mt_fst _ _ _ _ _ _ _) (wn := (sx_W g m0 m1 m2 ka sa sn cI cJ cK cS mu r4 ke kp tby tlen ttok tsta tbeh tnum ttak sh r1.2)) sx_w_tr 0 rfl rfl rfl rfl (Nat.le_of_ble_eq_true rfl) rfl dX9_needed_31 rfl ?_
    refine sw_istore_n (pc' := 35) (i := 3) (lv' := [(3, .int r5), (2, .int r1.1), (0, .ref (g 0)), (1, .int a0)]) cx dX9_needed_34 rfl (Nat.le_of_ble_eq_true rfl) rfl rfl ?_
    refine sw_iconst (pc' := 36) (v := -1) cx dX9_needed_35 iconst_m1 rfl ?_
    refine sw_istore (pc' := 38) (i := 4) (lv' := [(4, .int (-1 : Int32)), (3, .int r5), (2, .int r1.1), (0, .ref (g 0)), (1, .int a0)]) cx dX9_needed_36 (Nat.le_of_ble_eq_true rfl) rfl rfl ?_
    refine sw_iconst (pc' := 39) (v := 0) cx dX9_needed_38 iconst_0 rfl ?_
    refine sw_istore (pc' := 41) (i := 5) (lv' := [(5, .int (0 : Int32)), (4, .int (-1 : Int32)), (3, .int r5), (2, .int r1.1), (0, .ref (g 0)), (1, .int a0)]) cx dX9_needed_39 (Nat.le_of_ble_eq_true rfl) rfl rfl ?_
    exact sw_lv [4, 5, 2, 1, 0] rfl (B41 1000 r4 r1.2 a0 r5 (-1 : Int32) (0 : Int32) hf)
  · replace hf := it_n c2 hf
    refine sw_iload_n (pc' := 14) (i := 2) cx dX9_needed_13 rfl 0 rfl rfl ?_
    obtain rfl := Option.some.inj hf
    exact sw_iret cx hr hQ dX9_needed_14
abbrev rm_X9_steepest : Room := ({ frames := 3, cells := 0, slots := 0, locals := 62 } : Room)
set_option maxRecDepth 100000 in
set_option maxHeartbeats 4000000 in
theorem k_X9_steepest (l : Launch) (D : sf_D) (g m0 m1 m2 ka sa sn : Nat → Nat) (cI cJ cK cS : ClassId) (mu : MtS) (tr : MtS) (ke : MtS) (kp : Int32) (tby : Nat → Int32) (tlen : Int32) (ttok : Int32) (tsta : Int32) (tbeh : Int32) (tnum : Int32) (ttak : Int32) (sh : Nat → ShS) (fi : Nat → Int32)  (res : Int32 × (Nat → Int32)) (hf : f_X9_steepest mu fi = some res) : sf_Ct l yX9_steepest cX9_steepest 5 (some .int) rm_X9_steepest D (sf_ty cI cJ cK cS) [.ref (g 0)] (sx_W g m0 m1 m2 ka sa sn cI cJ cK cS mu tr ke kp tby tlen ttok tsta tbeh tnum ttak sh fi) (some (.int res.1)) (sx_W g m0 m1 m2 ka sa sn cI cJ cK cS mu tr ke kp tby tlen ttok tsta tbeh tnum ttak sh res.2) := by
  refine sf_met (lv := [(0, .ref (g 0))]) (by decide) (Nat.le_of_ble_eq_true rfl) rfl ?_
  intro p e s m args below meth c A Q cx hr hQ
  have cx : sf_Cx p m meth c cX9_steepest 5 s args RX9 D (sf_ty cI cJ cK cS) A := cx
  have B64 : ∀ (kk : (Nat → Int32) → Int32 → Int32 → Int32 → Option (Int32 × (Nat → Int32))), (∀ (fi : Nat → Int32) (x1 : Int32) (x2 : Int32) (x3 : Int32), kk fi x1 x2 x3 = some res → sf_W p l e rm_X9_steepest s m args below meth c 0 0 Q 5 D A (sx_W g m0 m1 m2 ka sa sn cI cJ cK cS mu tr ke kp tby tlen ttok tsta tbeh tnum ttak sh fi) [(0, .ref (g 0)), (1, .int x1), (2, .int x2), (3, .int x3)] 6 []) → ∀ (fi : Nat → Int32) (x1 : Int32) (x2 : Int32) (x3 : Int32), f_X9_steepest_b64 mu kk fi x1 x2 x3 = some res → sf_W p l e rm_X9_steepest s m args below meth c 0 0 Q 5 D A (sx_W g m0 m1 m2 ka sa sn cI cJ cK cS mu tr ke kp tby tlen ttok tsta tbeh tnum ttak sh fi) [(0, .ref (g 0)), (1, .int x1), (2, .int x2), (3, .int x3)] 64 [] := by
    intro kk hkk fi x1 x2 x3 hf
    unfold f_X9_steepest_b64 at hf
    refine sw_iinc (pc' := 67) (v := (x3 + (1 : Int32))) (lv' := [(3, .int (x3 + (1 : Int32))), (0, .ref (g 0)), (1, .int x1), (2, .int x2)]) cx dX9_steepest_64 3 rfl rfl (Nat.le_of_ble_eq_true rfl) rfl rfl ?_
    refine sw_goto (tgt := 6) cx dX9_steepest_67 (by decide) ?_
    exact sw_lv [1, 2, 3, 0] rfl (hkk fi x1 x2 (x3 + (1 : Int32)) hf)
  have B59 : ∀ (kk : (Nat → Int32) → Int32 → Int32 → Int32 → Option (Int32 × (Nat → Int32))), (∀ (fi : Nat → Int32) (x1 : Int32) (x2 : Int32) (x3 : Int32), kk fi x1 x2 x3 = some res → sf_W p l e rm_X9_steepest s m args below meth c 0 0 Q 5 D A (sx_W g m0 m1 m2 ka sa sn cI cJ cK cS mu tr ke kp tby tlen ttok tsta tbeh tnum ttak sh fi) [(0, .ref (g 0)), (1, .int x1), (2, .int x2), (3, .int x3)] 6 []) → ∀ (fi : Nat → Int32) (x3 : Int32) (x4 : Int32), f_X9_steepest_b59 mu kk fi x3 x4 = some res → sf_W p l e rm_X9_steepest s m args below meth c 0 0 Q 5 D A (sx_W g m0 m1 m2 ka sa sn cI cJ cK cS mu tr ke kp tby tlen ttok tsta tbeh tnum ttak sh fi) [(0, .ref (g 0)), (3, .int x3), (4, .int x4)] 59 [] := by
    intro kk hkk fi x3 x4 hf
    unfold f_X9_steepest_b59 at hf
    refine sw_iload (pc' := 61) (i := 4) cx dX9_steepest_59 2 rfl rfl ?_
    refine sw_istore_n (pc' := 62) (i := 2) (lv' := [(2, .int x4), (0, .ref (g 0)), (3, .int x3), (4, .int x4)]) cx dX9_steepest_61 rfl (Nat.le_of_ble_eq_true rfl) rfl rfl ?_
    refine sw_iload_n (pc' := 63) (i := 3) cx dX9_steepest_62 rfl 2 rfl rfl ?_
    refine sw_istore_n (pc' := 64) (i := 1) (lv' := [(1, .int x3), (2, .int x4), (0, .ref (g 0)), (3, .int x3), (4, .int x4)]) cx dX9_steepest_63 rfl (Nat.le_of_ble_eq_true rfl) rfl rfl ?_
    exact sw_lv [2, 0, 1, 3] rfl (B64 kk hkk fi x3 x4 x3 hf)
  have B6 : ∀ (n : Nat), ∀ (fi : Nat → Int32) (x1 : Int32) (x2 : Int32) (x3 : Int32), f_X9_steepest_b6 mu n fi x1 x2 x3 = some res → sf_W p l e rm_X9_steepest s m args below meth c 0 0 Q 5 D A (sx_W g m0 m1 m2 ka sa sn cI cJ cK cS mu tr ke kp tby tlen ttok tsta tbeh tnum ttak sh fi) [(0, .ref (g 0)), (1, .int x1), (2, .int x2), (3, .int x3)] 6 [] := by
    intro n
    induction n with
    | zero => intro fi x1 x2 x3 hf; rw [f_X9_steepest_b6] at hf; cases hf
    | succ n ih =>
      intro fi x1 x2 x3 hf
      rw [f_X9_steepest_b6] at hf
      refine sw_iload_n (pc' := 7) (i := 3) cx dX9_steepest_6 rfl 3 rfl rfl ?_
      refine sw_bipush (pc' := 9) (v := 40) cx dX9_steepest_7 bipush_40 rfl ?_
      refine sw_icmp_ge (pc' := 12) (tgt := 70) cx dX9_steepest_9 (by decide) rfl (fun c1 => ?_) (fun c1 => ?_)
      · replace hf := it_p c1 hf
        refine sw_iload_n (pc' := 71) (i := 1) cx dX9_steepest_70 rfl 1 rfl rfl ?_
        refine sw_if_ne (pc' := 74) (tgt := 82) cx dX9_steepest_71 (by decide) rfl (fun c2 => ?_) (fun c2 => ?_)
        · replace hf := it_n c2 hf
          refine sw_iload_n (pc' := 83) (i := 1) cx dX9_steepest_82 rfl 1 rfl rfl ?_
          obtain rfl := Option.some.inj hf
          exact sw_iret cx hr hQ dX9_steepest_83
        · replace hf := it_p c2 hf
          refine sw_aload_n (pc' := 75) (i := 0) cx dX9_steepest_74 rfl 0 rfl rfl ?_
          refine sw_iconst (pc' := 76) (v := 3) cx dX9_steepest_75 iconst_3 rfl ?_
          obtain ⟨r3, hr3, hf⟩ := bd_s hf
          refine sw_callVw (pc' := 79) (As := [.int (3 : Int32)]) (rest := []) (w' := (sx_W g m0 m1 m2 ka sa sn cI cJ cK cS mu tr ke kp tby tlen ttok tsta tbeh tnum ttak sh r3.2)) cx (k_X9_found l D g m0 m1 m2 ka sa sn cI cJ cK cS mu tr ke kp tby tlen ttok tsta tbeh tnum ttak sh fi (3 : Int32) r3 hr3) pk_yX9_found ml_RX9_68 ⟨rfl, rfl⟩ ⟨(Nat.le_of_ble_eq_true rfl), (Nat.le_of_ble_eq_true rfl)⟩ ⟨(Nat.le_of_ble_eq_true rfl), (Nat.le_of_ble_eq_true rfl)⟩ 0 rfl rfl rfl rfl (Nat.le_of_ble_eq_true rfl) rfl dX9_steepest_76 rfl ?_
          refine sw_goto (tgt := 83) cx dX9_steepest_79 (by decide) ?_
          obtain rfl := Option.some.inj hf
          exact sw_iret cx hr hQ dX9_steepest_83
      · replace hf := it_n c1 hf
        refine sw_aload_n (pc' := 13) (i := 0) cx dX9_steepest_12 rfl 0 rfl rfl ?_
        refine sw_get (pc' := 16) cx in_X9 0 rfl rfl 0 (Nat.le_of_ble_eq_true rfl) fl_RX9_32 rfl dX9_steepest_13 rfl ?_
        refine sw_iload_n (pc' := 17) (i := 3) cx dX9_steepest_16 rfl 3 rfl rfl ?_
        obtain ⟨r4, hr4, hf⟩ := bd_s hf
        refine sw_callV (pc' := 20) (As := [.int x3]) (rest := []) cx (k_X4_isPair l D m0 (g 5) ka cI cJ cK cS mu x3 r4 hr4) pk_yX4_isPair ml_RX9_164 ⟨rfl, rfl⟩ ⟨(Nat.le_of_ble_eq_true rfl), (Nat.le_of_ble_eq_true rfl)⟩ ⟨(Nat.le_of_ble_eq_true rfl), (Nat.le_of_ble_eq_true rfl)⟩ [1, 2, 3, 4, 5, 6, 7, 8, 9, 10, 31, 32, 33, 34, 35, 36, 37] sx_C_mu sx_n_mu (mt_fst _ _ _ _ _ _ _) (wn := (sx_W g m0 m1 m2 ka sa sn cI cJ cK cS mu tr ke kp tby tlen ttok tsta tbeh tnum ttak sh fi)) sx_w_mu 0 rfl rfl rfl rfl (Nat.le_of_ble_eq_true rfl) rfl dX9_steepest_17 rfl ?_
        refine sw_if_ne (pc' := 23) (tgt := 26) cx dX9_steepest_20 (by decide) rfl (fun c5 => ?_) (fun c5 => ?_)
        · replace hf := it_n c5 hf
          refine sw_aload_n (pc' := 27) (i := 0) cx dX9_steepest_26 rfl 0 rfl rfl ?_
          refine sw_get (pc' := 30) cx in_X9 0 rfl rfl 0 (Nat.le_of_ble_eq_true rfl) fl_RX9_32 rfl dX9_steepest_27 rfl ?_
          refine sw_getN (pc' := 33) cx in_X4 1 rfl rfl 2 (Nat.le_of_ble_eq_true rfl) fn_RX9_139 rfl dX9_steepest_30 rfl ?_
          refine sw_iload_n (pc' := 34) (i := 3) cx dX9_steepest_33 rfl 3 rfl rfl ?_
          obtain ⟨h6, hf⟩ := gx_s hf
          refine sw_iald (pc' := 35) cx 3 0 rfl rfl h6 dX9_steepest_34 rfl ?_
          refine sw_aload_n (pc' := 36) (i := 0) cx dX9_steepest_35 rfl 0 rfl rfl ?_
          refine sw_get (pc' := 39) cx in_X9 0 rfl rfl 0 (Nat.le_of_ble_eq_true rfl) fl_RX9_32 rfl dX9_steepest_36 rfl ?_
          refine sw_getN (pc' := 42) cx in_X4 1 rfl rfl 2 (Nat.le_of_ble_eq_true rfl) fn_RX9_139 rfl dX9_steepest_39 rfl ?_
          refine sw_iload_n (pc' := 43) (i := 3) cx dX9_steepest_42 rfl 3 rfl rfl ?_
          refine sw_iconst (pc' := 44) (v := 1) cx dX9_steepest_43 iconst_1 rfl ?_
          refine sw_isub (pc' := 45) cx dX9_steepest_44 rfl ?_
          obtain ⟨h7, hf⟩ := gx_s hf
          refine sw_iald (pc' := 46) cx 3 0 rfl rfl h7 dX9_steepest_45 rfl ?_
          refine sw_isub (pc' := 47) cx dX9_steepest_46 rfl ?_
          refine sw_istore (pc' := 49) (i := 4) (lv' := [(4, .int (((mu.1 2) (x3).toNatClampNeg) - ((mu.1 2) ((x3 - (1 : Int32))).toNatClampNeg))), (0, .ref (g 0)), (1, .int x1), (2, .int x2), (3, .int x3)]) cx dX9_steepest_47 (Nat.le_of_ble_eq_true rfl) rfl rfl ?_
          refine sw_iload_n (pc' := 50) (i := 1) cx dX9_steepest_49 rfl 2 rfl rfl ?_
          refine sw_if_eq (pc' := 53) (tgt := 59) cx dX9_steepest_50 (by decide) rfl (fun c8 => ?_) (fun c8 => ?_)
          · replace hf := it_p c8 hf
            exact sw_lv [1, 4, 0] rfl (B59 _ ih fi x3 (((mu.1 2) (x3).toNatClampNeg) - ((mu.1 2) ((x3 - (1 : Int32))).toNatClampNeg)) hf)
          · replace hf := it_n c8 hf
            refine sw_iload (pc' := 55) (i := 4) cx dX9_steepest_53 0 rfl rfl ?_
            refine sw_iload_n (pc' := 56) (i := 2) cx dX9_steepest_55 rfl 3 rfl rfl ?_
            refine sw_icmp_le (pc' := 59) (tgt := 64) cx dX9_steepest_56 (by decide) rfl (fun c9 => ?_) (fun c9 => ?_)
            · replace hf := it_p c9 hf
              exact sw_lv [1, 2, 3, 4] rfl (B64 _ ih fi x1 x2 x3 hf)
            · replace hf := it_n c9 hf
              exact sw_lv [1, 4, 0] rfl (B59 _ ih fi x3 (((mu.1 2) (x3).toNatClampNeg) - ((mu.1 2) ((x3 - (1 : Int32))).toNatClampNeg)) hf)
        · replace hf := it_p c5 hf
          refine sw_goto (tgt := 64) cx dX9_steepest_23 (by decide) ?_
          exact sw_lv [0, 1, 2, 3] rfl (B64 _ ih fi x1 x2 x3 hf)
  unfold f_X9_steepest at hf
  refine sw_iconst (pc' := 1) (v := 0) cx dX9_steepest_0 iconst_0 rfl ?_
  refine sw_istore_n (pc' := 2) (i := 1) (lv' := [(1, .int (0 : Int32)), (0, .ref (g 0))]) cx dX9_steepest_1 rfl (Nat.le_of_ble_eq_true rfl) rfl rfl ?_
  refine sw_iconst (pc' := 3) (v := 0) cx dX9_steepest_2 iconst_0 rfl ?_
  refine sw_istore_n (pc' := 4) (i := 2) (lv' := [(2, .int (0 : Int32)), (1, .int (0 : Int32)), (0, .ref (g 0))]) cx dX9_steepest_3 rfl (Nat.le_of_ble_eq_true rfl) rfl rfl ?_
  refine sw_iconst (pc' := 5) (v := 1) cx dX9_steepest_4 iconst_1 rfl ?_
  refine sw_istore_n (pc' := 6) (i := 3) (lv' := [(3, .int (1 : Int32)), (2, .int (0 : Int32)), (1, .int (0 : Int32)), (0, .ref (g 0))]) cx dX9_steepest_5 rfl (Nat.le_of_ble_eq_true rfl) rfl rfl ?_
  exact sw_lv [3, 2, 1, 0] rfl (B6 1000 fi (0 : Int32) (0 : Int32) (1 : Int32) hf)
abbrev rm_X9_whose : Room := ({ frames := 4, cells := 0, slots := 0, locals := 85 } : Room)
set_option maxRecDepth 100000 in
set_option maxHeartbeats 4000000 in
theorem k_X9_whose (l : Launch) (D : sf_D) (g m0 m1 m2 ka sa sn : Nat → Nat) (cI cJ cK cS : ClassId) (mu : MtS) (tr : MtS) (ke : MtS) (kp : Int32) (tby : Nat → Int32) (tlen : Int32) (ttok : Int32) (tsta : Int32) (tbeh : Int32) (tnum : Int32) (ttak : Int32) (sh : Nat → ShS) (fi : Nat → Int32) (a0 : Int32) (a1 : Int32) (res : Int32 × (Nat → Int32)) (hf : f_X9_whose mu fi a0 a1 = some res) : sf_Ct l yX9_whose cX9_whose 5 (some .int) rm_X9_whose D (sf_ty cI cJ cK cS) [.ref (g 0), .int a0, .int a1] (sx_W g m0 m1 m2 ka sa sn cI cJ cK cS mu tr ke kp tby tlen ttok tsta tbeh tnum ttak sh fi) (some (.int res.1)) (sx_W g m0 m1 m2 ka sa sn cI cJ cK cS mu tr ke kp tby tlen ttok tsta tbeh tnum ttak sh res.2) := by
  refine sf_met (lv := [(0, .ref (g 0)), (1, .int a0), (2, .int a1)]) (by decide) (Nat.le_of_ble_eq_true rfl) rfl ?_
  intro p e s m args below meth c A Q cx hr hQ
  have cx : sf_Cx p m meth c cX9_whose 5 s args RX9 D (sf_ty cI cJ cK cS) A := cx
  have B17 : ∀ (fi : Nat → Int32), f_X9_whose_b17 mu fi = some res → sf_W p l e rm_X9_whose s m args below meth c 0 0 Q 5 D A (sx_W g m0 m1 m2 ka sa sn cI cJ cK cS mu tr ke kp tby tlen ttok tsta tbeh tnum ttak sh fi) [(0, .ref (g 0))] 17 [] := by
    intro fi hf
    unfold f_X9_whose_b17 at hf
    refine sw_aload_n (pc' := 18) (i := 0) cx dX9_whose_17 rfl 0 rfl rfl ?_
    refine sw_iconst (pc' := 19) (v := 0) cx dX9_whose_18 iconst_0 rfl ?_
    obtain ⟨r5, hr5, hf⟩ := bd_s hf
    refine sw_callVw (pc' := 22) (As := [.int (0 : Int32)]) (rest := []) (w' := (sx_W g m0 m1 m2 ka sa sn cI cJ cK cS mu tr ke kp tby tlen ttok tsta tbeh tnum ttak sh r5.2)) cx (k_X9_found l D g m0 m1 m2 ka sa sn cI cJ cK cS mu tr ke kp tby tlen ttok tsta tbeh tnum ttak sh fi (0 : Int32) r5 hr5) pk_yX9_found ml_RX9_68 ⟨rfl, rfl⟩ ⟨(Nat.le_of_ble_eq_true rfl), (Nat.le_of_ble_eq_true rfl)⟩ ⟨(Nat.le_of_ble_eq_true rfl), (Nat.le_of_ble_eq_true rfl)⟩ 0 rfl rfl rfl rfl (Nat.le_of_ble_eq_true rfl) rfl dX9_whose_19 rfl ?_
    obtain rfl := Option.some.inj hf
    exact sw_iret cx hr hQ dX9_whose_22
  have B61 : ∀ (kk : (Nat → Int32) → Int32 → Int32 → Int32 → Int32 → Option (Int32 × (Nat → Int32))), (∀ (fi : Nat → Int32) (x1 : Int32) (x2 : Int32) (x3 : Int32) (x4 : Int32), kk fi x1 x2 x3 x4 = some res → sf_W p l e rm_X9_whose s m args below meth c 0 0 Q 5 D A (sx_W g m0 m1 m2 ka sa sn cI cJ cK cS mu tr ke kp tby tlen ttok tsta tbeh tnum ttak sh fi) [(0, .ref (g 0)), (1, .int x1), (2, .int x2), (3, .int x3), (4, .int x4)] 28 []) → ∀ (fi : Nat → Int32) (x1 : Int32) (x2 : Int32) (x3 : Int32) (x4 : Int32), f_X9_whose_b61 mu kk fi x1 x2 x3 x4 = some res → sf_W p l e rm_X9_whose s m args below meth c 0 0 Q 5 D A (sx_W g m0 m1 m2 ka sa sn cI cJ cK cS mu tr ke kp tby tlen ttok tsta tbeh tnum ttak sh fi) [(0, .ref (g 0)), (1, .int x1), (2, .int x2), (3, .int x3), (4, .int x4)] 61 [] := by
    intro kk hkk fi x1 x2 x3 x4 hf
    unfold f_X9_whose_b61 at hf
    refine sw_iinc (pc' := 64) (v := (x4 + (1 : Int32))) (lv' := [(4, .int (x4 + (1 : Int32))), (0, .ref (g 0)), (1, .int x1), (2, .int x2), (3, .int x3)]) cx dX9_whose_61 4 rfl rfl (Nat.le_of_ble_eq_true rfl) rfl rfl ?_
    refine sw_goto (tgt := 28) cx dX9_whose_64 (by decide) ?_
    exact sw_lv [1, 2, 3, 4, 0] rfl (hkk fi x1 x2 x3 (x4 + (1 : Int32)) hf)
  have B28 : ∀ (n : Nat), ∀ (fi : Nat → Int32) (x1 : Int32) (x2 : Int32) (x3 : Int32) (x4 : Int32), f_X9_whose_b28 mu n fi x1 x2 x3 x4 = some res → sf_W p l e rm_X9_whose s m args below meth c 0 0 Q 5 D A (sx_W g m0 m1 m2 ka sa sn cI cJ cK cS mu tr ke kp tby tlen ttok tsta tbeh tnum ttak sh fi) [(0, .ref (g 0)), (1, .int x1), (2, .int x2), (3, .int x3), (4, .int x4)] 28 [] := by
    intro n
    induction n with
    | zero => intro fi x1 x2 x3 x4 hf; rw [f_X9_whose_b28] at hf; cases hf
    | succ n ih =>
      intro fi x1 x2 x3 x4 hf
      rw [f_X9_whose_b28] at hf
      refine sw_iload (pc' := 30) (i := 4) cx dX9_whose_28 4 rfl rfl ?_
      refine sw_aload_n (pc' := 31) (i := 0) cx dX9_whose_30 rfl 0 rfl rfl ?_
      refine sw_get (pc' := 34) cx in_X9 0 rfl rfl 0 (Nat.le_of_ble_eq_true rfl) fl_RX9_32 rfl dX9_whose_31 rfl ?_
      refine sw_getN (pc' := 37) cx in_X4 1 rfl rfl 10 (Nat.le_of_ble_eq_true rfl) fn_RX9_93 rfl dX9_whose_34 rfl ?_
      refine sw_icmp_ge (pc' := 40) (tgt := 67) cx dX9_whose_37 (by decide) rfl (fun c6 => ?_) (fun c6 => ?_)
      · replace hf := it_p c6 hf
        refine sw_iload_n (pc' := 68) (i := 3) cx dX9_whose_67 rfl 3 rfl rfl ?_
        obtain rfl := Option.some.inj hf
        exact sw_iret cx hr hQ dX9_whose_68
      · replace hf := it_n c6 hf
        refine sw_aload_n (pc' := 41) (i := 0) cx dX9_whose_40 rfl 0 rfl rfl ?_
        refine sw_get (pc' := 44) cx in_X9 0 rfl rfl 0 (Nat.le_of_ble_eq_true rfl) fl_RX9_32 rfl dX9_whose_41 rfl ?_
        refine sw_iload (pc' := 46) (i := 4) cx dX9_whose_44 4 rfl rfl ?_
        refine sw_iload_n (pc' := 47) (i := 1) cx dX9_whose_46 rfl 1 rfl rfl ?_
        obtain ⟨r7, hr7, hf⟩ := bd_s hf
        refine sw_callV (pc' := 50) (As := [.int x4, .int x1]) (rest := []) cx (k_X4_highOf l D m0 (g 5) ka cI cJ cK cS mu x4 x1 r7 hr7) pk_yX4_highOf ml_RX9_117 ⟨rfl, rfl⟩ ⟨(Nat.le_of_ble_eq_true rfl), (Nat.le_of_ble_eq_true rfl)⟩ ⟨(Nat.le_of_ble_eq_true rfl), (Nat.le_of_ble_eq_true rfl)⟩ [1, 2, 3, 4, 5, 6, 7, 8, 9, 10, 31, 32, 33, 34, 35, 36, 37] sx_C_mu sx_n_mu (mt_fst _ _ _ _ _ _ _) (wn := (sx_W g m0 m1 m2 ka sa sn cI cJ cK cS mu tr ke kp tby tlen ttok tsta tbeh tnum ttak sh fi)) sx_w_mu 0 rfl rfl rfl rfl (Nat.le_of_ble_eq_true rfl) rfl dX9_whose_47 rfl ?_
        refine sw_iload_n (pc' := 51) (i := 2) cx dX9_whose_50 rfl 2 rfl rfl ?_
        refine sw_icmp_ne (pc' := 54) (tgt := 61) cx dX9_whose_51 (by decide) rfl (fun c8 => ?_) (fun c8 => ?_)
        · replace hf := it_n c8 hf
          exact sw_lv [0, 1, 2, 3, 4] rfl (B61 _ ih fi x1 x2 x3 x4 hf)
        · replace hf := it_p c8 hf
          refine sw_iload_n (pc' := 55) (i := 3) cx dX9_whose_54 rfl 3 rfl rfl ?_
          refine sw_iconst (pc' := 56) (v := 1) cx dX9_whose_55 iconst_1 rfl ?_
          refine sw_iload (pc' := 58) (i := 4) cx dX9_whose_56 4 rfl rfl ?_
          refine sw_ishl (pc' := 59) cx dX9_whose_58 rfl ?_
          refine sw_ior (pc' := 60) cx dX9_whose_59 rfl ?_
          refine sw_istore_n (pc' := 61) (i := 3) (lv' := [(3, .int (x3 ||| ((1 : Int32) <<< (x4 &&& 31)))), (0, .ref (g 0)), (1, .int x1), (2, .int x2), (4, .int x4)]) cx dX9_whose_60 rfl (Nat.le_of_ble_eq_true rfl) rfl rfl ?_
          exact sw_lv [1, 2, 3, 0, 4] rfl (B61 _ ih fi x1 x2 (x3 ||| ((1 : Int32) <<< (x4 &&& 31))) x4 hf)
  unfold f_X9_whose at hf
  refine sw_iload_n (pc' := 1) (i := 1) cx dX9_whose_0 rfl 1 rfl rfl ?_
  obtain ⟨r1, hr1, hf⟩ := bd_s hf
  refine sw_callS (pc' := 4) (As := [.int a0]) (rest := []) cx (k_X9_isPlace l D cI cJ cK cS a0 r1 hr1) pk_yX9_isPlace ml_RX9_60 ⟨rfl, rfl⟩ ⟨(Nat.le_of_ble_eq_true rfl), (Nat.le_of_ble_eq_true rfl)⟩ ⟨(Nat.le_of_ble_eq_true rfl), (Nat.le_of_ble_eq_true rfl)⟩ [] rfl rfl rfl (wn := (sx_W g m0 m1 m2 ka sa sn cI cJ cK cS mu tr ke kp tby tlen ttok tsta tbeh tnum ttak sh fi)) rfl rfl (Nat.le_of_ble_eq_true rfl) rfl dX9_whose_1 rfl ?_
  refine sw_if_eq (pc' := 7) (tgt := 17) cx dX9_whose_4 (by decide) rfl (fun c2 => ?_) (fun c2 => ?_)
  · replace hf := it_p c2 hf
    exact sw_lv [0] rfl (B17 fi hf)
  · replace hf := it_n c2 hf
    refine sw_iload_n (pc' := 8) (i := 2) cx dX9_whose_7 rfl 2 rfl rfl ?_
    refine sw_iconst (pc' := 9) (v := 0) cx dX9_whose_8 iconst_0 rfl ?_
    refine sw_bipush (pc' := 11) (v := 40) cx dX9_whose_9 bipush_40 rfl ?_
    obtain ⟨r3, hr3, hf⟩ := bd_s hf
    refine sw_callS (pc' := 14) (As := [.int a1, .int (0 : Int32), .int (40 : Int32)]) (rest := []) cx (k_X9_isWithin l D cI cJ cK cS a1 (0 : Int32) (40 : Int32) r3 hr3) pk_yX9_isWithin ml_RX9_64 ⟨rfl, rfl⟩ ⟨(Nat.le_of_ble_eq_true rfl), (Nat.le_of_ble_eq_true rfl)⟩ ⟨(Nat.le_of_ble_eq_true rfl), (Nat.le_of_ble_eq_true rfl)⟩ [] rfl rfl rfl (wn := (sx_W g m0 m1 m2 ka sa sn cI cJ cK cS mu tr ke kp tby tlen ttok tsta tbeh tnum ttak sh fi)) rfl rfl (Nat.le_of_ble_eq_true rfl) rfl dX9_whose_11 rfl ?_
    refine sw_if_ne (pc' := 17) (tgt := 23) cx dX9_whose_14 (by decide) rfl (fun c4 => ?_) (fun c4 => ?_)
    · replace hf := it_n c4 hf
      refine sw_iconst (pc' := 24) (v := 0) cx dX9_whose_23 iconst_0 rfl ?_
      refine sw_istore_n (pc' := 25) (i := 3) (lv' := [(3, .int (0 : Int32)), (0, .ref (g 0)), (1, .int a0), (2, .int a1)]) cx dX9_whose_24 rfl (Nat.le_of_ble_eq_true rfl) rfl rfl ?_
      refine sw_iconst (pc' := 26) (v := 0) cx dX9_whose_25 iconst_0 rfl ?_
      refine sw_istore (pc' := 28) (i := 4) (lv' := [(4, .int (0 : Int32)), (3, .int (0 : Int32)), (0, .ref (g 0)), (1, .int a0), (2, .int a1)]) cx dX9_whose_26 (Nat.le_of_ble_eq_true rfl) rfl rfl ?_
      exact sw_lv [2, 3, 4, 1, 0] rfl (B28 1000 fi a0 a1 (0 : Int32) (0 : Int32) hf)
    · replace hf := it_p c4 hf
      exact sw_lv [0] rfl (B17 fi hf)
abbrev rm_X9_bears : Room := ({ frames := 6, cells := 0, slots := 0, locals := 132 } : Room)
set_option maxRecDepth 100000 in
set_option maxHeartbeats 4000000 in
theorem k_X9_bears (l : Launch) (D : sf_D) (g m0 m1 m2 ka sa sn : Nat → Nat) (cI cJ cK cS : ClassId) (mu : MtS) (tr : MtS) (ke : MtS) (kp : Int32) (tby : Nat → Int32) (tlen : Int32) (ttok : Int32) (tsta : Int32) (tbeh : Int32) (tnum : Int32) (ttak : Int32) (sh : Nat → ShS) (fi : Nat → Int32) (a0 : Int32) (res : Int32 × MtS × (Nat → Int32)) (hf : f_X9_bears mu tr fi a0 = some res) : sf_Ct l yX9_bears cX9_bears 4 (some .int) rm_X9_bears D (sf_ty cI cJ cK cS) [.ref (g 0), .int a0] (sx_W g m0 m1 m2 ka sa sn cI cJ cK cS mu tr ke kp tby tlen ttok tsta tbeh tnum ttak sh fi) (some (.int res.1)) (sx_W g m0 m1 m2 ka sa sn cI cJ cK cS mu res.2.1 ke kp tby tlen ttok tsta tbeh tnum ttak sh res.2.2) := by
  refine sf_met (lv := [(0, .ref (g 0)), (1, .int a0)]) (by decide) (Nat.le_of_ble_eq_true rfl) rfl ?_
  intro p e s m args below meth c A Q cx hr hQ
  have cx : sf_Cx p m meth c cX9_bears 4 s args RX9 D (sf_ty cI cJ cK cS) A := cx
  have B19 : ∀ (n : Nat), ∀ (tr : MtS) (fi : Nat → Int32) (x1 : Int32) (x3 : Int32), f_X9_bears_b19 mu n tr fi x1 x3 = some res → sf_W p l e rm_X9_bears s m args below meth c 0 0 Q 4 D A (sx_W g m0 m1 m2 ka sa sn cI cJ cK cS mu tr ke kp tby tlen ttok tsta tbeh tnum ttak sh fi) [(0, .ref (g 0)), (1, .int x1), (3, .int x3)] 19 [] := by
    intro n
    induction n with
    | zero => intro tr fi x1 x3 hf; rw [f_X9_bears_b19] at hf; cases hf
    | succ n ih =>
      intro tr fi x1 x3 hf
      rw [f_X9_bears_b19] at hf
      refine sw_iload_n (pc' := 20) (i := 3) cx dX9_bears_19 rfl 2 rfl rfl ?_
      refine sw_if_lt (pc' := 23) (tgt := 63) cx dX9_bears_20 (by decide) rfl (fun c3 => ?_) (fun c3 => ?_)
      · replace hf := it_p c3 hf
        refine sw_aload_n (pc' := 64) (i := 0) cx dX9_bears_63 rfl 0 rfl rfl ?_
        refine sw_iconst (pc' := 65) (v := 3) cx dX9_bears_64 iconst_3 rfl ?_
        obtain ⟨r4, hr4, hf⟩ := bd_s hf
        refine sw_callVw (pc' := 68) (As := [.int (3 : Int32)]) (rest := []) (w' := (sx_W g m0 m1 m2 ka sa sn cI cJ cK cS mu tr ke kp tby tlen ttok tsta tbeh tnum ttak sh r4.2)) cx (k_X9_found l D g m0 m1 m2 ka sa sn cI cJ cK cS mu tr ke kp tby tlen ttok tsta tbeh tnum ttak sh fi (3 : Int32) r4 hr4) pk_yX9_found ml_RX9_68 ⟨rfl, rfl⟩ ⟨(Nat.le_of_ble_eq_true rfl), (Nat.le_of_ble_eq_true rfl)⟩ ⟨(Nat.le_of_ble_eq_true rfl), (Nat.le_of_ble_eq_true rfl)⟩ 0 rfl rfl rfl rfl (Nat.le_of_ble_eq_true rfl) rfl dX9_bears_65 rfl ?_
        obtain rfl := Option.some.inj hf
        exact sw_iret cx hr hQ dX9_bears_68
      · replace hf := it_n c3 hf
        refine sw_aload_n (pc' := 24) (i := 0) cx dX9_bears_23 rfl 0 rfl rfl ?_
        obtain ⟨r5, hr5, hf⟩ := bd_s hf
        refine sw_callVw (pc' := 27) (As := []) (rest := []) (w' := (sx_W g m0 m1 m2 ka sa sn cI cJ cK cS mu r5 ke kp tby tlen ttok tsta tbeh tnum ttak sh fi)) cx (k_X9_startTrial l D g m0 m1 m2 ka sa sn cI cJ cK cS mu tr ke kp tby tlen ttok tsta tbeh tnum ttak sh fi  r5 hr5) pk_yX9_startTrial ml_RX9_190 ⟨rfl, rfl⟩ ⟨(Nat.le_of_ble_eq_true rfl), (Nat.le_of_ble_eq_true rfl)⟩ ⟨(Nat.le_of_ble_eq_true rfl), (Nat.le_of_ble_eq_true rfl)⟩ 0 rfl rfl rfl rfl (Nat.le_of_ble_eq_true rfl) rfl dX9_bears_24 rfl ?_
        refine sw_aload_n (pc' := 28) (i := 0) cx dX9_bears_27 rfl 0 rfl rfl ?_
        refine sw_get (pc' := 31) cx in_X9 0 rfl rfl 1 (Nat.le_of_ble_eq_true rfl) fl_RX9_36 rfl dX9_bears_28 rfl ?_
        refine sw_iload_n (pc' := 32) (i := 3) cx dX9_bears_31 rfl 2 rfl rfl ?_
        refine sw_putN (pc' := 35) (ws' := (sx_W g m0 m1 m2 ka sa sn cI cJ cK cS mu (mt_mk (r5.1 0 0) x3 (r5.1 0 2) (r5.1 0 3) (r5.1 0 4) (r5.1 1) (r5.1 2) (r5.1 3) (r5.1 4) (r5.1 5) (r5.1 6) (r5.1 7) (r5.1 8) (r5.1 9) r5.2) ke kp tby tlen ttok tsta tbeh tnum ttak sh fi)) cx in_X4 tyX4 tyX4_ok nmX4 11 rfl rfl 7 (Nat.le_of_ble_eq_true rfl) fn_RX9_75 rfl rfl rfl (Nat.le_of_ble_eq_true rfl) dX9_bears_32 rfl rfl ?_
        refine sw_aload_n (pc' := 36) (i := 0) cx dX9_bears_35 rfl 0 rfl rfl ?_
        refine sw_get (pc' := 39) cx in_X9 0 rfl rfl 1 (Nat.le_of_ble_eq_true rfl) fl_RX9_36 rfl dX9_bears_36 rfl ?_
        refine sw_iload_n (pc' := 40) (i := 1) cx dX9_bears_39 rfl 1 rfl rfl ?_
        obtain ⟨r6, hr6, hf⟩ := bd_s hf
        refine sw_callV (pc' := 43) (As := [.int x1]) (rest := []) cx (k_X4_goYears l D m1 (g 5) ka cI cJ cK cS (mt_mk (r5.1 0 0) x3 (r5.1 0 2) (r5.1 0 3) (r5.1 0 4) (r5.1 1) (r5.1 2) (r5.1 3) (r5.1 4) (r5.1 5) (r5.1 6) (r5.1 7) (r5.1 8) (r5.1 9) r5.2) x1 r6 hr6) pk_yX4_goYears ml_RX9_175 ⟨rfl, rfl⟩ ⟨(Nat.le_of_ble_eq_true rfl), (Nat.le_of_ble_eq_true rfl)⟩ ⟨(Nat.le_of_ble_eq_true rfl), (Nat.le_of_ble_eq_true rfl)⟩ [11, 12, 13, 14, 15, 16, 17, 18, 19, 20, 31, 32, 33, 34, 35, 36, 37] sx_C_tr sx_n_tr (mt_fst _ _ _ _ _ _ _) (wn := (sx_W g m0 m1 m2 ka sa sn cI cJ cK cS mu r6 ke kp tby tlen ttok tsta tbeh tnum ttak sh fi)) sx_w_tr 0 rfl rfl rfl rfl (Nat.le_of_ble_eq_true rfl) rfl dX9_bears_40 rfl ?_
        refine sw_aload_n (pc' := 44) (i := 0) cx dX9_bears_43 rfl 0 rfl rfl ?_
        refine sw_get (pc' := 47) cx in_X9 0 rfl rfl 1 (Nat.le_of_ble_eq_true rfl) fl_RX9_36 rfl dX9_bears_44 rfl ?_
        obtain ⟨r7, hr7, hf⟩ := bd_s hf
        refine sw_callV (pc' := 50) (As := []) (rest := []) cx (k_X4_climb l D m1 (g 5) ka cI cJ cK cS r6  r7 hr7) pk_yX4_climb ml_RX9_160 ⟨rfl, rfl⟩ ⟨(Nat.le_of_ble_eq_true rfl), (Nat.le_of_ble_eq_true rfl)⟩ ⟨(Nat.le_of_ble_eq_true rfl), (Nat.le_of_ble_eq_true rfl)⟩ [11, 12, 13, 14, 15, 16, 17, 18, 19, 20, 31, 32, 33, 34, 35, 36, 37] sx_C_tr sx_n_tr (mt_fst _ _ _ _ _ _ _) (wn := (sx_W g m0 m1 m2 ka sa sn cI cJ cK cS mu r6 ke kp tby tlen ttok tsta tbeh tnum ttak sh fi)) sx_w_tr 0 rfl rfl rfl rfl (Nat.le_of_ble_eq_true rfl) rfl dX9_bears_47 rfl ?_
        refine sw_bipush (pc' := 52) (v := 40) cx dX9_bears_50 bipush_40 rfl ?_
        refine sw_icmp_ne (pc' := 55) (tgt := 57) cx dX9_bears_52 (by decide) rfl (fun c8 => ?_) (fun c8 => ?_)
        · replace hf := it_n c8 hf
          refine sw_iinc (pc' := 60) (v := (x3 + (-1 : Int32))) (lv' := [(3, .int (x3 + (-1 : Int32))), (0, .ref (g 0)), (1, .int x1)]) cx dX9_bears_57 2 rfl rfl (Nat.le_of_ble_eq_true rfl) rfl rfl ?_
          refine sw_goto (tgt := 19) cx dX9_bears_60 (by decide) ?_
          exact sw_lv [1, 2, 0] rfl (ih r6 fi x1 (x3 + (-1 : Int32)) hf)
        · replace hf := it_p c8 hf
          refine sw_iload_n (pc' := 56) (i := 3) cx dX9_bears_55 rfl 2 rfl rfl ?_
          obtain rfl := Option.some.inj hf
          exact sw_iret cx hr hQ dX9_bears_56
  unfold f_X9_bears at hf
  refine sw_aload_n (pc' := 1) (i := 0) cx dX9_bears_0 rfl 0 rfl rfl ?_
  refine sw_iload_n (pc' := 2) (i := 1) cx dX9_bears_1 rfl 1 rfl rfl ?_
  refine sw_iconst (pc' := 3) (v := 1) cx dX9_bears_2 iconst_1 rfl ?_
  refine sw_sipush (pc' := 6) (v := 200) cx dX9_bears_3 sipush_200 rfl ?_
  obtain ⟨r1, hr1, hf⟩ := bd_s hf
  refine sw_callVw (pc' := 9) (As := [.int a0, .int (1 : Int32), .int (200 : Int32)]) (rest := []) (w' := (sx_W g m0 m1 m2 ka sa sn cI cJ cK cS mu tr ke kp tby tlen ttok tsta tbeh tnum ttak sh r1.2)) cx (k_X9_againstYears l D g m0 m1 m2 ka sa sn cI cJ cK cS mu tr ke kp tby tlen ttok tsta tbeh tnum ttak sh fi a0 (1 : Int32) (200 : Int32) r1 hr1) pk_yX9_againstYears ml_RX9_171 ⟨rfl, rfl⟩ ⟨(Nat.le_of_ble_eq_true rfl), (Nat.le_of_ble_eq_true rfl)⟩ ⟨(Nat.le_of_ble_eq_true rfl), (Nat.le_of_ble_eq_true rfl)⟩ 0 rfl rfl rfl rfl (Nat.le_of_ble_eq_true rfl) rfl dX9_bears_6 rfl ?_
  refine sw_istore_n (pc' := 10) (i := 2) (lv' := [(2, .int r1.1), (0, .ref (g 0)), (1, .int a0)]) cx dX9_bears_9 rfl (Nat.le_of_ble_eq_true rfl) rfl rfl ?_
  refine sw_iload_n (pc' := 11) (i := 2) cx dX9_bears_10 rfl 0 rfl rfl ?_
  refine sw_if_eq (pc' := 14) (tgt := 16) cx dX9_bears_11 (by decide) rfl (fun c2 => ?_) (fun c2 => ?_)
  · replace hf := it_p c2 hf
    refine sw_bipush (pc' := 18) (v := 9) cx dX9_bears_16 bipush_9 rfl ?_
    refine sw_istore_n (pc' := 19) (i := 3) (lv' := [(3, .int (9 : Int32)), (2, .int r1.1), (0, .ref (g 0)), (1, .int a0)]) cx dX9_bears_18 rfl (Nat.le_of_ble_eq_true rfl) rfl rfl ?_
    exact sw_lv [2, 3, 0] rfl (B19 1000 tr r1.2 a0 (9 : Int32) hf)
  · replace hf := it_n c2 hf
    refine sw_iload_n (pc' := 15) (i := 2) cx dX9_bears_14 rfl 0 rfl rfl ?_
    obtain rfl := Option.some.inj hf
    exact sw_iret cx hr hQ dX9_bears_15
abbrev rm_X9_meetsFor : Room := ({ frames := 3, cells := 0, slots := 0, locals := 65 } : Room)
set_option maxRecDepth 100000 in
set_option maxHeartbeats 4000000 in
theorem k_X9_meetsFor (l : Launch) (D : sf_D) (g m0 m1 m2 ka sa sn : Nat → Nat) (cI cJ cK cS : ClassId) (mu : MtS) (tr : MtS) (ke : MtS) (kp : Int32) (tby : Nat → Int32) (tlen : Int32) (ttok : Int32) (tsta : Int32) (tbeh : Int32) (tnum : Int32) (ttak : Int32) (sh : Nat → ShS) (fi : Nat → Int32) (a0 : Int32) (res : Int32 × (Nat → Int32)) (hf : f_X9_meetsFor mu fi a0 = some res) : sf_Ct l yX9_meetsFor cX9_meetsFor 3 (some .int) rm_X9_meetsFor D (sf_ty cI cJ cK cS) [.ref (g 0), .int a0] (sx_W g m0 m1 m2 ka sa sn cI cJ cK cS mu tr ke kp tby tlen ttok tsta tbeh tnum ttak sh fi) (some (.int res.1)) (sx_W g m0 m1 m2 ka sa sn cI cJ cK cS mu tr ke kp tby tlen ttok tsta tbeh tnum ttak sh res.2) := by
  refine sf_met (lv := [(0, .ref (g 0)), (1, .int a0)]) (by decide) (Nat.le_of_ble_eq_true rfl) rfl ?_
  intro p e s m args below meth c A Q cx hr hQ
  have cx : sf_Cx p m meth c cX9_meetsFor 3 s args RX9 D (sf_ty cI cJ cK cS) A := cx
  have B18 : ∀ (n : Nat), ∀ (fi : Nat → Int32) (x1 : Int32) (x2 : Int32), f_X9_meetsFor_b18 mu n fi x1 x2 = some res → sf_W p l e rm_X9_meetsFor s m args below meth c 0 0 Q 3 D A (sx_W g m0 m1 m2 ka sa sn cI cJ cK cS mu tr ke kp tby tlen ttok tsta tbeh tnum ttak sh fi) [(0, .ref (g 0)), (1, .int x1), (2, .int x2)] 18 [] := by
    intro n
    induction n with
    | zero => intro fi x1 x2 hf; rw [f_X9_meetsFor_b18] at hf; cases hf
    | succ n ih =>
      intro fi x1 x2 hf
      rw [f_X9_meetsFor_b18] at hf
      refine sw_iload_n (pc' := 19) (i := 2) cx dX9_meetsFor_18 rfl 2 rfl rfl ?_
      refine sw_bipush (pc' := 21) (v := 20) cx dX9_meetsFor_19 bipush_20 rfl ?_
      refine sw_icmp_gt (pc' := 24) (tgt := 44) cx dX9_meetsFor_21 (by decide) rfl (fun c4 => ?_) (fun c4 => ?_)
      · replace hf := it_p c4 hf
        refine sw_aload_n (pc' := 45) (i := 0) cx dX9_meetsFor_44 rfl 0 rfl rfl ?_
        refine sw_iconst (pc' := 46) (v := 3) cx dX9_meetsFor_45 iconst_3 rfl ?_
        obtain ⟨r5, hr5, hf⟩ := bd_s hf
        refine sw_callVw (pc' := 49) (As := [.int (3 : Int32)]) (rest := []) (w' := (sx_W g m0 m1 m2 ka sa sn cI cJ cK cS mu tr ke kp tby tlen ttok tsta tbeh tnum ttak sh r5.2)) cx (k_X9_found l D g m0 m1 m2 ka sa sn cI cJ cK cS mu tr ke kp tby tlen ttok tsta tbeh tnum ttak sh fi (3 : Int32) r5 hr5) pk_yX9_found ml_RX9_68 ⟨rfl, rfl⟩ ⟨(Nat.le_of_ble_eq_true rfl), (Nat.le_of_ble_eq_true rfl)⟩ ⟨(Nat.le_of_ble_eq_true rfl), (Nat.le_of_ble_eq_true rfl)⟩ 0 rfl rfl rfl rfl (Nat.le_of_ble_eq_true rfl) rfl dX9_meetsFor_46 rfl ?_
        obtain rfl := Option.some.inj hf
        exact sw_iret cx hr hQ dX9_meetsFor_49
      · replace hf := it_n c4 hf
        refine sw_aload_n (pc' := 25) (i := 0) cx dX9_meetsFor_24 rfl 0 rfl rfl ?_
        refine sw_get (pc' := 28) cx in_X9 0 rfl rfl 0 (Nat.le_of_ble_eq_true rfl) fl_RX9_32 rfl dX9_meetsFor_25 rfl ?_
        refine sw_iload_n (pc' := 29) (i := 2) cx dX9_meetsFor_28 rfl 2 rfl rfl ?_
        obtain ⟨r6, hr6, hf⟩ := bd_s hf
        refine sw_callV (pc' := 32) (As := [.int x2]) (rest := []) cx (k_X4_climbWith l D m0 (g 5) ka cI cJ cK cS mu x2 r6 hr6) pk_yX4_climbWith ml_RX9_201 ⟨rfl, rfl⟩ ⟨(Nat.le_of_ble_eq_true rfl), (Nat.le_of_ble_eq_true rfl)⟩ ⟨(Nat.le_of_ble_eq_true rfl), (Nat.le_of_ble_eq_true rfl)⟩ [1, 2, 3, 4, 5, 6, 7, 8, 9, 10, 31, 32, 33, 34, 35, 36, 37] sx_C_mu sx_n_mu (mt_fst _ _ _ _ _ _ _) (wn := (sx_W g m0 m1 m2 ka sa sn cI cJ cK cS mu tr ke kp tby tlen ttok tsta tbeh tnum ttak sh fi)) sx_w_mu 0 rfl rfl rfl rfl (Nat.le_of_ble_eq_true rfl) rfl dX9_meetsFor_29 rfl ?_
        refine sw_iload_n (pc' := 33) (i := 1) cx dX9_meetsFor_32 rfl 1 rfl rfl ?_
        refine sw_icmp_lt (pc' := 36) (tgt := 38) cx dX9_meetsFor_33 (by decide) rfl (fun c7 => ?_) (fun c7 => ?_)
        · replace hf := it_p c7 hf
          refine sw_iinc (pc' := 41) (v := (x2 + (1 : Int32))) (lv' := [(2, .int (x2 + (1 : Int32))), (0, .ref (g 0)), (1, .int x1)]) cx dX9_meetsFor_38 2 rfl rfl (Nat.le_of_ble_eq_true rfl) rfl rfl ?_
          refine sw_goto (tgt := 18) cx dX9_meetsFor_41 (by decide) ?_
          exact sw_lv [1, 2, 0] rfl (ih fi x1 (x2 + (1 : Int32)) hf)
        · replace hf := it_n c7 hf
          refine sw_iload_n (pc' := 37) (i := 2) cx dX9_meetsFor_36 rfl 2 rfl rfl ?_
          obtain rfl := Option.some.inj hf
          exact sw_iret cx hr hQ dX9_meetsFor_37
  unfold f_X9_meetsFor at hf
  refine sw_iload_n (pc' := 1) (i := 1) cx dX9_meetsFor_0 rfl 1 rfl rfl ?_
  refine sw_iconst (pc' := 2) (v := 0) cx dX9_meetsFor_1 iconst_0 rfl ?_
  refine sw_bipush (pc' := 4) (v := 40) cx dX9_meetsFor_2 bipush_40 rfl ?_
  obtain ⟨r1, hr1, hf⟩ := bd_s hf
  refine sw_callS (pc' := 7) (As := [.int a0, .int (0 : Int32), .int (40 : Int32)]) (rest := []) cx (k_X9_isWithin l D cI cJ cK cS a0 (0 : Int32) (40 : Int32) r1 hr1) pk_yX9_isWithin ml_RX9_64 ⟨rfl, rfl⟩ ⟨(Nat.le_of_ble_eq_true rfl), (Nat.le_of_ble_eq_true rfl)⟩ ⟨(Nat.le_of_ble_eq_true rfl), (Nat.le_of_ble_eq_true rfl)⟩ [] rfl rfl rfl (wn := (sx_W g m0 m1 m2 ka sa sn cI cJ cK cS mu tr ke kp tby tlen ttok tsta tbeh tnum ttak sh fi)) rfl rfl (Nat.le_of_ble_eq_true rfl) rfl dX9_meetsFor_4 rfl ?_
  refine sw_if_ne (pc' := 10) (tgt := 16) cx dX9_meetsFor_7 (by decide) rfl (fun c2 => ?_) (fun c2 => ?_)
  · replace hf := it_n c2 hf
    refine sw_iconst (pc' := 17) (v := 0) cx dX9_meetsFor_16 iconst_0 rfl ?_
    refine sw_istore_n (pc' := 18) (i := 2) (lv' := [(2, .int (0 : Int32)), (0, .ref (g 0)), (1, .int a0)]) cx dX9_meetsFor_17 rfl (Nat.le_of_ble_eq_true rfl) rfl rfl ?_
    exact sw_lv [1, 2, 0] rfl (B18 1000 fi a0 (0 : Int32) hf)
  · replace hf := it_p c2 hf
    refine sw_aload_n (pc' := 11) (i := 0) cx dX9_meetsFor_10 rfl 0 rfl rfl ?_
    refine sw_iconst (pc' := 12) (v := 0) cx dX9_meetsFor_11 iconst_0 rfl ?_
    obtain ⟨r3, hr3, hf⟩ := bd_s hf
    refine sw_callVw (pc' := 15) (As := [.int (0 : Int32)]) (rest := []) (w' := (sx_W g m0 m1 m2 ka sa sn cI cJ cK cS mu tr ke kp tby tlen ttok tsta tbeh tnum ttak sh r3.2)) cx (k_X9_found l D g m0 m1 m2 ka sa sn cI cJ cK cS mu tr ke kp tby tlen ttok tsta tbeh tnum ttak sh fi (0 : Int32) r3 hr3) pk_yX9_found ml_RX9_68 ⟨rfl, rfl⟩ ⟨(Nat.le_of_ble_eq_true rfl), (Nat.le_of_ble_eq_true rfl)⟩ ⟨(Nat.le_of_ble_eq_true rfl), (Nat.le_of_ble_eq_true rfl)⟩ 0 rfl rfl rfl rfl (Nat.le_of_ble_eq_true rfl) rfl dX9_meetsFor_12 rfl ?_
    obtain rfl := Option.some.inj hf
    exact sw_iret cx hr hQ dX9_meetsFor_15
abbrev rm_X9_alone : Room := ({ frames := 4, cells := 0, slots := 0, locals := 87 } : Room)
set_option maxRecDepth 100000 in
set_option maxHeartbeats 4000000 in
theorem k_X9_alone (l : Launch) (D : sf_D) (g m0 m1 m2 ka sa sn : Nat → Nat) (cI cJ cK cS : ClassId) (mu : MtS) (tr : MtS) (ke : MtS) (kp : Int32) (tby : Nat → Int32) (tlen : Int32) (ttok : Int32) (tsta : Int32) (tbeh : Int32) (tnum : Int32) (ttak : Int32) (sh : Nat → ShS) (fi : Nat → Int32) (a0 : Int32) (res : Int32 × (Nat → Int32)) (hf : f_X9_alone mu fi a0 = some res) : sf_Ct l yX9_alone cX9_alone 5 (some .int) rm_X9_alone D (sf_ty cI cJ cK cS) [.ref (g 0), .int a0] (sx_W g m0 m1 m2 ka sa sn cI cJ cK cS mu tr ke kp tby tlen ttok tsta tbeh tnum ttak sh fi) (some (.int res.1)) (sx_W g m0 m1 m2 ka sa sn cI cJ cK cS mu tr ke kp tby tlen ttok tsta tbeh tnum ttak sh res.2) := by
  refine sf_met (lv := [(0, .ref (g 0)), (1, .int a0)]) (by decide) (Nat.le_of_ble_eq_true rfl) rfl ?_
  intro p e s m args below meth c A Q cx hr hQ
  have cx : sf_Cx p m meth c cX9_alone 5 s args RX9 D (sf_ty cI cJ cK cS) A := cx
  have B73 : ∀ (kk : (Nat → Int32) → Int32 → Int32 → Int32 → Option (Int32 × (Nat → Int32))), (∀ (fi : Nat → Int32) (x2 : Int32) (x3 : Int32) (x4 : Int32), kk fi x2 x3 x4 = some res → sf_W p l e rm_X9_alone s m args below meth c 0 0 Q 5 D A (sx_W g m0 m1 m2 ka sa sn cI cJ cK cS mu tr ke kp tby tlen ttok tsta tbeh tnum ttak sh fi) [(0, .ref (g 0)), (2, .int x2), (3, .int x3), (4, .int x4)] 35 []) → ∀ (fi : Nat → Int32) (x2 : Int32) (x3 : Int32) (x4 : Int32), f_X9_alone_b73 mu kk fi x2 x3 x4 = some res → sf_W p l e rm_X9_alone s m args below meth c 0 0 Q 5 D A (sx_W g m0 m1 m2 ka sa sn cI cJ cK cS mu tr ke kp tby tlen ttok tsta tbeh tnum ttak sh fi) [(0, .ref (g 0)), (2, .int x2), (3, .int x3), (4, .int x4)] 73 [] := by
    intro kk hkk fi x2 x3 x4 hf
    unfold f_X9_alone_b73 at hf
    refine sw_iinc (pc' := 76) (v := (x4 + (1 : Int32))) (lv' := [(4, .int (x4 + (1 : Int32))), (0, .ref (g 0)), (2, .int x2), (3, .int x3)]) cx dX9_alone_73 3 rfl rfl (Nat.le_of_ble_eq_true rfl) rfl rfl ?_
    refine sw_goto (tgt := 35) cx dX9_alone_76 (by decide) ?_
    exact sw_lv [1, 2, 3, 0] rfl (hkk fi x2 x3 (x4 + (1 : Int32)) hf)
  have B35 : ∀ (n : Nat), ∀ (fi : Nat → Int32) (x2 : Int32) (x3 : Int32) (x4 : Int32), f_X9_alone_b35 mu n fi x2 x3 x4 = some res → sf_W p l e rm_X9_alone s m args below meth c 0 0 Q 5 D A (sx_W g m0 m1 m2 ka sa sn cI cJ cK cS mu tr ke kp tby tlen ttok tsta tbeh tnum ttak sh fi) [(0, .ref (g 0)), (2, .int x2), (3, .int x3), (4, .int x4)] 35 [] := by
    intro n
    induction n with
    | zero => intro fi x2 x3 x4 hf; rw [f_X9_alone_b35] at hf; cases hf
    | succ n ih =>
      intro fi x2 x3 x4 hf
      rw [f_X9_alone_b35] at hf
      refine sw_iload (pc' := 37) (i := 4) cx dX9_alone_35 3 rfl rfl ?_
      refine sw_bipush (pc' := 39) (v := 40) cx dX9_alone_37 bipush_40 rfl ?_
      refine sw_icmp_ge (pc' := 42) (tgt := 79) cx dX9_alone_39 (by decide) rfl (fun c5 => ?_) (fun c5 => ?_)
      · replace hf := it_p c5 hf
        refine sw_iload_n (pc' := 80) (i := 3) cx dX9_alone_79 rfl 2 rfl rfl ?_
        obtain rfl := Option.some.inj hf
        exact sw_iret cx hr hQ dX9_alone_80
      · replace hf := it_n c5 hf
        refine sw_aload_n (pc' := 43) (i := 0) cx dX9_alone_42 rfl 0 rfl rfl ?_
        refine sw_get (pc' := 46) cx in_X9 0 rfl rfl 0 (Nat.le_of_ble_eq_true rfl) fl_RX9_32 rfl dX9_alone_43 rfl ?_
        refine sw_iload (pc' := 48) (i := 4) cx dX9_alone_46 3 rfl rfl ?_
        obtain ⟨r6, hr6, hf⟩ := bd_s hf
        refine sw_callV (pc' := 51) (As := [.int x4]) (rest := []) cx (k_X4_isWhole l D m0 (g 5) ka cI cJ cK cS mu x4 r6 hr6) pk_yX4_isWhole ml_RX9_136 ⟨rfl, rfl⟩ ⟨(Nat.le_of_ble_eq_true rfl), (Nat.le_of_ble_eq_true rfl)⟩ ⟨(Nat.le_of_ble_eq_true rfl), (Nat.le_of_ble_eq_true rfl)⟩ [1, 2, 3, 4, 5, 6, 7, 8, 9, 10, 31, 32, 33, 34, 35, 36, 37] sx_C_mu sx_n_mu (mt_fst _ _ _ _ _ _ _) (wn := (sx_W g m0 m1 m2 ka sa sn cI cJ cK cS mu tr ke kp tby tlen ttok tsta tbeh tnum ttak sh fi)) sx_w_mu 0 rfl rfl rfl rfl (Nat.le_of_ble_eq_true rfl) rfl dX9_alone_48 rfl ?_
        refine sw_if_ne (pc' := 54) (tgt := 73) cx dX9_alone_51 (by decide) rfl (fun c7 => ?_) (fun c7 => ?_)
        · replace hf := it_n c7 hf
          exact sw_lv [0, 1, 2, 3] rfl (B73 _ ih fi x2 x3 x4 hf)
        · replace hf := it_p c7 hf
          refine sw_iload_n (pc' := 55) (i := 3) cx dX9_alone_54 rfl 2 rfl rfl ?_
          refine sw_aload_n (pc' := 56) (i := 0) cx dX9_alone_55 rfl 0 rfl rfl ?_
          refine sw_get (pc' := 59) cx in_X9 0 rfl rfl 0 (Nat.le_of_ble_eq_true rfl) fl_RX9_32 rfl dX9_alone_56 rfl ?_
          refine sw_getN (pc' := 62) cx in_X4 1 rfl rfl 1 (Nat.le_of_ble_eq_true rfl) fn_RX9_72 rfl dX9_alone_59 rfl ?_
          refine sw_iload (pc' := 64) (i := 4) cx dX9_alone_62 3 rfl rfl ?_
          obtain ⟨h8, hf⟩ := gx_s hf
          refine sw_iald (pc' := 65) cx 2 0 rfl rfl h8 dX9_alone_64 rfl ?_
          refine sw_iload_n (pc' := 66) (i := 2) cx dX9_alone_65 rfl 1 rfl rfl ?_
          refine sw_iadd (pc' := 67) cx dX9_alone_66 rfl ?_
          refine sw_iconst (pc' := 68) (v := 1) cx dX9_alone_67 iconst_1 rfl ?_
          refine sw_isub (pc' := 69) cx dX9_alone_68 rfl ?_
          refine sw_iload_n (pc' := 70) (i := 2) cx dX9_alone_69 rfl 1 rfl rfl ?_
          obtain ⟨h9, hf⟩ := gz_s hf
          refine sw_idiv (pc' := 71) cx dX9_alone_70 h9 rfl ?_
          refine sw_iadd (pc' := 72) cx dX9_alone_71 rfl ?_
          refine sw_istore_n (pc' := 73) (i := 3) (lv' := [(3, .int (x3 + (((((mu.1 1) (x4).toNatClampNeg) + x2) - (1 : Int32)) / x2))), (0, .ref (g 0)), (2, .int x2), (4, .int x4)]) cx dX9_alone_72 rfl (Nat.le_of_ble_eq_true rfl) rfl rfl ?_
          exact sw_lv [1, 2, 0, 3] rfl (B73 _ ih fi x2 (x3 + (((((mu.1 1) (x4).toNatClampNeg) + x2) - (1 : Int32)) / x2)) x4 hf)
  unfold f_X9_alone at hf
  refine sw_aload_n (pc' := 1) (i := 0) cx dX9_alone_0 rfl 0 rfl rfl ?_
  refine sw_get (pc' := 4) cx in_X9 0 rfl rfl 0 (Nat.le_of_ble_eq_true rfl) fl_RX9_32 rfl dX9_alone_1 rfl ?_
  refine sw_iload_n (pc' := 5) (i := 1) cx dX9_alone_4 rfl 1 rfl rfl ?_
  obtain ⟨r1, hr1, hf⟩ := bd_s hf
  refine sw_callV (pc' := 8) (As := [.int a0]) (rest := []) cx (k_X4_hasFine l D m0 (g 5) ka cI cJ cK cS mu a0 r1 hr1) pk_yX4_hasFine ml_RX9_96 ⟨rfl, rfl⟩ ⟨(Nat.le_of_ble_eq_true rfl), (Nat.le_of_ble_eq_true rfl)⟩ ⟨(Nat.le_of_ble_eq_true rfl), (Nat.le_of_ble_eq_true rfl)⟩ [1, 2, 3, 4, 5, 6, 7, 8, 9, 10, 31, 32, 33, 34, 35, 36, 37] sx_C_mu sx_n_mu (mt_fst _ _ _ _ _ _ _) (wn := (sx_W g m0 m1 m2 ka sa sn cI cJ cK cS mu tr ke kp tby tlen ttok tsta tbeh tnum ttak sh fi)) sx_w_mu 0 rfl rfl rfl rfl (Nat.le_of_ble_eq_true rfl) rfl dX9_alone_5 rfl ?_
  refine sw_if_ne (pc' := 11) (tgt := 17) cx dX9_alone_8 (by decide) rfl (fun c2 => ?_) (fun c2 => ?_)
  · replace hf := it_n c2 hf
    refine sw_iconst (pc' := 18) (v := 1) cx dX9_alone_17 iconst_1 rfl ?_
    refine sw_aload_n (pc' := 19) (i := 0) cx dX9_alone_18 rfl 0 rfl rfl ?_
    refine sw_get (pc' := 22) cx in_X9 0 rfl rfl 0 (Nat.le_of_ble_eq_true rfl) fl_RX9_32 rfl dX9_alone_19 rfl ?_
    refine sw_iload_n (pc' := 23) (i := 1) cx dX9_alone_22 rfl 1 rfl rfl ?_
    obtain ⟨r3, hr3, hf⟩ := bd_s hf
    refine sw_callV (pc' := 26) (As := [.int a0]) (rest := [.int (1 : Int32)]) cx (k_X4_worksOf l D m0 (g 5) ka cI cJ cK cS mu a0 r3 hr3) pk_yX4_worksOf ml_RX9_114 ⟨rfl, rfl⟩ ⟨(Nat.le_of_ble_eq_true rfl), (Nat.le_of_ble_eq_true rfl)⟩ ⟨(Nat.le_of_ble_eq_true rfl), (Nat.le_of_ble_eq_true rfl)⟩ [1, 2, 3, 4, 5, 6, 7, 8, 9, 10, 31, 32, 33, 34, 35, 36, 37] sx_C_mu sx_n_mu (mt_fst _ _ _ _ _ _ _) (wn := (sx_W g m0 m1 m2 ka sa sn cI cJ cK cS mu tr ke kp tby tlen ttok tsta tbeh tnum ttak sh fi)) sx_w_mu 0 rfl rfl rfl rfl (Nat.le_of_ble_eq_true rfl) rfl dX9_alone_23 rfl ?_
    refine sw_mmax (pc' := 29) cx ml_RX9_196 stat_Lib_Math_max_name ini_RJ9 code_Lib_Math_max_name (Nat.le_of_ble_eq_true rfl) (Nat.le_of_ble_eq_true rfl) ⟨(Nat.le_of_ble_eq_true rfl), (Nat.le_of_ble_eq_true rfl)⟩ dX9_alone_26 rfl ?_
    refine sw_istore_n (pc' := 30) (i := 2) (lv' := [(2, .int (if (1 : Int32) < r3 then r3 else (1 : Int32))), (0, .ref (g 0)), (1, .int a0)]) cx dX9_alone_29 rfl (Nat.le_of_ble_eq_true rfl) rfl rfl ?_
    refine sw_iconst (pc' := 31) (v := 0) cx dX9_alone_30 iconst_0 rfl ?_
    refine sw_istore_n (pc' := 32) (i := 3) (lv' := [(3, .int (0 : Int32)), (2, .int (if (1 : Int32) < r3 then r3 else (1 : Int32))), (0, .ref (g 0)), (1, .int a0)]) cx dX9_alone_31 rfl (Nat.le_of_ble_eq_true rfl) rfl rfl ?_
    refine sw_iconst (pc' := 33) (v := 0) cx dX9_alone_32 iconst_0 rfl ?_
    refine sw_istore (pc' := 35) (i := 4) (lv' := [(4, .int (0 : Int32)), (3, .int (0 : Int32)), (2, .int (if (1 : Int32) < r3 then r3 else (1 : Int32))), (0, .ref (g 0)), (1, .int a0)]) cx dX9_alone_33 (Nat.le_of_ble_eq_true rfl) rfl rfl ?_
    exact sw_lv [3, 2, 1, 0] rfl (B35 1000 fi (if (1 : Int32) < r3 then r3 else (1 : Int32)) (0 : Int32) (0 : Int32) hf)
  · replace hf := it_p c2 hf
    refine sw_aload_n (pc' := 12) (i := 0) cx dX9_alone_11 rfl 0 rfl rfl ?_
    refine sw_iconst (pc' := 13) (v := 0) cx dX9_alone_12 iconst_0 rfl ?_
    obtain ⟨r4, hr4, hf⟩ := bd_s hf
    refine sw_callVw (pc' := 16) (As := [.int (0 : Int32)]) (rest := []) (w' := (sx_W g m0 m1 m2 ka sa sn cI cJ cK cS mu tr ke kp tby tlen ttok tsta tbeh tnum ttak sh r4.2)) cx (k_X9_found l D g m0 m1 m2 ka sa sn cI cJ cK cS mu tr ke kp tby tlen ttok tsta tbeh tnum ttak sh fi (0 : Int32) r4 hr4) pk_yX9_found ml_RX9_68 ⟨rfl, rfl⟩ ⟨(Nat.le_of_ble_eq_true rfl), (Nat.le_of_ble_eq_true rfl)⟩ ⟨(Nat.le_of_ble_eq_true rfl), (Nat.le_of_ble_eq_true rfl)⟩ 0 rfl rfl rfl rfl (Nat.le_of_ble_eq_true rfl) rfl dX9_alone_13 rfl ?_
    obtain rfl := Option.some.inj hf
    exact sw_iret cx hr hQ dX9_alone_16
