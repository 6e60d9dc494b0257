abbrev rm_X10_in : Room := ({ frames := 0, cells := 0, slots := 0, locals := 0 } : Room)
set_option maxRecDepth 100000 in
set_option maxHeartbeats 4000000 in
theorem k_X10_in (l : Launch) (D : sf_D) (h : Nat → Nat) (cI cJ cK cS : ClassId)  (a0 : Int32) (a1 : Int32) (a2 : Int32) (res : Int32) (hf : f_X10_in a0 a1 a2 = some res) : sf_Ct l yX10_in cX10_in 3 (some .boolean) rm_X10_in D (sf_ty cI cJ cK cS) [.int a0, .int a1, .int a2] [] (some (.int res)) [] := by
  refine sf_met (lv := [(0, .int a0), (1, .int a1), (2, .int a2)]) (by decide) (Nat.le_of_ble_eq_true rfl) rfl ?_
  intro p e s m args below meth c A Q cx hr hQ
  have cx : sf_Cx p m meth c cX10_in 3 s args RX10 D (sf_ty cI cJ cK cS) A := cx
  unfold f_X10_in at hf
  refine sw_iload_n (pc' := 1) (i := 0) cx dX10_in_0 rfl 0 rfl rfl ?_
  refine sw_iload_n (pc' := 2) (i := 1) cx dX10_in_1 rfl 1 rfl rfl ?_
  refine sw_icmp_lt (pc' := 5) (tgt := 14) cx dX10_in_2 (by decide) rfl (fun c1 => ?_) (fun c1 => ?_)
  · replace hf := it_p c1 hf
    refine sw_iconst (pc' := 15) (v := 0) cx dX10_in_14 iconst_0 rfl ?_
    obtain rfl := Option.some.inj hf
    exact sw_zret cx hr (by decide +kernel) hQ dX10_in_15
  · replace hf := it_n c1 hf
    refine sw_iload_n (pc' := 6) (i := 0) cx dX10_in_5 rfl 0 rfl rfl ?_
    refine sw_iload_n (pc' := 7) (i := 2) cx dX10_in_6 rfl 2 rfl rfl ?_
    refine sw_icmp_gt (pc' := 10) (tgt := 14) cx dX10_in_7 (by decide) rfl (fun c2 => ?_) (fun c2 => ?_)
    · replace hf := it_p c2 hf
      refine sw_iconst (pc' := 15) (v := 0) cx dX10_in_14 iconst_0 rfl ?_
      obtain rfl := Option.some.inj hf
      exact sw_zret cx hr (by decide +kernel) hQ dX10_in_15
    · replace hf := it_n c2 hf
      refine sw_iconst (pc' := 11) (v := 1) cx dX10_in_10 iconst_1 rfl ?_
      refine sw_goto (tgt := 15) cx dX10_in_11 (by decide) ?_
      obtain rfl := Option.some.inj hf
      exact sw_zret cx hr (by decide +kernel) hQ dX10_in_15
abbrev rm_X10_finds : Room := ({ frames := 0, cells := 0, slots := 0, locals := 0 } : Room)
set_option maxRecDepth 100000 in
set_option maxHeartbeats 4000000 in
theorem k_X10_finds (l : Launch) (D : sf_D) (h : Nat → Nat) (cI cJ cK cS : ClassId) (row : Nat → Int32) (att : Int32) (fnd : Nat → Int32) (tape : Nat → Int32) (tmany : Int32) (sort : Int32) (begs : Int32) (tends : Int32) (word : Int64) (valu : Int32) (good : Int32) (bits : Nat → Int32) (size : Nat → Int32) (shts : Nat → Int64) (lent : Nat → Int64) (imag : Nat → Int32) (befo : Nat → Int32) (kept : Int32) (a0 : Int32) (res : Int32 × (Nat → Int32)) (hf : f_X10_finds fnd a0 = some res) : sf_Ct l yX10_finds cX10_finds 2 (some .int) rm_X10_finds D (sf_ty cI cJ cK cS) [.ref (h 0), .int a0] (mo_W h cI cJ row att fnd tape tmany sort begs tends word valu good bits size shts lent imag befo kept) (some (.int res.1)) (mo_W h cI cJ row att res.2 tape tmany sort begs tends word valu good bits size shts lent imag befo kept) := by
  refine sf_met (lv := [(0, .ref (h 0)), (1, .int a0)]) (by decide) (Nat.le_of_ble_eq_true rfl) rfl ?_
  intro p e s m args below meth c A Q cx hr hQ
  have cx : sf_Cx p m meth c cX10_finds 2 s args RX10 D (sf_ty cI cJ cK cS) A := cx
  unfold f_X10_finds at hf
  refine sw_aload_n (pc' := 1) (i := 0) cx dX10_finds_0 rfl 0 rfl rfl ?_
  refine sw_get (pc' := 4) cx in_X10 0 rfl rfl 2 (Nat.le_of_ble_eq_true rfl) fl_RX10_13 rfl dX10_finds_1 rfl ?_
  refine sw_ldc (pc' := 6) cx ct_RX10_38 dX10_finds_4 rfl ?_
  refine sw_iload_n (pc' := 7) (i := 1) cx dX10_finds_6 rfl 1 rfl rfl ?_
  refine sw_isub (pc' := 8) cx dX10_finds_7 rfl ?_
  refine sw_dup2 (pc' := 9) cx dX10_finds_8 rfl rfl rfl ?_
  obtain ⟨h1, hf⟩ := gx_s hf
  refine sw_iald (pc' := 10) cx 2 0 rfl rfl h1 dX10_finds_9 rfl ?_
  refine sw_iconst (pc' := 11) (v := 1) cx dX10_finds_10 iconst_1 rfl ?_
  refine sw_iadd (pc' := 12) cx dX10_finds_11 rfl ?_
  obtain ⟨h2, hf⟩ := gx_s hf
  refine sw_iast (pc' := 13) (ws' := (mo_W h cI cJ row att (upd fnd (((-1000000001 : Int32) - a0)).toNatClampNeg ((fnd (((-1000000001 : Int32) - a0)).toNatClampNeg) + (1 : Int32))) tape tmany sort begs tends word valu good bits size shts lent imag befo kept)) cx 2 0 rfl rfl h2 dX10_finds_12 rfl rfl ?_
  refine sw_iload_n (pc' := 14) (i := 1) cx dX10_finds_13 rfl 1 rfl rfl ?_
  obtain rfl := Option.some.inj hf
  exact sw_iret cx hr hQ dX10_finds_14
abbrev rm_X10_its : Room := ({ frames := 0, cells := 0, slots := 0, locals := 0 } : Room)
set_option maxRecDepth 100000 in
set_option maxHeartbeats 4000000 in
theorem k_X10_its (l : Launch) (D : sf_D) (h : Nat → Nat) (cI cJ cK cS : ClassId) (row : Nat → Int32) (att : Int32) (fnd : Nat → Int32) (tape : Nat → Int32) (tmany : Int32) (sort : Int32) (begs : Int32) (tends : Int32) (word : Int64) (valu : Int32) (good : Int32) (bits : Nat → Int32) (size : Nat → Int32) (shts : Nat → Int64) (lent : Nat → Int64) (imag : Nat → Int32) (befo : Nat → Int32) (kept : Int32) (a0 : Int32) (res : Int32) (hf : f_X10_its row att a0 = some res) : sf_Ct l yX10_its cX10_its 2 (some .int) rm_X10_its D (sf_ty cI cJ cK cS) [.ref (h 0), .int a0] (mo_W h cI cJ row att fnd tape tmany sort begs tends word valu good bits size shts lent imag befo kept) (some (.int res)) (mo_W h cI cJ row att fnd tape tmany sort begs tends word valu good bits size shts lent imag befo kept) := by
  refine sf_met (lv := [(0, .ref (h 0)), (1, .int a0)]) (by decide) (Nat.le_of_ble_eq_true rfl) rfl ?_
  intro p e s m args below meth c A Q cx hr hQ
  have cx : sf_Cx p m meth c cX10_its 2 s args RX10 D (sf_ty cI cJ cK cS) A := cx
  unfold f_X10_its at hf
  refine sw_aload_n (pc' := 1) (i := 0) cx dX10_its_0 rfl 0 rfl rfl ?_
  refine sw_get (pc' := 4) cx in_X10 0 rfl rfl 0 (Nat.le_of_ble_eq_true rfl) fl_RX10_7 rfl dX10_its_1 rfl ?_
  refine sw_aload_n (pc' := 5) (i := 0) cx dX10_its_4 rfl 0 rfl rfl ?_
  refine sw_get (pc' := 8) cx in_X10 0 rfl rfl 1 (Nat.le_of_ble_eq_true rfl) fl_RX10_39 rfl dX10_its_5 rfl ?_
  refine sw_iload_n (pc' := 9) (i := 1) cx dX10_its_8 rfl 1 rfl rfl ?_
  refine sw_iadd (pc' := 10) cx dX10_its_9 rfl ?_
  obtain ⟨h1, hf⟩ := gx_s hf
  refine sw_iald (pc' := 11) cx 1 0 rfl rfl h1 dX10_its_10 rfl ?_
  obtain rfl := Option.some.inj hf
  exact sw_iret cx hr hQ dX10_its_11
abbrev rm_X10_fineOf : Room := ({ frames := 0, cells := 0, slots := 0, locals := 0 } : Room)
set_option maxRecDepth 100000 in
set_option maxHeartbeats 4000000 in
theorem k_X10_fineOf (l : Launch) (D : sf_D) (h : Nat → Nat) (cI cJ cK cS : ClassId) (row : Nat → Int32) (att : Int32) (fnd : Nat → Int32) (tape : Nat → Int32) (tmany : Int32) (sort : Int32) (begs : Int32) (tends : Int32) (word : Int64) (valu : Int32) (good : Int32) (bits : Nat → Int32) (size : Nat → Int32) (shts : Nat → Int64) (lent : Nat → Int64) (imag : Nat → Int32) (befo : Nat → Int32) (kept : Int32) (a0 : Int32) (a1 : Int32) (res : Int32) (hf : f_X10_fineOf row att a0 a1 = some res) : sf_Ct l yX10_fineOf cX10_fineOf 3 (some .int) rm_X10_fineOf D (sf_ty cI cJ cK cS) [.ref (h 0), .int a0, .int a1] (mo_W h cI cJ row att fnd tape tmany sort begs tends word valu good bits size shts lent imag befo kept) (some (.int res)) (mo_W h cI cJ row att fnd tape tmany sort begs tends word valu good bits size shts lent imag befo kept) := by
  refine sf_met (lv := [(0, .ref (h 0)), (1, .int a0), (2, .int a1)]) (by decide) (Nat.le_of_ble_eq_true rfl) rfl ?_
  intro p e s m args below meth c A Q cx hr hQ
  have cx : sf_Cx p m meth c cX10_fineOf 3 s args RX10 D (sf_ty cI cJ cK cS) A := cx
  unfold f_X10_fineOf at hf
  refine sw_aload_n (pc' := 1) (i := 0) cx dX10_fineOf_0 rfl 0 rfl rfl ?_
  refine sw_get (pc' := 4) cx in_X10 0 rfl rfl 0 (Nat.le_of_ble_eq_true rfl) fl_RX10_7 rfl dX10_fineOf_1 rfl ?_
  refine sw_aload_n (pc' := 5) (i := 0) cx dX10_fineOf_4 rfl 0 rfl rfl ?_
  refine sw_get (pc' := 8) cx in_X10 0 rfl rfl 1 (Nat.le_of_ble_eq_true rfl) fl_RX10_39 rfl dX10_fineOf_5 rfl ?_
  refine sw_sipush (pc' := 11) (v := 205) cx dX10_fineOf_8 sipush_205 rfl ?_
  refine sw_iadd (pc' := 12) cx dX10_fineOf_11 rfl ?_
  refine sw_iconst (pc' := 13) (v := 5) cx dX10_fineOf_12 iconst_5 rfl ?_
  refine sw_iload_n (pc' := 14) (i := 1) cx dX10_fineOf_13 rfl 1 rfl rfl ?_
  refine sw_imul (pc' := 15) cx dX10_fineOf_14 rfl ?_
  refine sw_iadd (pc' := 16) cx dX10_fineOf_15 rfl ?_
  refine sw_iload_n (pc' := 17) (i := 2) cx dX10_fineOf_16 rfl 2 rfl rfl ?_
  refine sw_iadd (pc' := 18) cx dX10_fineOf_17 rfl ?_
  obtain ⟨h1, hf⟩ := gx_s hf
  refine sw_iald (pc' := 19) cx 1 0 rfl rfl h1 dX10_fineOf_18 rfl ?_
  obtain rfl := Option.some.inj hf
  exact sw_iret cx hr hQ dX10_fineOf_19
abbrev rm_X10_sets : Room := ({ frames := 0, cells := 0, slots := 0, locals := 0 } : Room)
set_option maxRecDepth 100000 in
set_option maxHeartbeats 4000000 in
theorem k_X10_sets (l : Launch) (D : sf_D) (h : Nat → Nat) (cI cJ cK cS : ClassId) (row : Nat → Int32) (att : Int32) (fnd : Nat → Int32) (tape : Nat → Int32) (tmany : Int32) (sort : Int32) (begs : Int32) (tends : Int32) (word : Int64) (valu : Int32) (good : Int32) (bits : Nat → Int32) (size : Nat → Int32) (shts : Nat → Int64) (lent : Nat → Int64) (imag : Nat → Int32) (befo : Nat → Int32) (kept : Int32) (a0 : Int32) (a1 : Int32) (a2 : Int32) (res : (Nat → Int32)) (hf : f_X10_sets row att a0 a1 a2 = some res) : sf_Ct l yX10_sets cX10_sets 4 none rm_X10_sets D (sf_ty cI cJ cK cS) [.ref (h 0), .int a0, .int a1, .int a2] (mo_W h cI cJ row att fnd tape tmany sort begs tends word valu good bits size shts lent imag befo kept) none (mo_W h cI cJ res att fnd tape tmany sort begs tends word valu good bits size shts lent imag befo kept) := by
  refine sf_met (lv := [(0, .ref (h 0)), (1, .int a0), (2, .int a1), (3, .int a2)]) (by decide) (Nat.le_of_ble_eq_true rfl) rfl ?_
  intro p e s m args below meth c A Q cx hr hQ
  have cx : sf_Cx p m meth c cX10_sets 4 s args RX10 D (sf_ty cI cJ cK cS) A := cx
  unfold f_X10_sets at hf
  refine sw_aload_n (pc' := 1) (i := 0) cx dX10_sets_0 rfl 0 rfl rfl ?_
  refine sw_get (pc' := 4) cx in_X10 0 rfl rfl 0 (Nat.le_of_ble_eq_true rfl) fl_RX10_7 rfl dX10_sets_1 rfl ?_
  refine sw_aload_n (pc' := 5) (i := 0) cx dX10_sets_4 rfl 0 rfl rfl ?_
  refine sw_get (pc' := 8) cx in_X10 0 rfl rfl 1 (Nat.le_of_ble_eq_true rfl) fl_RX10_39 rfl dX10_sets_5 rfl ?_
  refine sw_sipush (pc' := 11) (v := 205) cx dX10_sets_8 sipush_205 rfl ?_
  refine sw_iadd (pc' := 12) cx dX10_sets_11 rfl ?_
  refine sw_iconst (pc' := 13) (v := 5) cx dX10_sets_12 iconst_5 rfl ?_
  refine sw_iload_n (pc' := 14) (i := 1) cx dX10_sets_13 rfl 1 rfl rfl ?_
  refine sw_imul (pc' := 15) cx dX10_sets_14 rfl ?_
  refine sw_iadd (pc' := 16) cx dX10_sets_15 rfl ?_
  refine sw_iload_n (pc' := 17) (i := 2) cx dX10_sets_16 rfl 2 rfl rfl ?_
  refine sw_iadd (pc' := 18) cx dX10_sets_17 rfl ?_
  refine sw_iload_n (pc' := 19) (i := 3) cx dX10_sets_18 rfl 3 rfl rfl ?_
  obtain ⟨h1, hf⟩ := gx_s hf
  refine sw_iast (pc' := 20) (ws' := (mo_W h cI cJ (upd row ((((att + (205 : Int32)) + ((5 : Int32) * a0)) + a1)).toNatClampNeg a2) att fnd tape tmany sort begs tends word valu good bits size shts lent imag befo kept)) cx 1 0 rfl rfl h1 dX10_sets_19 rfl rfl ?_
  obtain rfl := Option.some.inj hf
  exact sw_vret cx hr hQ dX10_sets_20
abbrev rm_X10_isFine : Room := ({ frames := 1, cells := 0, slots := 0, locals := 22 } : Room)
set_option maxRecDepth 100000 in
set_option maxHeartbeats 4000000 in
theorem k_X10_isFine (l : Launch) (D : sf_D) (h : Nat → Nat) (cI cJ cK cS : ClassId) (row : Nat → Int32) (att : Int32) (fnd : Nat → Int32) (tape : Nat → Int32) (tmany : Int32) (sort : Int32) (begs : Int32) (tends : Int32) (word : Int64) (valu : Int32) (good : Int32) (bits : Nat → Int32) (size : Nat → Int32) (shts : Nat → Int64) (lent : Nat → Int64) (imag : Nat → Int32) (befo : Nat → Int32) (kept : Int32) (a0 : Int32) (res : Int32) (hf : f_X10_isFine row att a0 = some res) : sf_Ct l yX10_isFine cX10_isFine 2 (some .boolean) rm_X10_isFine D (sf_ty cI cJ cK cS) [.ref (h 0), .int a0] (mo_W h cI cJ row att fnd tape tmany sort begs tends word valu good bits size shts lent imag befo kept) (some (.int res)) (mo_W h cI cJ row att fnd tape tmany sort begs tends word valu good bits size shts lent imag befo kept) := by
  refine sf_met (lv := [(0, .ref (h 0)), (1, .int a0)]) (by decide) (Nat.le_of_ble_eq_true rfl) rfl ?_
  intro p e s m args below meth c A Q cx hr hQ
  have cx : sf_Cx p m meth c cX10_isFine 2 s args RX10 D (sf_ty cI cJ cK cS) A := cx
  unfold f_X10_isFine at hf
  refine sw_iload_n (pc' := 1) (i := 1) cx dX10_isFine_0 rfl 1 rfl rfl ?_
  refine sw_iconst (pc' := 2) (v := 0) cx dX10_isFine_1 iconst_0 rfl ?_
  refine sw_aload_n (pc' := 3) (i := 0) cx dX10_isFine_2 rfl 0 rfl rfl ?_
  refine sw_iconst (pc' := 4) (v := 4) cx dX10_isFine_3 iconst_4 rfl ?_
  obtain ⟨r1, hr1, hf⟩ := bd_s hf
  refine sw_callVw (pc' := 7) (As := [.int (4 : Int32)]) (rest := [.int (0 : Int32), .int a0]) (w' := (mo_W h cI cJ row att fnd tape tmany sort begs tends word valu good bits size shts lent imag befo kept)) cx (k_X10_its l D h cI cJ cK cS row att fnd tape tmany sort begs tends word valu good bits size shts lent imag befo kept (4 : Int32) r1 hr1) pk_yX10_its ml_RX10_43 ⟨rfl, rfl⟩ ⟨(Nat.le_of_ble_eq_true rfl), (Nat.le_of_ble_eq_true rfl)⟩ ⟨(Nat.le_of_ble_eq_true rfl), (Nat.le_of_ble_eq_true rfl)⟩ 0 rfl rfl rfl rfl (Nat.le_of_ble_eq_true rfl) rfl dX10_isFine_4 rfl ?_
  refine sw_iconst (pc' := 8) (v := 1) cx dX10_isFine_7 iconst_1 rfl ?_
  refine sw_isub (pc' := 9) cx dX10_isFine_8 rfl ?_
  obtain ⟨r2, hr2, hf⟩ := bd_s hf
  refine sw_callS (pc' := 12) (As := [.int a0, .int (0 : Int32), .int (r1 - (1 : Int32))]) (rest := []) cx (k_X10_in l D h cI cJ cK cS a0 (0 : Int32) (r1 - (1 : Int32)) r2 hr2) pk_yX10_in ml_RX10_47 ⟨rfl, rfl⟩ ⟨(Nat.le_of_ble_eq_true rfl), (Nat.le_of_ble_eq_true rfl)⟩ ⟨(Nat.le_of_ble_eq_true rfl), (Nat.le_of_ble_eq_true rfl)⟩ [] rfl rfl rfl (wn := (mo_W h cI cJ row att fnd tape tmany sort begs tends word valu good bits size shts lent imag befo kept)) rfl rfl (Nat.le_of_ble_eq_true rfl) rfl dX10_isFine_9 rfl ?_
  obtain ⟨h3, hf⟩ := gb_s hf
  obtain rfl := Option.some.inj hf
  exact sw_zret cx hr h3.1 hQ dX10_isFine_12
abbrev rm_X10_isPlace : Room := ({ frames := 1, cells := 0, slots := 0, locals := 22 } : Room)
set_option maxRecDepth 100000 in
set_option maxHeartbeats 4000000 in
theorem k_X10_isPlace (l : Launch) (D : sf_D) (h : Nat → Nat) (cI cJ cK cS : ClassId)  (a0 : Int32) (res : Int32) (hf : f_X10_isPlace a0 = some res) : sf_Ct l yX10_isPlace cX10_isPlace 1 (some .boolean) rm_X10_isPlace D (sf_ty cI cJ cK cS) [.int a0] [] (some (.int res)) [] := by
  refine sf_met (lv := [(0, .int a0)]) (by decide) (Nat.le_of_ble_eq_true rfl) rfl ?_
  intro p e s m args below meth c A Q cx hr hQ
  have cx : sf_Cx p m meth c cX10_isPlace 1 s args RX10 D (sf_ty cI cJ cK cS) A := cx
  unfold f_X10_isPlace at hf
  refine sw_iload_n (pc' := 1) (i := 0) cx dX10_isPlace_0 rfl 0 rfl rfl ?_
  refine sw_iconst (pc' := 2) (v := 0) cx dX10_isPlace_1 iconst_0 rfl ?_
  refine sw_bipush (pc' := 4) (v := 39) cx dX10_isPlace_2 bipush_39 rfl ?_
  obtain ⟨r1, hr1, hf⟩ := bd_s hf
  refine sw_callS (pc' := 7) (As := [.int a0, .int (0 : Int32), .int (39 : Int32)]) (rest := []) cx (k_X10_in l D h cI cJ cK cS a0 (0 : Int32) (39 : Int32) r1 hr1) pk_yX10_in ml_RX10_47 ⟨rfl, rfl⟩ ⟨(Nat.le_of_ble_eq_true rfl), (Nat.le_of_ble_eq_true rfl)⟩ ⟨(Nat.le_of_ble_eq_true rfl), (Nat.le_of_ble_eq_true rfl)⟩ [] rfl rfl rfl (wn := []) rfl rfl (Nat.le_of_ble_eq_true rfl) rfl dX10_isPlace_4 rfl ?_
  obtain ⟨h2, hf⟩ := gb_s hf
  obtain rfl := Option.some.inj hf
  exact sw_zret cx hr h2.1 hQ dX10_isPlace_7
abbrev rm_X10_isKind : Room := ({ frames := 1, cells := 0, slots := 0, locals := 22 } : Room)
set_option maxRecDepth 100000 in
set_option maxHeartbeats 4000000 in
theorem k_X10_isKind (l : Launch) (D : sf_D) (h : Nat → Nat) (cI cJ cK cS : ClassId)  (a0 : Int32) (res : Int32) (hf : f_X10_isKind a0 = some res) : sf_Ct l yX10_isKind cX10_isKind 1 (some .boolean) rm_X10_isKind D (sf_ty cI cJ cK cS) [.int a0] [] (some (.int res)) [] := by
  refine sf_met (lv := [(0, .int a0)]) (by decide) (Nat.le_of_ble_eq_true rfl) rfl ?_
  intro p e s m args below meth c A Q cx hr hQ
  have cx : sf_Cx p m meth c cX10_isKind 1 s args RX10 D (sf_ty cI cJ cK cS) A := cx
  unfold f_X10_isKind at hf
  refine sw_iload_n (pc' := 1) (i := 0) cx dX10_isKind_0 rfl 0 rfl rfl ?_
  refine sw_iconst (pc' := 2) (v := 0) cx dX10_isKind_1 iconst_0 rfl ?_
  refine sw_iconst (pc' := 3) (v := 5) cx dX10_isKind_2 iconst_5 rfl ?_
  obtain ⟨r1, hr1, hf⟩ := bd_s hf
  refine sw_callS (pc' := 6) (As := [.int a0, .int (0 : Int32), .int (5 : Int32)]) (rest := []) cx (k_X10_in l D h cI cJ cK cS a0 (0 : Int32) (5 : Int32) r1 hr1) pk_yX10_in ml_RX10_47 ⟨rfl, rfl⟩ ⟨(Nat.le_of_ble_eq_true rfl), (Nat.le_of_ble_eq_true rfl)⟩ ⟨(Nat.le_of_ble_eq_true rfl), (Nat.le_of_ble_eq_true rfl)⟩ [] rfl rfl rfl (wn := []) rfl rfl (Nat.le_of_ble_eq_true rfl) rfl dX10_isKind_3 rfl ?_
  obtain ⟨h2, hf⟩ := gb_s hf
  obtain rfl := Option.some.inj hf
  exact sw_zret cx hr h2.1 hQ dX10_isKind_6
abbrev rm_X10_isWhole : Room := ({ frames := 1, cells := 0, slots := 0, locals := 21 } : Room)
set_option maxRecDepth 100000 in
set_option maxHeartbeats 4000000 in
theorem k_X10_isWhole (l : Launch) (D : sf_D) (h : Nat → Nat) (cI cJ cK cS : ClassId) (row : Nat → Int32) (att : Int32) (fnd : Nat → Int32) (tape : Nat → Int32) (tmany : Int32) (sort : Int32) (begs : Int32) (tends : Int32) (word : Int64) (valu : Int32) (good : Int32) (bits : Nat → Int32) (size : Nat → Int32) (shts : Nat → Int64) (lent : Nat → Int64) (imag : Nat → Int32) (befo : Nat → Int32) (kept : Int32) (a0 : Int32) (res : Int32) (hf : f_X10_isWhole row att a0 = some res) : sf_Ct l yX10_isWhole cX10_isWhole 2 (some .boolean) rm_X10_isWhole D (sf_ty cI cJ cK cS) [.ref (h 0), .int a0] (mo_W h cI cJ row att fnd tape tmany sort begs tends word valu good bits size shts lent imag befo kept) (some (.int res)) (mo_W h cI cJ row att fnd tape tmany sort begs tends word valu good bits size shts lent imag befo kept) := by
  refine sf_met (lv := [(0, .ref (h 0)), (1, .int a0)]) (by decide) (Nat.le_of_ble_eq_true rfl) rfl ?_
  intro p e s m args below meth c A Q cx hr hQ
  have cx : sf_Cx p m meth c cX10_isWhole 2 s args RX10 D (sf_ty cI cJ cK cS) A := cx
  unfold f_X10_isWhole at hf
  refine sw_aload_n (pc' := 1) (i := 0) cx dX10_isWhole_0 rfl 0 rfl rfl ?_
  refine sw_bipush (pc' := 3) (v := 45) cx dX10_isWhole_1 bipush_45 rfl ?_
  refine sw_iload_n (pc' := 4) (i := 1) cx dX10_isWhole_3 rfl 1 rfl rfl ?_
  refine sw_iadd (pc' := 5) cx dX10_isWhole_4 rfl ?_
  obtain ⟨r1, hr1, hf⟩ := bd_s hf
  refine sw_callVw (pc' := 8) (As := [.int ((45 : Int32) + a0)]) (rest := []) (w' := (mo_W h cI cJ row att fnd tape tmany sort begs tends word valu good bits size shts lent imag befo kept)) cx (k_X10_its l D h cI cJ cK cS row att fnd tape tmany sort begs tends word valu good bits size shts lent imag befo kept ((45 : Int32) + a0) r1 hr1) pk_yX10_its ml_RX10_43 ⟨rfl, rfl⟩ ⟨(Nat.le_of_ble_eq_true rfl), (Nat.le_of_ble_eq_true rfl)⟩ ⟨(Nat.le_of_ble_eq_true rfl), (Nat.le_of_ble_eq_true rfl)⟩ 0 rfl rfl rfl rfl (Nat.le_of_ble_eq_true rfl) rfl dX10_isWhole_5 rfl ?_
  refine sw_iconst (pc' := 9) (v := 1) cx dX10_isWhole_8 iconst_1 rfl ?_
  refine sw_icmp_ne (pc' := 12) (tgt := 16) cx dX10_isWhole_9 (by decide) rfl (fun c2 => ?_) (fun c2 => ?_)
  · replace hf := it_n c2 hf
    refine sw_iconst (pc' := 17) (v := 0) cx dX10_isWhole_16 iconst_0 rfl ?_
    obtain rfl := Option.some.inj hf
    exact sw_zret cx hr (by decide +kernel) hQ dX10_isWhole_17
  · replace hf := it_p c2 hf
    refine sw_iconst (pc' := 13) (v := 1) cx dX10_isWhole_12 iconst_1 rfl ?_
    refine sw_goto (tgt := 17) cx dX10_isWhole_13 (by decide) ?_
    obtain rfl := Option.some.inj hf
    exact sw_zret cx hr (by decide +kernel) hQ dX10_isWhole_17
abbrev rm_X10_wholes : Room := ({ frames := 1, cells := 0, slots := 0, locals := 21 } : Room)
set_option maxRecDepth 100000 in
set_option maxHeartbeats 4000000 in
theorem k_X10_wholes (l : Launch) (D : sf_D) (h : Nat → Nat) (cI cJ cK cS : ClassId) (row : Nat → Int32) (att : Int32) (fnd : Nat → Int32) (tape : Nat → Int32) (tmany : Int32) (sort : Int32) (begs : Int32) (tends : Int32) (word : Int64) (valu : Int32) (good : Int32) (bits : Nat → Int32) (size : Nat → Int32) (shts : Nat → Int64) (lent : Nat → Int64) (imag : Nat → Int32) (befo : Nat → Int32) (kept : Int32)  (res : Int32) (hf : f_X10_wholes row att = some res) : sf_Ct l yX10_wholes cX10_wholes 3 (some .int) rm_X10_wholes D (sf_ty cI cJ cK cS) [.ref (h 0)] (mo_W h cI cJ row att fnd tape tmany sort begs tends word valu good bits size shts lent imag befo kept) (some (.int res)) (mo_W h cI cJ row att fnd tape tmany sort begs tends word valu good bits size shts lent imag befo kept) := by
  refine sf_met (lv := [(0, .ref (h 0))]) (by decide) (Nat.le_of_ble_eq_true rfl) rfl ?_
  intro p e s m args below meth c A Q cx hr hQ
  have cx : sf_Cx p m meth c cX10_wholes 3 s args RX10 D (sf_ty cI cJ cK cS) A := cx
  have B4 : ∀ (n : Nat), ∀ (x1 : Int32) (x2 : Int32), f_X10_wholes_b4 row att n x1 x2 = some res → sf_W p l e rm_X10_wholes s m args below meth c 0 0 Q 3 D A (mo_W h cI cJ row att fnd tape tmany sort begs tends word valu good bits size shts lent imag befo kept) [(0, .ref (h 0)), (1, .int x1), (2, .int x2)] 4 [] := by
    intro n
    induction n with
    | zero => intro x1 x2 hf; rw [f_X10_wholes_b4] at hf; cases hf
    | succ n ih =>
      intro x1 x2 hf
      rw [f_X10_wholes_b4] at hf
      refine sw_iload_n (pc' := 5) (i := 2) cx dX10_wholes_4 rfl 2 rfl rfl ?_
      refine sw_bipush (pc' := 7) (v := 40) cx dX10_wholes_5 bipush_40 rfl ?_
      refine sw_icmp_ge (pc' := 10) (tgt := 27) cx dX10_wholes_7 (by decide) rfl (fun c1 => ?_) (fun c1 => ?_)
      · replace hf := it_p c1 hf
        refine sw_iload_n (pc' := 28) (i := 1) cx dX10_wholes_27 rfl 1 rfl rfl ?_
        obtain rfl := Option.some.inj hf
        exact sw_iret cx hr hQ dX10_wholes_28
      · replace hf := it_n c1 hf
        refine sw_iload_n (pc' := 11) (i := 1) cx dX10_wholes_10 rfl 1 rfl rfl ?_
        refine sw_aload_n (pc' := 12) (i := 0) cx dX10_wholes_11 rfl 0 rfl rfl ?_
        refine sw_bipush (pc' := 14) (v := 45) cx dX10_wholes_12 bipush_45 rfl ?_
        refine sw_iload_n (pc' := 15) (i := 2) cx dX10_wholes_14 rfl 2 rfl rfl ?_
        refine sw_iadd (pc' := 16) cx dX10_wholes_15 rfl ?_
        obtain ⟨r2, hr2, hf⟩ := bd_s hf
        refine sw_callVw (pc' := 19) (As := [.int ((45 : Int32) + x2)]) (rest := [.int x1]) (w' := (mo_W h cI cJ row att fnd tape tmany sort begs tends word valu good bits size shts lent imag befo kept)) cx (k_X10_its l D h cI cJ cK cS row att fnd tape tmany sort begs tends word valu good bits size shts lent imag befo kept ((45 : Int32) + x2) r2 hr2) pk_yX10_its ml_RX10_43 ⟨rfl, rfl⟩ ⟨(Nat.le_of_ble_eq_true rfl), (Nat.le_of_ble_eq_true rfl)⟩ ⟨(Nat.le_of_ble_eq_true rfl), (Nat.le_of_ble_eq_true rfl)⟩ 0 rfl rfl rfl rfl (Nat.le_of_ble_eq_true rfl) rfl dX10_wholes_16 rfl ?_
        refine sw_iadd (pc' := 20) cx dX10_wholes_19 rfl ?_
        refine sw_istore_n (pc' := 21) (i := 1) (lv' := [(1, .int (x1 + r2)), (0, .ref (h 0)), (2, .int x2)]) cx dX10_wholes_20 rfl (Nat.le_of_ble_eq_true rfl) rfl rfl ?_
        refine sw_iinc (pc' := 24) (v := (x2 + (1 : Int32))) (lv' := [(2, .int (x2 + (1 : Int32))), (1, .int (x1 + r2)), (0, .ref (h 0))]) cx dX10_wholes_21 2 rfl rfl (Nat.le_of_ble_eq_true rfl) rfl rfl ?_
        refine sw_goto (tgt := 4) cx dX10_wholes_24 (by decide) ?_
        exact sw_lv [2, 1, 0] rfl (ih (x1 + r2) (x2 + (1 : Int32)) hf)
  unfold f_X10_wholes at hf
  refine sw_iconst (pc' := 1) (v := 0) cx dX10_wholes_0 iconst_0 rfl ?_
  refine sw_istore_n (pc' := 2) (i := 1) (lv' := [(1, .int (0 : Int32)), (0, .ref (h 0))]) cx dX10_wholes_1 rfl (Nat.le_of_ble_eq_true rfl) rfl rfl ?_
  refine sw_iconst (pc' := 3) (v := 0) cx dX10_wholes_2 iconst_0 rfl ?_
  refine sw_istore_n (pc' := 4) (i := 2) (lv' := [(2, .int (0 : Int32)), (1, .int (0 : Int32)), (0, .ref (h 0))]) cx dX10_wholes_3 rfl (Nat.le_of_ble_eq_true rfl) rfl rfl ?_
  exact sw_lv [2, 1, 0] rfl (B4 1000 (0 : Int32) (0 : Int32) hf)
abbrev rm_X10_works : Room := ({ frames := 2, cells := 0, slots := 0, locals := 43 } : Room)
set_option maxRecDepth 100000 in
set_option maxHeartbeats 4000000 in
theorem k_X10_works (l : Launch) (D : sf_D) (h : Nat → Nat) (cI cJ cK cS : ClassId) (row : Nat → Int32) (att : Int32) (fnd : Nat → Int32) (tape : Nat → Int32) (tmany : Int32) (sort : Int32) (begs : Int32) (tends : Int32) (word : Int64) (valu : Int32) (good : Int32) (bits : Nat → Int32) (size : Nat → Int32) (shts : Nat → Int64) (lent : Nat → Int64) (imag : Nat → Int32) (befo : Nat → Int32) (kept : Int32) (a0 : Int32) (res : Int32) (hf : f_X10_works row att a0 = some res) : sf_Ct l yX10_works cX10_works 3 (some .int) rm_X10_works D (sf_ty cI cJ cK cS) [.ref (h 0), .int a0] (mo_W h cI cJ row att fnd tape tmany sort begs tends word valu good bits size shts lent imag befo kept) (some (.int res)) (mo_W h cI cJ row att fnd tape tmany sort begs tends word valu good bits size shts lent imag befo kept) := by
  refine sf_met (lv := [(0, .ref (h 0)), (1, .int a0)]) (by decide) (Nat.le_of_ble_eq_true rfl) rfl ?_
  intro p e s m args below meth c A Q cx hr hQ
  have cx : sf_Cx p m meth c cX10_works 3 s args RX10 D (sf_ty cI cJ cK cS) A := cx
  unfold f_X10_works at hf
  refine sw_aload_n (pc' := 1) (i := 0) cx dX10_works_0 rfl 0 rfl rfl ?_
  refine sw_iload_n (pc' := 2) (i := 1) cx dX10_works_1 rfl 1 rfl rfl ?_
  refine sw_iconst (pc' := 3) (v := 3) cx dX10_works_2 iconst_3 rfl ?_
  obtain ⟨r1, hr1, hf⟩ := bd_s hf
  refine sw_callVw (pc' := 6) (As := [.int a0, .int (3 : Int32)]) (rest := []) (w' := (mo_W h cI cJ row att fnd tape tmany sort begs tends word valu good bits size shts lent imag befo kept)) cx (k_X10_fineOf l D h cI cJ cK cS row att fnd tape tmany sort begs tends word valu good bits size shts lent imag befo kept a0 (3 : Int32) r1 hr1) pk_yX10_fineOf ml_RX10_51 ⟨rfl, rfl⟩ ⟨(Nat.le_of_ble_eq_true rfl), (Nat.le_of_ble_eq_true rfl)⟩ ⟨(Nat.le_of_ble_eq_true rfl), (Nat.le_of_ble_eq_true rfl)⟩ 0 rfl rfl rfl rfl (Nat.le_of_ble_eq_true rfl) rfl dX10_works_3 rfl ?_
  refine sw_istore_n (pc' := 7) (i := 2) (lv' := [(2, .int r1), (0, .ref (h 0)), (1, .int a0)]) cx dX10_works_6 rfl (Nat.le_of_ble_eq_true rfl) rfl rfl ?_
  refine sw_aload_n (pc' := 8) (i := 0) cx dX10_works_7 rfl 1 rfl rfl ?_
  refine sw_iload_n (pc' := 9) (i := 1) cx dX10_works_8 rfl 2 rfl rfl ?_
  refine sw_iconst (pc' := 10) (v := 0) cx dX10_works_9 iconst_0 rfl ?_
  obtain ⟨r2, hr2, hf⟩ := bd_s hf
  refine sw_callVw (pc' := 13) (As := [.int a0, .int (0 : Int32)]) (rest := []) (w' := (mo_W h cI cJ row att fnd tape tmany sort begs tends word valu good bits size shts lent imag befo kept)) cx (k_X10_fineOf l D h cI cJ cK cS row att fnd tape tmany sort begs tends word valu good bits size shts lent imag befo kept a0 (0 : Int32) r2 hr2) pk_yX10_fineOf ml_RX10_51 ⟨rfl, rfl⟩ ⟨(Nat.le_of_ble_eq_true rfl), (Nat.le_of_ble_eq_true rfl)⟩ ⟨(Nat.le_of_ble_eq_true rfl), (Nat.le_of_ble_eq_true rfl)⟩ 0 rfl rfl rfl rfl (Nat.le_of_ble_eq_true rfl) rfl dX10_works_10 rfl ?_
  by_cases c3 : r2 = (1 : Int32)
  · replace hf := it_p c3 hf
    refine sw_tableEq (tgt := 48) cx c3 dX10_works_13 (by decide +kernel) (by decide +kernel) rfl (by decide) ?_
    refine sw_iconst (pc' := 49) (v := 2) cx dX10_works_48 iconst_2 rfl ?_
    refine sw_iload_n (pc' := 50) (i := 2) cx dX10_works_49 rfl 0 rfl rfl ?_
    refine sw_imul (pc' := 51) cx dX10_works_50 rfl ?_
    obtain rfl := Option.some.inj hf
    exact sw_iret cx hr hQ dX10_works_51
  replace hf := it_n c3 hf
  by_cases c4 : r2 = (2 : Int32)
  · replace hf := it_p c4 hf
    refine sw_tableEq (tgt := 75) cx c4 dX10_works_13 (by decide +kernel) (by decide +kernel) rfl (by decide) ?_
    refine sw_iload_n (pc' := 76) (i := 2) cx dX10_works_75 rfl 0 rfl rfl ?_
    obtain rfl := Option.some.inj hf
    exact sw_iret cx hr hQ dX10_works_76
  replace hf := it_n c4 hf
  by_cases c5 : r2 = (3 : Int32)
  · replace hf := it_p c5 hf
    refine sw_tableEq (tgt := 52) cx c5 dX10_works_13 (by decide +kernel) (by decide +kernel) rfl (by decide) ?_
    refine sw_iload_n (pc' := 53) (i := 2) cx dX10_works_52 rfl 0 rfl rfl ?_
    refine sw_iconst (pc' := 54) (v := 2) cx dX10_works_53 iconst_2 rfl ?_
    refine sw_iadd (pc' := 55) cx dX10_works_54 rfl ?_
    obtain rfl := Option.some.inj hf
    exact sw_iret cx hr hQ dX10_works_55
  replace hf := it_n c5 hf
  by_cases c6 : r2 = (4 : Int32)
  · replace hf := it_p c6 hf
    refine sw_tableEq (tgt := 56) cx c6 dX10_works_13 (by decide +kernel) (by decide +kernel) rfl (by decide) ?_
    refine sw_iload_n (pc' := 57) (i := 2) cx dX10_works_56 rfl 0 rfl rfl ?_
    refine sw_iconst (pc' := 58) (v := 2) cx dX10_works_57 iconst_2 rfl ?_
    refine sw_iadd (pc' := 59) cx dX10_works_58 rfl ?_
    refine sw_iconst (pc' := 60) (v := 2) cx dX10_works_59 iconst_2 rfl ?_
    refine sw_idiv (pc' := 61) cx dX10_works_60 (by decide +kernel) rfl ?_
    obtain rfl := Option.some.inj hf
    exact sw_iret cx hr hQ dX10_works_61
  replace hf := it_n c6 hf
  by_cases c7 : r2 = (5 : Int32)
  · replace hf := it_p c7 hf
    refine sw_tableEq (tgt := 62) cx c7 dX10_works_13 (by decide +kernel) (by decide +kernel) rfl (by decide) ?_
    refine sw_iload_n (pc' := 63) (i := 2) cx dX10_works_62 rfl 0 rfl rfl ?_
    refine sw_bipush (pc' := 65) (v := 40) cx dX10_works_63 bipush_40 rfl ?_
    refine sw_aload_n (pc' := 66) (i := 0) cx dX10_works_65 rfl 1 rfl rfl ?_
    obtain ⟨r8, hr8, hf⟩ := bd_s hf
    refine sw_callVw (pc' := 69) (As := []) (rest := [.int (40 : Int32), .int r1]) (w' := (mo_W h cI cJ row att fnd tape tmany sort begs tends word valu good bits size shts lent imag befo kept)) cx (k_X10_wholes l D h cI cJ cK cS row att fnd tape tmany sort begs tends word valu good bits size shts lent imag befo kept  r8 hr8) pk_yX10_wholes ml_RX10_55 ⟨rfl, rfl⟩ ⟨(Nat.le_of_ble_eq_true rfl), (Nat.le_of_ble_eq_true rfl)⟩ ⟨(Nat.le_of_ble_eq_true rfl), (Nat.le_of_ble_eq_true rfl)⟩ 0 rfl rfl rfl rfl (Nat.le_of_ble_eq_true rfl) rfl dX10_works_66 rfl ?_
    refine sw_isub (pc' := 70) cx dX10_works_69 rfl ?_
    refine sw_bipush (pc' := 72) (v := 10) cx dX10_works_70 bipush_10 rfl ?_
    refine sw_idiv (pc' := 73) cx dX10_works_72 (by decide +kernel) rfl ?_
    refine sw_iadd (pc' := 74) cx dX10_works_73 rfl ?_
    obtain rfl := Option.some.inj hf
    exact sw_iret cx hr hQ dX10_works_74
  replace hf := it_n c7 hf
  refine sw_tableOut (tgt := 75) cx dX10_works_13 (by have := sf_ne (k := 1) c3 (by decide +kernel); have := sf_ne (k := 2) c4 (by decide +kernel); have := sf_ne (k := 3) c5 (by decide +kernel); have := sf_ne (k := 4) c6 (by decide +kernel); have := sf_ne (k := 5) c7 (by decide +kernel); omega) (by decide) ?_
  refine sw_iload_n (pc' := 76) (i := 2) cx dX10_works_75 rfl 0 rfl rfl ?_
  obtain rfl := Option.some.inj hf
  exact sw_iret cx hr hQ dX10_works_76
abbrev rm_X10_highAt : Room := ({ frames := 1, cells := 0, slots := 0, locals := 22 } : Room)
set_option maxRecDepth 100000 in
set_option maxHeartbeats 4000000 in
theorem k_X10_highAt (l : Launch) (D : sf_D) (h : Nat → Nat) (cI cJ cK cS : ClassId) (row : Nat → Int32) (att : Int32) (fnd : Nat → Int32) (tape : Nat → Int32) (tmany : Int32) (sort : Int32) (begs : Int32) (tends : Int32) (word : Int64) (valu : Int32) (good : Int32) (bits : Nat → Int32) (size : Nat → Int32) (shts : Nat → Int64) (lent : Nat → Int64) (imag : Nat → Int32) (befo : Nat → Int32) (kept : Int32) (a0 : Int32) (a1 : Int32) (res : Int32) (hf : f_X10_highAt row att a0 a1 = some res) : sf_Ct l yX10_highAt cX10_highAt 4 (some .int) rm_X10_highAt D (sf_ty cI cJ cK cS) [.ref (h 0), .int a0, .int a1] (mo_W h cI cJ row att fnd tape tmany sort begs tends word valu good bits size shts lent imag befo kept) (some (.int res)) (mo_W h cI cJ row att fnd tape tmany sort begs tends word valu good bits size shts lent imag befo kept) := by
  refine sf_met (lv := [(0, .ref (h 0)), (1, .int a0), (2, .int a1)]) (by decide) (Nat.le_of_ble_eq_true rfl) rfl ?_
  intro p e s m args below meth c A Q cx hr hQ
  have cx : sf_Cx p m meth c cX10_highAt 4 s args RX10 D (sf_ty cI cJ cK cS) A := cx
  unfold f_X10_highAt at hf
  refine sw_aload_n (pc' := 1) (i := 0) cx dX10_highAt_0 rfl 0 rfl rfl ?_
  refine sw_iconst (pc' := 2) (v := 5) cx dX10_highAt_1 iconst_5 rfl ?_
  refine sw_iload_n (pc' := 3) (i := 2) cx dX10_highAt_2 rfl 2 rfl rfl ?_
  refine sw_iadd (pc' := 4) cx dX10_highAt_3 rfl ?_
  obtain ⟨r1, hr1, hf⟩ := bd_s hf
  refine sw_callVw (pc' := 7) (As := [.int ((5 : Int32) + a1)]) (rest := []) (w' := (mo_W h cI cJ row att fnd tape tmany sort begs tends word valu good bits size shts lent imag befo kept)) cx (k_X10_its l D h cI cJ cK cS row att fnd tape tmany sort begs tends word valu good bits size shts lent imag befo kept ((5 : Int32) + a1) r1 hr1) pk_yX10_its ml_RX10_43 ⟨rfl, rfl⟩ ⟨(Nat.le_of_ble_eq_true rfl), (Nat.le_of_ble_eq_true rfl)⟩ ⟨(Nat.le_of_ble_eq_true rfl), (Nat.le_of_ble_eq_true rfl)⟩ 0 rfl rfl rfl rfl (Nat.le_of_ble_eq_true rfl) rfl dX10_highAt_4 rfl ?_
  refine sw_istore_n (pc' := 8) (i := 3) (lv' := [(3, .int r1), (0, .ref (h 0)), (1, .int a0), (2, .int a1)]) cx dX10_highAt_7 rfl (Nat.le_of_ble_eq_true rfl) rfl rfl ?_
  refine sw_aload_n (pc' := 9) (i := 0) cx dX10_highAt_8 rfl 1 rfl rfl ?_
  refine sw_iload_n (pc' := 10) (i := 1) cx dX10_highAt_9 rfl 2 rfl rfl ?_
  refine sw_iconst (pc' := 11) (v := 0) cx dX10_highAt_10 iconst_0 rfl ?_
  obtain ⟨r2, hr2, hf⟩ := bd_s hf
  refine sw_callVw (pc' := 14) (As := [.int a0, .int (0 : Int32)]) (rest := []) (w' := (mo_W h cI cJ row att fnd tape tmany sort begs tends word valu good bits size shts lent imag befo kept)) cx (k_X10_fineOf l D h cI cJ cK cS row att fnd tape tmany sort begs tends word valu good bits size shts lent imag befo kept a0 (0 : Int32) r2 hr2) pk_yX10_fineOf ml_RX10_51 ⟨rfl, rfl⟩ ⟨(Nat.le_of_ble_eq_true rfl), (Nat.le_of_ble_eq_true rfl)⟩ ⟨(Nat.le_of_ble_eq_true rfl), (Nat.le_of_ble_eq_true rfl)⟩ 0 rfl rfl rfl rfl (Nat.le_of_ble_eq_true rfl) rfl dX10_highAt_11 rfl ?_
  by_cases c3 : r2 = (2 : Int32)
  · replace hf := it_p c3 hf
    refine sw_tableEq (tgt := 44) cx c3 dX10_highAt_14 (by decide +kernel) (by decide +kernel) rfl (by decide) ?_
    refine sw_iload_n (pc' := 45) (i := 3) cx dX10_highAt_44 rfl 0 rfl rfl ?_
    refine sw_bipush (pc' := 47) (v := 6) cx dX10_highAt_45 bipush_6 rfl ?_
    refine sw_iadd (pc' := 48) cx dX10_highAt_47 rfl ?_
    obtain rfl := Option.some.inj hf
    exact sw_iret cx hr hQ dX10_highAt_48
  replace hf := it_n c3 hf
  by_cases c4 : r2 = (3 : Int32)
  · replace hf := it_p c4 hf
    refine sw_tableEq (tgt := 49) cx c4 dX10_highAt_14 (by decide +kernel) (by decide +kernel) rfl (by decide) ?_
    refine sw_iload_n (pc' := 50) (i := 3) cx dX10_highAt_49 rfl 0 rfl rfl ?_
    refine sw_bipush (pc' := 52) (v := 13) cx dX10_highAt_50 bipush_13 rfl ?_
    refine sw_iadd (pc' := 53) cx dX10_highAt_52 rfl ?_
    obtain rfl := Option.some.inj hf
    exact sw_iret cx hr hQ dX10_highAt_53
  replace hf := it_n c4 hf
  by_cases c5 : r2 = (4 : Int32)
  · replace hf := it_p c5 hf
    refine sw_tableEq (tgt := 54) cx c5 dX10_highAt_14 (by decide +kernel) (by decide +kernel) rfl (by decide) ?_
    refine sw_iload_n (pc' := 55) (i := 3) cx dX10_highAt_54 rfl 0 rfl rfl ?_
    refine sw_bipush (pc' := 57) (v := 16) cx dX10_highAt_55 bipush_16 rfl ?_
    refine sw_iadd (pc' := 58) cx dX10_highAt_57 rfl ?_
    obtain rfl := Option.some.inj hf
    exact sw_iret cx hr hQ dX10_highAt_58
  replace hf := it_n c5 hf
  by_cases c6 : r2 = (5 : Int32)
  · replace hf := it_p c6 hf
    refine sw_tableEq (tgt := 59) cx c6 dX10_highAt_14 (by decide +kernel) (by decide +kernel) rfl (by decide) ?_
    refine sw_iload_n (pc' := 60) (i := 3) cx dX10_highAt_59 rfl 0 rfl rfl ?_
    refine sw_iconst (pc' := 61) (v := 5) cx dX10_highAt_60 iconst_5 rfl ?_
    refine sw_icmp_le (pc' := 64) (tgt := 69) cx dX10_highAt_61 (by decide) rfl (fun c7 => ?_) (fun c7 => ?_)
    · replace hf := it_p c7 hf
      refine sw_iload_n (pc' := 70) (i := 3) cx dX10_highAt_69 rfl 0 rfl rfl ?_
      refine sw_bipush (pc' := 72) (v := 6) cx dX10_highAt_70 bipush_6 rfl ?_
      refine sw_iadd (pc' := 73) cx dX10_highAt_72 rfl ?_
      obtain rfl := Option.some.inj hf
      exact sw_iret cx hr hQ dX10_highAt_73
    · replace hf := it_n c7 hf
      refine sw_bipush (pc' := 66) (v := 7) cx dX10_highAt_64 bipush_7 rfl ?_
      refine sw_goto (tgt := 73) cx dX10_highAt_66 (by decide) ?_
      obtain rfl := Option.some.inj hf
      exact sw_iret cx hr hQ dX10_highAt_73
  replace hf := it_n c6 hf
  refine sw_tableOut (tgt := 74) cx dX10_highAt_14 (by have := sf_ne (k := 2) c3 (by decide +kernel); have := sf_ne (k := 3) c4 (by decide +kernel); have := sf_ne (k := 4) c5 (by decide +kernel); have := sf_ne (k := 5) c6 (by decide +kernel); omega) (by decide) ?_
  refine sw_iload_n (pc' := 75) (i := 3) cx dX10_highAt_74 rfl 0 rfl rfl ?_
  refine sw_bipush (pc' := 77) (v := 8) cx dX10_highAt_75 bipush_8 rfl ?_
  refine sw_iadd (pc' := 78) cx dX10_highAt_77 rfl ?_
  obtain rfl := Option.some.inj hf
  exact sw_iret cx hr hQ dX10_highAt_78
abbrev rm_X10_rock : Room := ({ frames := 2, cells := 0, slots := 0, locals := 42 } : Room)
set_option maxRecDepth 100000 in
set_option maxHeartbeats 4000000 in
theorem k_X10_rock (l : Launch) (D : sf_D) (h : Nat → Nat) (cI cJ cK cS : ClassId) (row : Nat → Int32) (att : Int32) (fnd : Nat → Int32) (tape : Nat → Int32) (tmany : Int32) (sort : Int32) (begs : Int32) (tends : Int32) (word : Int64) (valu : Int32) (good : Int32) (bits : Nat → Int32) (size : Nat → Int32) (shts : Nat → Int64) (lent : Nat → Int64) (imag : Nat → Int32) (befo : Nat → Int32) (kept : Int32) (a0 : Int32) (a1 : Int32) (res : Int32 × (Nat → Int32) × (Nat → Int32)) (hf : f_X10_rock row fnd a0 a1 = some res) : sf_Ct l yX10_rock cX10_rock 4 (some .int) rm_X10_rock D (sf_ty cI cJ cK cS) [.ref (h 0), .int a0, .int a1] (mo_W h cI cJ row att fnd tape tmany sort begs tends word valu good bits size shts lent imag befo kept) (some (.int res.1)) (mo_W h cI cJ res.2.1 att res.2.2 tape tmany sort begs tends word valu good bits size shts lent imag befo kept) := by
  refine sf_met (lv := [(0, .ref (h 0)), (1, .int a0), (2, .int a1)]) (by decide) (Nat.le_of_ble_eq_true rfl) rfl ?_
  intro p e s m args below meth c A Q cx hr hQ
  have cx : sf_Cx p m meth c cX10_rock 4 s args RX10 D (sf_ty cI cJ cK cS) A := cx
  have B17 : ∀ (row : Nat → Int32) (fnd : Nat → Int32), f_X10_rock_b17 row fnd = some res → sf_W p l e rm_X10_rock s m args below meth c 0 0 Q 4 D A (mo_W h cI cJ row att fnd tape tmany sort begs tends word valu good bits size shts lent imag befo kept) [(0, .ref (h 0))] 17 [] := by
    intro row fnd hf
    unfold f_X10_rock_b17 at hf
    refine sw_aload_n (pc' := 18) (i := 0) cx dX10_rock_17 rfl 0 rfl rfl ?_
    refine sw_ldc (pc' := 20) cx ct_RX10_38 dX10_rock_18 rfl ?_
    obtain ⟨r7, hr7, hf⟩ := bd_s hf
    refine sw_callVw (pc' := 23) (As := [.int (-1000000001 : Int32)]) (rest := []) (w' := (mo_W h cI cJ row att r7.2 tape tmany sort begs tends word valu good bits size shts lent imag befo kept)) cx (k_X10_finds l D h cI cJ cK cS row att fnd tape tmany sort begs tends word valu good bits size shts lent imag befo kept (-1000000001 : Int32) r7 hr7) pk_yX10_finds ml_RX10_63 ⟨rfl, rfl⟩ ⟨(Nat.le_of_ble_eq_true rfl), (Nat.le_of_ble_eq_true rfl)⟩ ⟨(Nat.le_of_ble_eq_true rfl), (Nat.le_of_ble_eq_true rfl)⟩ 0 rfl rfl rfl rfl (Nat.le_of_ble_eq_true rfl) rfl dX10_rock_20 rfl ?_
    obtain rfl := Option.some.inj hf
    exact sw_iret cx hr hQ dX10_rock_23
  unfold f_X10_rock at hf
  refine sw_iload_n (pc' := 1) (i := 1) cx dX10_rock_0 rfl 1 rfl rfl ?_
  obtain ⟨r1, hr1, hf⟩ := bd_s hf
  refine sw_callS (pc' := 4) (As := [.int a0]) (rest := []) cx (k_X10_isPlace l D h cI cJ cK cS a0 r1 hr1) pk_yX10_isPlace ml_RX10_59 ⟨rfl, rfl⟩ ⟨(Nat.le_of_ble_eq_true rfl), (Nat.le_of_ble_eq_true rfl)⟩ ⟨(Nat.le_of_ble_eq_true rfl), (Nat.le_of_ble_eq_true rfl)⟩ [] rfl rfl rfl (wn := (mo_W h cI cJ row att fnd tape tmany sort begs tends word valu good bits size shts lent imag befo kept)) rfl rfl (Nat.le_of_ble_eq_true rfl) rfl dX10_rock_1 rfl ?_
  refine sw_if_eq (pc' := 7) (tgt := 17) cx dX10_rock_4 (by decide) rfl (fun c2 => ?_) (fun c2 => ?_)
  · replace hf := it_p c2 hf
    exact sw_lv [0] rfl (B17 row fnd hf)
  · replace hf := it_n c2 hf
    refine sw_iload_n (pc' := 8) (i := 2) cx dX10_rock_7 rfl 2 rfl rfl ?_
    refine sw_iconst (pc' := 9) (v := 1) cx dX10_rock_8 iconst_1 rfl ?_
    refine sw_bipush (pc' := 11) (v := 9) cx dX10_rock_9 bipush_9 rfl ?_
    obtain ⟨r3, hr3, hf⟩ := bd_s hf
    refine sw_callS (pc' := 14) (As := [.int a1, .int (1 : Int32), .int (9 : Int32)]) (rest := []) cx (k_X10_in l D h cI cJ cK cS a1 (1 : Int32) (9 : Int32) r3 hr3) pk_yX10_in ml_RX10_47 ⟨rfl, rfl⟩ ⟨(Nat.le_of_ble_eq_true rfl), (Nat.le_of_ble_eq_true rfl)⟩ ⟨(Nat.le_of_ble_eq_true rfl), (Nat.le_of_ble_eq_true rfl)⟩ [] rfl rfl rfl (wn := (mo_W h cI cJ row att fnd tape tmany sort begs tends word valu good bits size shts lent imag befo kept)) rfl rfl (Nat.le_of_ble_eq_true rfl) rfl dX10_rock_11 rfl ?_
    refine sw_if_ne (pc' := 17) (tgt := 24) cx dX10_rock_14 (by decide) rfl (fun c4 => ?_) (fun c4 => ?_)
    · replace hf := it_n c4 hf
      refine sw_aload_n (pc' := 25) (i := 0) cx dX10_rock_24 rfl 0 rfl rfl ?_
      refine sw_get (pc' := 28) cx in_X10 0 rfl rfl 0 (Nat.le_of_ble_eq_true rfl) fl_RX10_7 rfl dX10_rock_25 rfl ?_
      refine sw_iconst (pc' := 29) (v := 5) cx dX10_rock_28 iconst_5 rfl ?_
      refine sw_iload_n (pc' := 30) (i := 1) cx dX10_rock_29 rfl 1 rfl rfl ?_
      refine sw_iadd (pc' := 31) cx dX10_rock_30 rfl ?_
      obtain ⟨h5, hf⟩ := gx_s hf
      refine sw_iald (pc' := 32) cx 1 0 rfl rfl h5 dX10_rock_31 rfl ?_
      refine sw_istore_n (pc' := 33) (i := 3) (lv' := [(3, .int (row (((5 : Int32) + a0)).toNatClampNeg)), (0, .ref (h 0)), (1, .int a0), (2, .int a1)]) cx dX10_rock_32 rfl (Nat.le_of_ble_eq_true rfl) rfl rfl ?_
      refine sw_aload_n (pc' := 34) (i := 0) cx dX10_rock_33 rfl 1 rfl rfl ?_
      refine sw_get (pc' := 37) cx in_X10 0 rfl rfl 0 (Nat.le_of_ble_eq_true rfl) fl_RX10_7 rfl dX10_rock_34 rfl ?_
      refine sw_iconst (pc' := 38) (v := 5) cx dX10_rock_37 iconst_5 rfl ?_
      refine sw_iload_n (pc' := 39) (i := 1) cx dX10_rock_38 rfl 2 rfl rfl ?_
      refine sw_iadd (pc' := 40) cx dX10_rock_39 rfl ?_
      refine sw_iload_n (pc' := 41) (i := 2) cx dX10_rock_40 rfl 3 rfl rfl ?_
      obtain ⟨h6, hf⟩ := gx_s hf
      refine sw_iast (pc' := 42) (ws' := (mo_W h cI cJ (upd row (((5 : Int32) + a0)).toNatClampNeg a1) att fnd tape tmany sort begs tends word valu good bits size shts lent imag befo kept)) cx 1 0 rfl rfl h6 dX10_rock_41 rfl rfl ?_
      refine sw_iload_n (pc' := 43) (i := 3) cx dX10_rock_42 rfl 0 rfl rfl ?_
      obtain rfl := Option.some.inj hf
      exact sw_iret cx hr hQ dX10_rock_43
    · replace hf := it_p c4 hf
      exact sw_lv [0] rfl (B17 row fnd hf)
abbrev rm_X10_let : Room := ({ frames := 1, cells := 0, slots := 0, locals := 22 } : Room)
set_option maxRecDepth 100000 in
set_option maxHeartbeats 4000000 in
theorem k_X10_let (l : Launch) (D : sf_D) (h : Nat → Nat) (cI cJ cK cS : ClassId) (row : Nat → Int32) (att : Int32) (fnd : Nat → Int32) (tape : Nat → Int32) (tmany : Int32) (sort : Int32) (begs : Int32) (tends : Int32) (word : Int64) (valu : Int32) (good : Int32) (bits : Nat → Int32) (size : Nat → Int32) (shts : Nat → Int64) (lent : Nat → Int64) (imag : Nat → Int32) (befo : Nat → Int32) (kept : Int32) (a0 : Int32) (a1 : Int32) (res : Int32 × (Nat → Int32) × (Nat → Int32)) (hf : f_X10_let row fnd a0 a1 = some res) : sf_Ct l yX10_let cX10_let 4 (some .int) rm_X10_let D (sf_ty cI cJ cK cS) [.ref (h 0), .int a0, .int a1] (mo_W h cI cJ row att fnd tape tmany sort begs tends word valu good bits size shts lent imag befo kept) (some (.int res.1)) (mo_W h cI cJ res.2.1 att res.2.2 tape tmany sort begs tends word valu good bits size shts lent imag befo kept) := by
  refine sf_met (lv := [(0, .ref (h 0)), (1, .int a0), (2, .int a1)]) (by decide) (Nat.le_of_ble_eq_true rfl) rfl ?_
  intro p e s m args below meth c A Q cx hr hQ
  have cx : sf_Cx p m meth c cX10_let 4 s args RX10 D (sf_ty cI cJ cK cS) A := cx
  have B28 : ∀ (row : Nat → Int32) (fnd : Nat → Int32), f_X10_let_b28 row fnd = some res → sf_W p l e rm_X10_let s m args below meth c 0 0 Q 4 D A (mo_W h cI cJ row att fnd tape tmany sort begs tends word valu good bits size shts lent imag befo kept) [(0, .ref (h 0))] 28 [] := by
    intro row fnd hf
    unfold f_X10_let_b28 at hf
    refine sw_aload_n (pc' := 29) (i := 0) cx dX10_let_28 rfl 0 rfl rfl ?_
    refine sw_ldc (pc' := 31) cx ct_RX10_38 dX10_let_29 rfl ?_
    obtain ⟨r4, hr4, hf⟩ := bd_s hf
    refine sw_callVw (pc' := 34) (As := [.int (-1000000001 : Int32)]) (rest := []) (w' := (mo_W h cI cJ row att r4.2 tape tmany sort begs tends word valu good bits size shts lent imag befo kept)) cx (k_X10_finds l D h cI cJ cK cS row att fnd tape tmany sort begs tends word valu good bits size shts lent imag befo kept (-1000000001 : Int32) r4 hr4) pk_yX10_finds ml_RX10_63 ⟨rfl, rfl⟩ ⟨(Nat.le_of_ble_eq_true rfl), (Nat.le_of_ble_eq_true rfl)⟩ ⟨(Nat.le_of_ble_eq_true rfl), (Nat.le_of_ble_eq_true rfl)⟩ 0 rfl rfl rfl rfl (Nat.le_of_ble_eq_true rfl) rfl dX10_let_31 rfl ?_
    obtain rfl := Option.some.inj hf
    exact sw_iret cx hr hQ dX10_let_34
  have B22 : ∀ (row : Nat → Int32) (fnd : Nat → Int32) (x1 : Int32) (x2 : Int32) (s0 : Int32) (s1 : Int32) (s2 : Int32), f_X10_let_b22 row fnd x1 x2 s0 s1 s2 = some res → sf_W p l e rm_X10_let s m args below meth c 0 0 Q 4 D A (mo_W h cI cJ row att fnd tape tmany sort begs tends word valu good bits size shts lent imag befo kept) [(0, .ref (h 0)), (1, .int x1), (2, .int x2)] 22 [.int s0, .int s1, .int s2] := by
    intro row fnd x1 x2 s0 s1 s2 hf
    unfold f_X10_let_b22 at hf
    obtain ⟨r5, hr5, hf⟩ := bd_s hf
    refine sw_callS (pc' := 25) (As := [.int s2, .int s1, .int s0]) (rest := []) cx (k_X10_in l D h cI cJ cK cS s2 s1 s0 r5 hr5) pk_yX10_in ml_RX10_47 ⟨rfl, rfl⟩ ⟨(Nat.le_of_ble_eq_true rfl), (Nat.le_of_ble_eq_true rfl)⟩ ⟨(Nat.le_of_ble_eq_true rfl), (Nat.le_of_ble_eq_true rfl)⟩ [] rfl rfl rfl (wn := (mo_W h cI cJ row att fnd tape tmany sort begs tends word valu good bits size shts lent imag befo kept)) rfl rfl (Nat.le_of_ble_eq_true rfl) rfl dX10_let_22 rfl ?_
    refine sw_if_ne (pc' := 28) (tgt := 35) cx dX10_let_25 (by decide) rfl (fun c6 => ?_) (fun c6 => ?_)
    · replace hf := it_n c6 hf
      refine sw_aload_n (pc' := 36) (i := 0) cx dX10_let_35 rfl 0 rfl rfl ?_
      refine sw_get (pc' := 39) cx in_X10 0 rfl rfl 0 (Nat.le_of_ble_eq_true rfl) fl_RX10_7 rfl dX10_let_36 rfl ?_
      refine sw_iconst (pc' := 40) (v := 1) cx dX10_let_39 iconst_1 rfl ?_
      refine sw_iload_n (pc' := 41) (i := 1) cx dX10_let_40 rfl 1 rfl rfl ?_
      refine sw_iadd (pc' := 42) cx dX10_let_41 rfl ?_
      obtain ⟨h7, hf⟩ := gx_s hf
      refine sw_iald (pc' := 43) cx 1 0 rfl rfl h7 dX10_let_42 rfl ?_
      refine sw_istore_n (pc' := 44) (i := 3) (lv' := [(3, .int (row (((1 : Int32) + x1)).toNatClampNeg)), (0, .ref (h 0)), (1, .int x1), (2, .int x2)]) cx dX10_let_43 rfl (Nat.le_of_ble_eq_true rfl) rfl rfl ?_
      refine sw_aload_n (pc' := 45) (i := 0) cx dX10_let_44 rfl 1 rfl rfl ?_
      refine sw_get (pc' := 48) cx in_X10 0 rfl rfl 0 (Nat.le_of_ble_eq_true rfl) fl_RX10_7 rfl dX10_let_45 rfl ?_
      refine sw_iconst (pc' := 49) (v := 1) cx dX10_let_48 iconst_1 rfl ?_
      refine sw_iload_n (pc' := 50) (i := 1) cx dX10_let_49 rfl 2 rfl rfl ?_
      refine sw_iadd (pc' := 51) cx dX10_let_50 rfl ?_
      refine sw_iload_n (pc' := 52) (i := 2) cx dX10_let_51 rfl 3 rfl rfl ?_
      obtain ⟨h8, hf⟩ := gx_s hf
      refine sw_iast (pc' := 53) (ws' := (mo_W h cI cJ (upd row (((1 : Int32) + x1)).toNatClampNeg x2) att fnd tape tmany sort begs tends word valu good bits size shts lent imag befo kept)) cx 1 0 rfl rfl h8 dX10_let_52 rfl rfl ?_
      refine sw_iload_n (pc' := 54) (i := 3) cx dX10_let_53 rfl 0 rfl rfl ?_
      obtain rfl := Option.some.inj hf
      exact sw_iret cx hr hQ dX10_let_54
    · replace hf := it_p c6 hf
      exact sw_lv [0] rfl (B28 row fnd hf)
  unfold f_X10_let at hf
  refine sw_iload_n (pc' := 1) (i := 1) cx dX10_let_0 rfl 1 rfl rfl ?_
  refine sw_iconst (pc' := 2) (v := 0) cx dX10_let_1 iconst_0 rfl ?_
  refine sw_iconst (pc' := 3) (v := 1) cx dX10_let_2 iconst_1 rfl ?_
  obtain ⟨r1, hr1, hf⟩ := bd_s hf
  refine sw_callS (pc' := 6) (As := [.int a0, .int (0 : Int32), .int (1 : Int32)]) (rest := []) cx (k_X10_in l D h cI cJ cK cS a0 (0 : Int32) (1 : Int32) r1 hr1) pk_yX10_in ml_RX10_47 ⟨rfl, rfl⟩ ⟨(Nat.le_of_ble_eq_true rfl), (Nat.le_of_ble_eq_true rfl)⟩ ⟨(Nat.le_of_ble_eq_true rfl), (Nat.le_of_ble_eq_true rfl)⟩ [] rfl rfl rfl (wn := (mo_W h cI cJ row att fnd tape tmany sort begs tends word valu good bits size shts lent imag befo kept)) rfl rfl (Nat.le_of_ble_eq_true rfl) rfl dX10_let_3 rfl ?_
  refine sw_if_eq (pc' := 9) (tgt := 28) cx dX10_let_6 (by decide) rfl (fun c2 => ?_) (fun c2 => ?_)
  · replace hf := it_p c2 hf
    exact sw_lv [0] rfl (B28 row fnd hf)
  · replace hf := it_n c2 hf
    refine sw_iload_n (pc' := 10) (i := 2) cx dX10_let_9 rfl 2 rfl rfl ?_
    refine sw_iconst (pc' := 11) (v := 0) cx dX10_let_10 iconst_0 rfl ?_
    refine sw_iload_n (pc' := 12) (i := 1) cx dX10_let_11 rfl 1 rfl rfl ?_
    refine sw_if_ne (pc' := 15) (tgt := 20) cx dX10_let_12 (by decide) rfl (fun c3 => ?_) (fun c3 => ?_)
    · replace hf := it_n c3 hf
      refine sw_bipush (pc' := 22) (v := 20) cx dX10_let_20 bipush_20 rfl ?_
      exact sw_lv [0, 1, 2] rfl (B22 row fnd a0 a1 (20 : Int32) (0 : Int32) a1 hf)
    · replace hf := it_p c3 hf
      refine sw_bipush (pc' := 17) (v := 9) cx dX10_let_15 bipush_9 rfl ?_
      refine sw_goto (tgt := 22) cx dX10_let_17 (by decide) ?_
      exact sw_lv [0, 1, 2] rfl (B22 row fnd a0 a1 (9 : Int32) (0 : Int32) a1 hf)
abbrev rm_X10_addFine : Room := ({ frames := 1, cells := 0, slots := 0, locals := 23 } : Room)
set_option maxRecDepth 100000 in
set_option maxHeartbeats 4000000 in
theorem k_X10_addFine (l : Launch) (D : sf_D) (h : Nat → Nat) (cI cJ cK cS : ClassId) (row : Nat → Int32) (att : Int32) (fnd : Nat → Int32) (tape : Nat → Int32) (tmany : Int32) (sort : Int32) (begs : Int32) (tends : Int32) (word : Int64) (valu : Int32) (good : Int32) (bits : Nat → Int32) (size : Nat → Int32) (shts : Nat → Int64) (lent : Nat → Int64) (imag : Nat → Int32) (befo : Nat → Int32) (kept : Int32) (a0 : Int32) (a1 : Int32) (a2 : Int32) (a3 : Int32) (res : (Nat → Int32)) (hf : f_X10_addFine row att a0 a1 a2 a3 = some res) : sf_Ct l yX10_addFine cX10_addFine 6 none rm_X10_addFine D (sf_ty cI cJ cK cS) [.ref (h 0), .int a0, .int a1, .int a2, .int a3] (mo_W h cI cJ row att fnd tape tmany sort begs tends word valu good bits size shts lent imag befo kept) none (mo_W h cI cJ res att fnd tape tmany sort begs tends word valu good bits size shts lent imag befo kept) := by
  refine sf_met (lv := [(0, .ref (h 0)), (1, .int a0), (2, .int a1), (3, .int a2), (4, .int a3)]) (by decide) (Nat.le_of_ble_eq_true rfl) rfl ?_
  intro p e s m args below meth c A Q cx hr hQ
  have cx : sf_Cx p m meth c cX10_addFine 6 s args RX10 D (sf_ty cI cJ cK cS) A := cx
  unfold f_X10_addFine at hf
  refine sw_aload_n (pc' := 1) (i := 0) cx dX10_addFine_0 rfl 0 rfl rfl ?_
  refine sw_get (pc' := 4) cx in_X10 0 rfl rfl 0 (Nat.le_of_ble_eq_true rfl) fl_RX10_7 rfl dX10_addFine_1 rfl ?_
  refine sw_iconst (pc' := 5) (v := 4) cx dX10_addFine_4 iconst_4 rfl ?_
  refine sw_iald (pc' := 6) cx 1 0 rfl rfl vi_4_510 dX10_addFine_5 rfl ?_
  refine sw_istore (pc' := 8) (i := 5) (lv' := [(5, .int (row ((4 : Int32)).toNatClampNeg)), (0, .ref (h 0)), (1, .int a0), (2, .int a1), (3, .int a2), (4, .int a3)]) cx dX10_addFine_6 (Nat.le_of_ble_eq_true rfl) rfl rfl ?_
  refine sw_aload_n (pc' := 9) (i := 0) cx dX10_addFine_8 rfl 1 rfl rfl ?_
  refine sw_iload (pc' := 11) (i := 5) cx dX10_addFine_9 0 rfl rfl ?_
  refine sw_iconst (pc' := 12) (v := 0) cx dX10_addFine_11 iconst_0 rfl ?_
  refine sw_iload_n (pc' := 13) (i := 1) cx dX10_addFine_12 rfl 2 rfl rfl ?_
  obtain ⟨r1, hr1, hf⟩ := bd_s hf
  refine sw_callVw (pc' := 16) (As := [.int (row ((4 : Int32)).toNatClampNeg), .int (0 : Int32), .int a0]) (rest := []) (w' := (mo_W h cI cJ r1 att fnd tape tmany sort begs tends word valu good bits size shts lent imag befo kept)) cx (k_X10_sets l D h cI cJ cK cS row att fnd tape tmany sort begs tends word valu good bits size shts lent imag befo kept (row ((4 : Int32)).toNatClampNeg) (0 : Int32) a0 r1 hr1) pk_yX10_sets ml_RX10_66 ⟨rfl, rfl⟩ ⟨(Nat.le_of_ble_eq_true rfl), (Nat.le_of_ble_eq_true rfl)⟩ ⟨(Nat.le_of_ble_eq_true rfl), (Nat.le_of_ble_eq_true rfl)⟩ 0 rfl rfl rfl rfl (Nat.le_of_ble_eq_true rfl) rfl dX10_addFine_13 rfl ?_
  refine sw_aload_n (pc' := 17) (i := 0) cx dX10_addFine_16 rfl 1 rfl rfl ?_
  refine sw_iload (pc' := 19) (i := 5) cx dX10_addFine_17 0 rfl rfl ?_
  refine sw_iconst (pc' := 20) (v := 1) cx dX10_addFine_19 iconst_1 rfl ?_
  refine sw_iload_n (pc' := 21) (i := 2) cx dX10_addFine_20 rfl 3 rfl rfl ?_
  obtain ⟨r2, hr2, hf⟩ := bd_s hf
  refine sw_callVw (pc' := 24) (As := [.int (row ((4 : Int32)).toNatClampNeg), .int (1 : Int32), .int a1]) (rest := []) (w' := (mo_W h cI cJ r2 att fnd tape tmany sort begs tends word valu good bits size shts lent imag befo kept)) cx (k_X10_sets l D h cI cJ cK cS r1 att fnd tape tmany sort begs tends word valu good bits size shts lent imag befo kept (row ((4 : Int32)).toNatClampNeg) (1 : Int32) a1 r2 hr2) pk_yX10_sets ml_RX10_66 ⟨rfl, rfl⟩ ⟨(Nat.le_of_ble_eq_true rfl), (Nat.le_of_ble_eq_true rfl)⟩ ⟨(Nat.le_of_ble_eq_true rfl), (Nat.le_of_ble_eq_true rfl)⟩ 0 rfl rfl rfl rfl (Nat.le_of_ble_eq_true rfl) rfl dX10_addFine_21 rfl ?_
  refine sw_aload_n (pc' := 25) (i := 0) cx dX10_addFine_24 rfl 1 rfl rfl ?_
  refine sw_iload (pc' := 27) (i := 5) cx dX10_addFine_25 0 rfl rfl ?_
  refine sw_iconst (pc' := 28) (v := 2) cx dX10_addFine_27 iconst_2 rfl ?_
  refine sw_iload_n (pc' := 29) (i := 3) cx dX10_addFine_28 rfl 4 rfl rfl ?_
  obtain ⟨r3, hr3, hf⟩ := bd_s hf
  refine sw_callVw (pc' := 32) (As := [.int (row ((4 : Int32)).toNatClampNeg), .int (2 : Int32), .int a2]) (rest := []) (w' := (mo_W h cI cJ r3 att fnd tape tmany sort begs tends word valu good bits size shts lent imag befo kept)) cx (k_X10_sets l D h cI cJ cK cS r2 att fnd tape tmany sort begs tends word valu good bits size shts lent imag befo kept (row ((4 : Int32)).toNatClampNeg) (2 : Int32) a2 r3 hr3) pk_yX10_sets ml_RX10_66 ⟨rfl, rfl⟩ ⟨(Nat.le_of_ble_eq_true rfl), (Nat.le_of_ble_eq_true rfl)⟩ ⟨(Nat.le_of_ble_eq_true rfl), (Nat.le_of_ble_eq_true rfl)⟩ 0 rfl rfl rfl rfl (Nat.le_of_ble_eq_true rfl) rfl dX10_addFine_29 rfl ?_
  refine sw_aload_n (pc' := 33) (i := 0) cx dX10_addFine_32 rfl 1 rfl rfl ?_
  refine sw_iload (pc' := 35) (i := 5) cx dX10_addFine_33 0 rfl rfl ?_
  refine sw_iconst (pc' := 36) (v := 3) cx dX10_addFine_35 iconst_3 rfl ?_
  refine sw_iload (pc' := 38) (i := 4) cx dX10_addFine_36 5 rfl rfl ?_
  obtain ⟨r4, hr4, hf⟩ := bd_s hf
  refine sw_callVw (pc' := 41) (As := [.int (row ((4 : Int32)).toNatClampNeg), .int (3 : Int32), .int a3]) (rest := []) (w' := (mo_W h cI cJ r4 att fnd tape tmany sort begs tends word valu good bits size shts lent imag befo kept)) cx (k_X10_sets l D h cI cJ cK cS r3 att fnd tape tmany sort begs tends word valu good bits size shts lent imag befo kept (row ((4 : Int32)).toNatClampNeg) (3 : Int32) a3 r4 hr4) pk_yX10_sets ml_RX10_66 ⟨rfl, rfl⟩ ⟨(Nat.le_of_ble_eq_true rfl), (Nat.le_of_ble_eq_true rfl)⟩ ⟨(Nat.le_of_ble_eq_true rfl), (Nat.le_of_ble_eq_true rfl)⟩ 0 rfl rfl rfl rfl (Nat.le_of_ble_eq_true rfl) rfl dX10_addFine_38 rfl ?_
  refine sw_aload_n (pc' := 42) (i := 0) cx dX10_addFine_41 rfl 1 rfl rfl ?_
  refine sw_iload (pc' := 44) (i := 5) cx dX10_addFine_42 0 rfl rfl ?_
  refine sw_iconst (pc' := 45) (v := 4) cx dX10_addFine_44 iconst_4 rfl ?_
  refine sw_iconst (pc' := 46) (v := 0) cx dX10_addFine_45 iconst_0 rfl ?_
  obtain ⟨r5, hr5, hf⟩ := bd_s hf
  refine sw_callVw (pc' := 49) (As := [.int (row ((4 : Int32)).toNatClampNeg), .int (4 : Int32), .int (0 : Int32)]) (rest := []) (w' := (mo_W h cI cJ r5 att fnd tape tmany sort begs tends word valu good bits size shts lent imag befo kept)) cx (k_X10_sets l D h cI cJ cK cS r4 att fnd tape tmany sort begs tends word valu good bits size shts lent imag befo kept (row ((4 : Int32)).toNatClampNeg) (4 : Int32) (0 : Int32) r5 hr5) pk_yX10_sets ml_RX10_66 ⟨rfl, rfl⟩ ⟨(Nat.le_of_ble_eq_true rfl), (Nat.le_of_ble_eq_true rfl)⟩ ⟨(Nat.le_of_ble_eq_true rfl), (Nat.le_of_ble_eq_true rfl)⟩ 0 rfl rfl rfl rfl (Nat.le_of_ble_eq_true rfl) rfl dX10_addFine_46 rfl ?_
  refine sw_aload_n (pc' := 50) (i := 0) cx dX10_addFine_49 rfl 1 rfl rfl ?_
  refine sw_get (pc' := 53) cx in_X10 0 rfl rfl 0 (Nat.le_of_ble_eq_true rfl) fl_RX10_7 rfl dX10_addFine_50 rfl ?_
  refine sw_iconst (pc' := 54) (v := 4) cx dX10_addFine_53 iconst_4 rfl ?_
  refine sw_dup2 (pc' := 55) cx dX10_addFine_54 rfl rfl rfl ?_
  refine sw_iald (pc' := 56) cx 1 0 rfl rfl vi_4_510 dX10_addFine_55 rfl ?_
  refine sw_iconst (pc' := 57) (v := 1) cx dX10_addFine_56 iconst_1 rfl ?_
  refine sw_iadd (pc' := 58) cx dX10_addFine_57 rfl ?_
  refine sw_iast (pc' := 59) (ws' := (mo_W h cI cJ (upd r5 ((4 : Int32)).toNatClampNeg ((r5 ((4 : Int32)).toNatClampNeg) + (1 : Int32))) att fnd tape tmany sort begs tends word valu good bits size shts lent imag befo kept)) cx 1 0 rfl rfl vi_4_510 dX10_addFine_58 rfl rfl ?_
  obtain rfl := Option.some.inj hf
  exact sw_vret cx hr hQ dX10_addFine_59
abbrev rm_X10_fine : Room := ({ frames := 2, cells := 0, slots := 0, locals := 48 } : Room)
set_option maxRecDepth 100000 in
set_option maxHeartbeats 4000000 in
theorem k_X10_fine (l : Launch) (D : sf_D) (h : Nat → Nat) (cI cJ cK cS : ClassId) (row : Nat → Int32) (att : Int32) (fnd : Nat → Int32) (tape : Nat → Int32) (tmany : Int32) (sort : Int32) (begs : Int32) (tends : Int32) (word : Int64) (valu : Int32) (good : Int32) (bits : Nat → Int32) (size : Nat → Int32) (shts : Nat → Int64) (lent : Nat → Int64) (imag : Nat → Int32) (befo : Nat → Int32) (kept : Int32) (a0 : Int32) (a1 : Int32) (a2 : Int32) (res : Int32 × (Nat → Int32) × (Nat → Int32)) (hf : f_X10_fine row att fnd a0 a1 a2 = some res) : sf_Ct l yX10_fine cX10_fine 4 (some .int) rm_X10_fine D (sf_ty cI cJ cK cS) [.ref (h 0), .int a0, .int a1, .int a2] (mo_W h cI cJ row att fnd tape tmany sort begs tends word valu good bits size shts lent imag befo kept) (some (.int res.1)) (mo_W h cI cJ res.2.1 att res.2.2 tape tmany sort begs tends word valu good bits size shts lent imag befo kept) := by
  refine sf_met (lv := [(0, .ref (h 0)), (1, .int a0), (2, .int a1), (3, .int a2)]) (by decide) (Nat.le_of_ble_eq_true rfl) rfl ?_
  intro p e s m args below meth c A Q cx hr hQ
  have cx : sf_Cx p m meth c cX10_fine 4 s args RX10 D (sf_ty cI cJ cK cS) A := cx
  have B24 : ∀ (row : Nat → Int32) (fnd : Nat → Int32), f_X10_fine_b24 att row fnd = some res → sf_W p l e rm_X10_fine s m args below meth c 0 0 Q 4 D A (mo_W h cI cJ row att fnd tape tmany sort begs tends word valu good bits size shts lent imag befo kept) [(0, .ref (h 0))] 24 [] := by
    intro row fnd hf
    unfold f_X10_fine_b24 at hf
    refine sw_aload_n (pc' := 25) (i := 0) cx dX10_fine_24 rfl 0 rfl rfl ?_
    refine sw_ldc (pc' := 27) cx ct_RX10_38 dX10_fine_25 rfl ?_
    obtain ⟨r10, hr10, hf⟩ := bd_s hf
    refine sw_callVw (pc' := 30) (As := [.int (-1000000001 : Int32)]) (rest := []) (w' := (mo_W h cI cJ row att r10.2 tape tmany sort begs tends word valu good bits size shts lent imag befo kept)) cx (k_X10_finds l D h cI cJ cK cS row att fnd tape tmany sort begs tends word valu good bits size shts lent imag befo kept (-1000000001 : Int32) r10 hr10) pk_yX10_finds ml_RX10_63 ⟨rfl, rfl⟩ ⟨(Nat.le_of_ble_eq_true rfl), (Nat.le_of_ble_eq_true rfl)⟩ ⟨(Nat.le_of_ble_eq_true rfl), (Nat.le_of_ble_eq_true rfl)⟩ 0 rfl rfl rfl rfl (Nat.le_of_ble_eq_true rfl) rfl dX10_fine_27 rfl ?_
    obtain rfl := Option.some.inj hf
    exact sw_iret cx hr hQ dX10_fine_30
  unfold f_X10_fine at hf
  refine sw_iload_n (pc' := 1) (i := 1) cx dX10_fine_0 rfl 1 rfl rfl ?_
  obtain ⟨r1, hr1, hf⟩ := bd_s hf
  refine sw_callS (pc' := 4) (As := [.int a0]) (rest := []) cx (k_X10_isKind l D h cI cJ cK cS a0 r1 hr1) pk_yX10_isKind ml_RX10_70 ⟨rfl, rfl⟩ ⟨(Nat.le_of_ble_eq_true rfl), (Nat.le_of_ble_eq_true rfl)⟩ ⟨(Nat.le_of_ble_eq_true rfl), (Nat.le_of_ble_eq_true rfl)⟩ [] rfl rfl rfl (wn := (mo_W h cI cJ row att fnd tape tmany sort begs tends word valu good bits size shts lent imag befo kept)) rfl rfl (Nat.le_of_ble_eq_true rfl) rfl dX10_fine_1 rfl ?_
  refine sw_if_eq (pc' := 7) (tgt := 24) cx dX10_fine_4 (by decide) rfl (fun c2 => ?_) (fun c2 => ?_)
  · replace hf := it_p c2 hf
    exact sw_lv [0] rfl (B24 row fnd hf)
  · replace hf := it_n c2 hf
    refine sw_iload_n (pc' := 8) (i := 2) cx dX10_fine_7 rfl 2 rfl rfl ?_
    refine sw_iconst (pc' := 9) (v := 1) cx dX10_fine_8 iconst_1 rfl ?_
    refine sw_bipush (pc' := 11) (v := 40) cx dX10_fine_9 bipush_40 rfl ?_
    obtain ⟨r3, hr3, hf⟩ := bd_s hf
    refine sw_callS (pc' := 14) (As := [.int a1, .int (1 : Int32), .int (40 : Int32)]) (rest := []) cx (k_X10_in l D h cI cJ cK cS a1 (1 : Int32) (40 : Int32) r3 hr3) pk_yX10_in ml_RX10_47 ⟨rfl, rfl⟩ ⟨(Nat.le_of_ble_eq_true rfl), (Nat.le_of_ble_eq_true rfl)⟩ ⟨(Nat.le_of_ble_eq_true rfl), (Nat.le_of_ble_eq_true rfl)⟩ [] rfl rfl rfl (wn := (mo_W h cI cJ row att fnd tape tmany sort begs tends word valu good bits size shts lent imag befo kept)) rfl rfl (Nat.le_of_ble_eq_true rfl) rfl dX10_fine_11 rfl ?_
    refine sw_if_eq (pc' := 17) (tgt := 24) cx dX10_fine_14 (by decide) rfl (fun c4 => ?_) (fun c4 => ?_)
    · replace hf := it_p c4 hf
      exact sw_lv [0] rfl (B24 row fnd hf)
    · replace hf := it_n c4 hf
      refine sw_iload_n (pc' := 18) (i := 3) cx dX10_fine_17 rfl 3 rfl rfl ?_
      obtain ⟨r5, hr5, hf⟩ := bd_s hf
      refine sw_callS (pc' := 21) (As := [.int a2]) (rest := []) cx (k_X10_isPlace l D h cI cJ cK cS a2 r5 hr5) pk_yX10_isPlace ml_RX10_59 ⟨rfl, rfl⟩ ⟨(Nat.le_of_ble_eq_true rfl), (Nat.le_of_ble_eq_true rfl)⟩ ⟨(Nat.le_of_ble_eq_true rfl), (Nat.le_of_ble_eq_true rfl)⟩ [] rfl rfl rfl (wn := (mo_W h cI cJ row att fnd tape tmany sort begs tends word valu good bits size shts lent imag befo kept)) rfl rfl (Nat.le_of_ble_eq_true rfl) rfl dX10_fine_18 rfl ?_
      refine sw_if_ne (pc' := 24) (tgt := 31) cx dX10_fine_21 (by decide) rfl (fun c6 => ?_) (fun c6 => ?_)
      · replace hf := it_n c6 hf
        refine sw_aload_n (pc' := 32) (i := 0) cx dX10_fine_31 rfl 0 rfl rfl ?_
        refine sw_get (pc' := 35) cx in_X10 0 rfl rfl 0 (Nat.le_of_ble_eq_true rfl) fl_RX10_7 rfl dX10_fine_32 rfl ?_
        refine sw_iconst (pc' := 36) (v := 4) cx dX10_fine_35 iconst_4 rfl ?_
        refine sw_iald (pc' := 37) cx 1 0 rfl rfl vi_4_510 dX10_fine_36 rfl ?_
        refine sw_bipush (pc' := 39) (v := 10) cx dX10_fine_37 bipush_10 rfl ?_
        refine sw_icmp_ne (pc' := 42) (tgt := 49) cx dX10_fine_39 (by decide) rfl (fun c7 => ?_) (fun c7 => ?_)
        · replace hf := it_n c7 hf
          refine sw_aload_n (pc' := 50) (i := 0) cx dX10_fine_49 rfl 0 rfl rfl ?_
          refine sw_iload_n (pc' := 51) (i := 1) cx dX10_fine_50 rfl 1 rfl rfl ?_
          refine sw_iload_n (pc' := 52) (i := 2) cx dX10_fine_51 rfl 2 rfl rfl ?_
          refine sw_iload_n (pc' := 53) (i := 3) cx dX10_fine_52 rfl 3 rfl rfl ?_
          refine sw_iconst (pc' := 54) (v := 3) cx dX10_fine_53 iconst_3 rfl ?_
          obtain ⟨r8, hr8, hf⟩ := bd_s hf
          refine sw_callVw (pc' := 57) (As := [.int a0, .int a1, .int a2, .int (3 : Int32)]) (rest := []) (w' := (mo_W h cI cJ r8 att fnd tape tmany sort begs tends word valu good bits size shts lent imag befo kept)) cx (k_X10_addFine l D h cI cJ cK cS row att fnd tape tmany sort begs tends word valu good bits size shts lent imag befo kept a0 a1 a2 (3 : Int32) r8 hr8) pk_yX10_addFine ml_RX10_74 ⟨rfl, rfl⟩ ⟨(Nat.le_of_ble_eq_true rfl), (Nat.le_of_ble_eq_true rfl)⟩ ⟨(Nat.le_of_ble_eq_true rfl), (Nat.le_of_ble_eq_true rfl)⟩ 0 rfl rfl rfl rfl (Nat.le_of_ble_eq_true rfl) rfl dX10_fine_54 rfl ?_
          refine sw_aload_n (pc' := 58) (i := 0) cx dX10_fine_57 rfl 0 rfl rfl ?_
          refine sw_get (pc' := 61) cx in_X10 0 rfl rfl 0 (Nat.le_of_ble_eq_true rfl) fl_RX10_7 rfl dX10_fine_58 rfl ?_
          refine sw_iconst (pc' := 62) (v := 4) cx dX10_fine_61 iconst_4 rfl ?_
          refine sw_iald (pc' := 63) cx 1 0 rfl rfl vi_4_510 dX10_fine_62 rfl ?_
          refine sw_iconst (pc' := 64) (v := 1) cx dX10_fine_63 iconst_1 rfl ?_
          refine sw_isub (pc' := 65) cx dX10_fine_64 rfl ?_
          obtain rfl := Option.some.inj hf
          exact sw_iret cx hr hQ dX10_fine_65
        · replace hf := it_p c7 hf
          refine sw_aload_n (pc' := 43) (i := 0) cx dX10_fine_42 rfl 0 rfl rfl ?_
          refine sw_ldc (pc' := 45) cx ct_RX10_73 dX10_fine_43 rfl ?_
          obtain ⟨r9, hr9, hf⟩ := bd_s hf
          refine sw_callVw (pc' := 48) (As := [.int (-1000000002 : Int32)]) (rest := []) (w' := (mo_W h cI cJ row att r9.2 tape tmany sort begs tends word valu good bits size shts lent imag befo kept)) cx (k_X10_finds l D h cI cJ cK cS row att fnd tape tmany sort begs tends word valu good bits size shts lent imag befo kept (-1000000002 : Int32) r9 hr9) pk_yX10_finds ml_RX10_63 ⟨rfl, rfl⟩ ⟨(Nat.le_of_ble_eq_true rfl), (Nat.le_of_ble_eq_true rfl)⟩ ⟨(Nat.le_of_ble_eq_true rfl), (Nat.le_of_ble_eq_true rfl)⟩ 0 rfl rfl rfl rfl (Nat.le_of_ble_eq_true rfl) rfl dX10_fine_45 rfl ?_
          obtain rfl := Option.some.inj hf
          exact sw_iret cx hr hQ dX10_fine_48
      · replace hf := it_p c6 hf
        exact sw_lv [0] rfl (B24 row fnd hf)
abbrev rm_X10_cutBy : Room := ({ frames := 2, cells := 0, slots := 0, locals := 42 } : Room)
set_option maxRecDepth 100000 in
set_option maxHeartbeats 4000000 in
theorem k_X10_cutBy (l : Launch) (D : sf_D) (h : Nat → Nat) (cI cJ cK cS : ClassId) (row : Nat → Int32) (att : Int32) (fnd : Nat → Int32) (tape : Nat → Int32) (tmany : Int32) (sort : Int32) (begs : Int32) (tends : Int32) (word : Int64) (valu : Int32) (good : Int32) (bits : Nat → Int32) (size : Nat → Int32) (shts : Nat → Int64) (lent : Nat → Int64) (imag : Nat → Int32) (befo : Nat → Int32) (kept : Int32) (a0 : Int32) (res : Int32) (hf : f_X10_cutBy row att a0 = some res) : sf_Ct l yX10_cutBy cX10_cutBy 4 (some .int) rm_X10_cutBy D (sf_ty cI cJ cK cS) [.ref (h 0), .int a0] (mo_W h cI cJ row att fnd tape tmany sort begs tends word valu good bits size shts lent imag befo kept) (some (.int res)) (mo_W h cI cJ row att fnd tape tmany sort begs tends word valu good bits size shts lent imag befo kept) := by
  refine sf_met (lv := [(0, .ref (h 0)), (1, .int a0)]) (by decide) (Nat.le_of_ble_eq_true rfl) rfl ?_
  intro p e s m args below meth c A Q cx hr hQ
  have cx : sf_Cx p m meth c cX10_cutBy 4 s args RX10 D (sf_ty cI cJ cK cS) A := cx
  have B36 : ∀ (kk : Int32 → Int32 → Int32 → Option (Int32)), (∀ (x1 : Int32) (x2 : Int32) (x3 : Int32), kk x1 x2 x3 = some res → sf_W p l e rm_X10_cutBy s m args below meth c 0 0 Q 4 D A (mo_W h cI cJ row att fnd tape tmany sort begs tends word valu good bits size shts lent imag befo kept) [(0, .ref (h 0)), (1, .int x1), (2, .int x2), (3, .int x3)] 4 []) → ∀ (x1 : Int32) (x3 : Int32) (s0 : Int32) (s1 : Int32), f_X10_cutBy_b36 row att kk x1 x3 s0 s1 = some res → sf_W p l e rm_X10_cutBy s m args below meth c 0 0 Q 4 D A (mo_W h cI cJ row att fnd tape tmany sort begs tends word valu good bits size shts lent imag befo kept) [(0, .ref (h 0)), (1, .int x1), (3, .int x3)] 36 [.int s0, .int s1] := by
    intro kk hkk x1 x3 s0 s1 hf
    unfold f_X10_cutBy_b36 at hf
    refine sw_iadd (pc' := 37) cx dX10_cutBy_36 rfl ?_
    refine sw_istore_n (pc' := 38) (i := 2) (lv' := [(2, .int (s1 + s0)), (0, .ref (h 0)), (1, .int x1), (3, .int x3)]) cx dX10_cutBy_37 rfl (Nat.le_of_ble_eq_true rfl) rfl rfl ?_
    refine sw_iinc (pc' := 41) (v := (x3 + (1 : Int32))) (lv' := [(3, .int (x3 + (1 : Int32))), (2, .int (s1 + s0)), (0, .ref (h 0)), (1, .int x1)]) cx dX10_cutBy_38 3 rfl rfl (Nat.le_of_ble_eq_true rfl) rfl rfl ?_
    refine sw_goto (tgt := 4) cx dX10_cutBy_41 (by decide) ?_
    exact sw_lv [2, 3, 1, 0] rfl (hkk x1 (s1 + s0) (x3 + (1 : Int32)) hf)
  have B35 : ∀ (kk : Int32 → Int32 → Int32 → Option (Int32)), (∀ (x1 : Int32) (x2 : Int32) (x3 : Int32), kk x1 x2 x3 = some res → sf_W p l e rm_X10_cutBy s m args below meth c 0 0 Q 4 D A (mo_W h cI cJ row att fnd tape tmany sort begs tends word valu good bits size shts lent imag befo kept) [(0, .ref (h 0)), (1, .int x1), (2, .int x2), (3, .int x3)] 4 []) → ∀ (x1 : Int32) (x3 : Int32) (s0 : Int32), f_X10_cutBy_b35 row att kk x1 x3 s0 = some res → sf_W p l e rm_X10_cutBy s m args below meth c 0 0 Q 4 D A (mo_W h cI cJ row att fnd tape tmany sort begs tends word valu good bits size shts lent imag befo kept) [(0, .ref (h 0)), (1, .int x1), (3, .int x3)] 35 [.int s0] := by
    intro kk hkk x1 x3 s0 hf
    unfold f_X10_cutBy_b35 at hf
    refine sw_iconst (pc' := 36) (v := 0) cx dX10_cutBy_35 iconst_0 rfl ?_
    exact sw_lv [0, 1, 2] rfl (B36 kk hkk x1 x3 (0 : Int32) s0 hf)
  have B4 : ∀ (n : Nat), ∀ (x1 : Int32) (x2 : Int32) (x3 : Int32), f_X10_cutBy_b4 row att n x1 x2 x3 = some res → sf_W p l e rm_X10_cutBy s m args below meth c 0 0 Q 4 D A (mo_W h cI cJ row att fnd tape tmany sort begs tends word valu good bits size shts lent imag befo kept) [(0, .ref (h 0)), (1, .int x1), (2, .int x2), (3, .int x3)] 4 [] := by
    intro n
    induction n with
    | zero => intro x1 x2 x3 hf; rw [f_X10_cutBy_b4] at hf; cases hf
    | succ n ih =>
      intro x1 x2 x3 hf
      rw [f_X10_cutBy_b4] at hf
      refine sw_iload_n (pc' := 5) (i := 3) cx dX10_cutBy_4 rfl 3 rfl rfl ?_
      refine sw_bipush (pc' := 7) (v := 40) cx dX10_cutBy_5 bipush_40 rfl ?_
      refine sw_icmp_ge (pc' := 10) (tgt := 44) cx dX10_cutBy_7 (by decide) rfl (fun c1 => ?_) (fun c1 => ?_)
      · replace hf := it_p c1 hf
        refine sw_iload_n (pc' := 45) (i := 2) cx dX10_cutBy_44 rfl 2 rfl rfl ?_
        obtain rfl := Option.some.inj hf
        exact sw_iret cx hr hQ dX10_cutBy_45
      · replace hf := it_n c1 hf
        refine sw_iload_n (pc' := 11) (i := 2) cx dX10_cutBy_10 rfl 2 rfl rfl ?_
        refine sw_aload_n (pc' := 12) (i := 0) cx dX10_cutBy_11 rfl 0 rfl rfl ?_
        refine sw_iload_n (pc' := 13) (i := 3) cx dX10_cutBy_12 rfl 3 rfl rfl ?_
        obtain ⟨r2, hr2, hf⟩ := bd_s hf
        refine sw_callVw (pc' := 16) (As := [.int x3]) (rest := [.int x2]) (w' := (mo_W h cI cJ row att fnd tape tmany sort begs tends word valu good bits size shts lent imag befo kept)) cx (k_X10_isWhole l D h cI cJ cK cS row att fnd tape tmany sort begs tends word valu good bits size shts lent imag befo kept x3 r2 hr2) pk_yX10_isWhole ml_RX10_78 ⟨rfl, rfl⟩ ⟨(Nat.le_of_ble_eq_true rfl), (Nat.le_of_ble_eq_true rfl)⟩ ⟨(Nat.le_of_ble_eq_true rfl), (Nat.le_of_ble_eq_true rfl)⟩ 0 rfl rfl rfl rfl (Nat.le_of_ble_eq_true rfl) rfl dX10_cutBy_13 rfl ?_
        refine sw_if_eq (pc' := 19) (tgt := 35) cx dX10_cutBy_16 (by decide) rfl (fun c3 => ?_) (fun c3 => ?_)
        · replace hf := it_p c3 hf
          exact sw_lv [0, 1, 3] rfl (B35 _ ih x1 x3 x2 hf)
        · replace hf := it_n c3 hf
          refine sw_aload_n (pc' := 20) (i := 0) cx dX10_cutBy_19 rfl 0 rfl rfl ?_
          refine sw_bipush (pc' := 22) (v := 125) cx dX10_cutBy_20 bipush_125 rfl ?_
          refine sw_iload_n (pc' := 23) (i := 3) cx dX10_cutBy_22 rfl 3 rfl rfl ?_
          refine sw_iadd (pc' := 24) cx dX10_cutBy_23 rfl ?_
          obtain ⟨r4, hr4, hf⟩ := bd_s hf
          refine sw_callVw (pc' := 27) (As := [.int ((125 : Int32) + x3)]) (rest := [.int x2]) (w' := (mo_W h cI cJ row att fnd tape tmany sort begs tends word valu good bits size shts lent imag befo kept)) cx (k_X10_its l D h cI cJ cK cS row att fnd tape tmany sort begs tends word valu good bits size shts lent imag befo kept ((125 : Int32) + x3) r4 hr4) pk_yX10_its ml_RX10_43 ⟨rfl, rfl⟩ ⟨(Nat.le_of_ble_eq_true rfl), (Nat.le_of_ble_eq_true rfl)⟩ ⟨(Nat.le_of_ble_eq_true rfl), (Nat.le_of_ble_eq_true rfl)⟩ 0 rfl rfl rfl rfl (Nat.le_of_ble_eq_true rfl) rfl dX10_cutBy_24 rfl ?_
          refine sw_iload_n (pc' := 28) (i := 1) cx dX10_cutBy_27 rfl 1 rfl rfl ?_
          refine sw_icmp_ne (pc' := 31) (tgt := 35) cx dX10_cutBy_28 (by decide) rfl (fun c5 => ?_) (fun c5 => ?_)
          · replace hf := it_n c5 hf
            exact sw_lv [0, 1, 3] rfl (B35 _ ih x1 x3 x2 hf)
          · replace hf := it_p c5 hf
            refine sw_iconst (pc' := 32) (v := 1) cx dX10_cutBy_31 iconst_1 rfl ?_
            refine sw_goto (tgt := 36) cx dX10_cutBy_32 (by decide) ?_
            exact sw_lv [0, 1, 3] rfl (B36 _ ih x1 x3 (1 : Int32) x2 hf)
  unfold f_X10_cutBy at hf
  refine sw_iconst (pc' := 1) (v := 0) cx dX10_cutBy_0 iconst_0 rfl ?_
  refine sw_istore_n (pc' := 2) (i := 2) (lv' := [(2, .int (0 : Int32)), (0, .ref (h 0)), (1, .int a0)]) cx dX10_cutBy_1 rfl (Nat.le_of_ble_eq_true rfl) rfl rfl ?_
  refine sw_iconst (pc' := 3) (v := 0) cx dX10_cutBy_2 iconst_0 rfl ?_
  refine sw_istore_n (pc' := 4) (i := 3) (lv' := [(3, .int (0 : Int32)), (2, .int (0 : Int32)), (0, .ref (h 0)), (1, .int a0)]) cx dX10_cutBy_3 rfl (Nat.le_of_ble_eq_true rfl) rfl rfl ?_
  exact sw_lv [2, 3, 1, 0] rfl (B4 1000 a0 (0 : Int32) (0 : Int32) hf)
abbrev rm_X10_of : Room := ({ frames := 3, cells := 0, slots := 0, locals := 65 } : Room)
set_option maxRecDepth 100000 in
set_option maxHeartbeats 4000000 in
theorem k_X10_of (l : Launch) (D : sf_D) (h : Nat → Nat) (cI cJ cK cS : ClassId) (row : Nat → Int32) (att : Int32) (fnd : Nat → Int32) (tape : Nat → Int32) (tmany : Int32) (sort : Int32) (begs : Int32) (tends : Int32) (word : Int64) (valu : Int32) (good : Int32) (bits : Nat → Int32) (size : Nat → Int32) (shts : Nat → Int64) (lent : Nat → Int64) (imag : Nat → Int32) (befo : Nat → Int32) (kept : Int32) (a0 : Int32) (a1 : Int32) (res : Int32 × (Nat → Int32)) (hf : f_X10_of row att fnd a0 a1 = some res) : sf_Ct l yX10_of cX10_of 3 (some .int) rm_X10_of D (sf_ty cI cJ cK cS) [.ref (h 0), .int a0, .int a1] (mo_W h cI cJ row att fnd tape tmany sort begs tends word valu good bits size shts lent imag befo kept) (some (.int res.1)) (mo_W h cI cJ row att res.2 tape tmany sort begs tends word valu good bits size shts lent imag befo kept) := by
  refine sf_met (lv := [(0, .ref (h 0)), (1, .int a0), (2, .int a1)]) (by decide) (Nat.le_of_ble_eq_true rfl) rfl ?_
  intro p e s m args below meth c A Q cx hr hQ
  have cx : sf_Cx p m meth c cX10_of 3 s args RX10 D (sf_ty cI cJ cK cS) A := cx
  have B18 : ∀ (fnd : Nat → Int32), f_X10_of_b18 row att fnd = some res → sf_W p l e rm_X10_of s m args below meth c 0 0 Q 3 D A (mo_W h cI cJ row att fnd tape tmany sort begs tends word valu good bits size shts lent imag befo kept) [(0, .ref (h 0))] 18 [] := by
    intro fnd hf
    unfold f_X10_of_b18 at hf
    refine sw_aload_n (pc' := 19) (i := 0) cx dX10_of_18 rfl 0 rfl rfl ?_
    refine sw_ldc (pc' := 21) cx ct_RX10_38 dX10_of_19 rfl ?_
    obtain ⟨r13, hr13, hf⟩ := bd_s hf
    refine sw_callVw (pc' := 24) (As := [.int (-1000000001 : Int32)]) (rest := []) (w' := (mo_W h cI cJ row att r13.2 tape tmany sort begs tends word valu good bits size shts lent imag befo kept)) cx (k_X10_finds l D h cI cJ cK cS row att fnd tape tmany sort begs tends word valu good bits size shts lent imag befo kept (-1000000001 : Int32) r13 hr13) pk_yX10_finds ml_RX10_63 ⟨rfl, rfl⟩ ⟨(Nat.le_of_ble_eq_true rfl), (Nat.le_of_ble_eq_true rfl)⟩ ⟨(Nat.le_of_ble_eq_true rfl), (Nat.le_of_ble_eq_true rfl)⟩ 0 rfl rfl rfl rfl (Nat.le_of_ble_eq_true rfl) rfl dX10_of_21 rfl ?_
    obtain rfl := Option.some.inj hf
    exact sw_iret cx hr hQ dX10_of_24
  unfold f_X10_of at hf
  refine sw_aload_n (pc' := 1) (i := 0) cx dX10_of_0 rfl 0 rfl rfl ?_
  refine sw_iload_n (pc' := 2) (i := 1) cx dX10_of_1 rfl 1 rfl rfl ?_
  obtain ⟨r1, hr1, hf⟩ := bd_s hf
  refine sw_callVw (pc' := 5) (As := [.int a0]) (rest := []) (w' := (mo_W h cI cJ row att fnd tape tmany sort begs tends word valu good bits size shts lent imag befo kept)) cx (k_X10_isFine l D h cI cJ cK cS row att fnd tape tmany sort begs tends word valu good bits size shts lent imag befo kept a0 r1 hr1) pk_yX10_isFine ml_RX10_81 ⟨rfl, rfl⟩ ⟨(Nat.le_of_ble_eq_true rfl), (Nat.le_of_ble_eq_true rfl)⟩ ⟨(Nat.le_of_ble_eq_true rfl), (Nat.le_of_ble_eq_true rfl)⟩ 0 rfl rfl rfl rfl (Nat.le_of_ble_eq_true rfl) rfl dX10_of_2 rfl ?_
  refine sw_if_eq (pc' := 8) (tgt := 18) cx dX10_of_5 (by decide) rfl (fun c2 => ?_) (fun c2 => ?_)
  · replace hf := it_p c2 hf
    exact sw_lv [0] rfl (B18 fnd hf)
  · replace hf := it_n c2 hf
    refine sw_iload_n (pc' := 9) (i := 2) cx dX10_of_8 rfl 2 rfl rfl ?_
    refine sw_iconst (pc' := 10) (v := 0) cx dX10_of_9 iconst_0 rfl ?_
    refine sw_bipush (pc' := 12) (v := 7) cx dX10_of_10 bipush_7 rfl ?_
    obtain ⟨r3, hr3, hf⟩ := bd_s hf
    refine sw_callS (pc' := 15) (As := [.int a1, .int (0 : Int32), .int (7 : Int32)]) (rest := []) cx (k_X10_in l D h cI cJ cK cS a1 (0 : Int32) (7 : Int32) r3 hr3) pk_yX10_in ml_RX10_47 ⟨rfl, rfl⟩ ⟨(Nat.le_of_ble_eq_true rfl), (Nat.le_of_ble_eq_true rfl)⟩ ⟨(Nat.le_of_ble_eq_true rfl), (Nat.le_of_ble_eq_true rfl)⟩ [] rfl rfl rfl (wn := (mo_W h cI cJ row att fnd tape tmany sort begs tends word valu good bits size shts lent imag befo kept)) rfl rfl (Nat.le_of_ble_eq_true rfl) rfl dX10_of_12 rfl ?_
    refine sw_if_ne (pc' := 18) (tgt := 25) cx dX10_of_15 (by decide) rfl (fun c4 => ?_) (fun c4 => ?_)
    · replace hf := it_n c4 hf
      refine sw_iload_n (pc' := 26) (i := 2) cx dX10_of_25 rfl 2 rfl rfl ?_
      by_cases c5 : a1 = (5 : Int32)
      · replace hf := it_p c5 hf
        refine sw_tableEq (tgt := 52) cx c5 dX10_of_26 (by decide +kernel) (by decide +kernel) rfl (by decide) ?_
        refine sw_aload_n (pc' := 53) (i := 0) cx dX10_of_52 rfl 0 rfl rfl ?_
        refine sw_iload_n (pc' := 54) (i := 1) cx dX10_of_53 rfl 1 rfl rfl ?_
        obtain ⟨r6, hr6, hf⟩ := bd_s hf
        refine sw_callVw (pc' := 57) (As := [.int a0]) (rest := []) (w' := (mo_W h cI cJ row att fnd tape tmany sort begs tends word valu good bits size shts lent imag befo kept)) cx (k_X10_works l D h cI cJ cK cS row att fnd tape tmany sort begs tends word valu good bits size shts lent imag befo kept a0 r6 hr6) pk_yX10_works ml_RX10_84 ⟨rfl, rfl⟩ ⟨(Nat.le_of_ble_eq_true rfl), (Nat.le_of_ble_eq_true rfl)⟩ ⟨(Nat.le_of_ble_eq_true rfl), (Nat.le_of_ble_eq_true rfl)⟩ 0 rfl rfl rfl rfl (Nat.le_of_ble_eq_true rfl) rfl dX10_of_54 rfl ?_
        obtain rfl := Option.some.inj hf
        exact sw_iret cx hr hQ dX10_of_57
      replace hf := it_n c5 hf
      by_cases c7 : a1 = (6 : Int32)
      · replace hf := it_p c7 hf
        refine sw_tableEq (tgt := 58) cx c7 dX10_of_26 (by decide +kernel) (by decide +kernel) rfl (by decide) ?_
        refine sw_aload_n (pc' := 59) (i := 0) cx dX10_of_58 rfl 0 rfl rfl ?_
        refine sw_iload_n (pc' := 60) (i := 1) cx dX10_of_59 rfl 1 rfl rfl ?_
        refine sw_aload_n (pc' := 61) (i := 0) cx dX10_of_60 rfl 0 rfl rfl ?_
        refine sw_iload_n (pc' := 62) (i := 1) cx dX10_of_61 rfl 1 rfl rfl ?_
        refine sw_iconst (pc' := 63) (v := 2) cx dX10_of_62 iconst_2 rfl ?_
        obtain ⟨r8, hr8, hf⟩ := bd_s hf
        refine sw_callVw (pc' := 66) (As := [.int a0, .int (2 : Int32)]) (rest := [.int a0, .ref (h 0)]) (w' := (mo_W h cI cJ row att fnd tape tmany sort begs tends word valu good bits size shts lent imag befo kept)) cx (k_X10_fineOf l D h cI cJ cK cS row att fnd tape tmany sort begs tends word valu good bits size shts lent imag befo kept a0 (2 : Int32) r8 hr8) pk_yX10_fineOf ml_RX10_51 ⟨rfl, rfl⟩ ⟨(Nat.le_of_ble_eq_true rfl), (Nat.le_of_ble_eq_true rfl)⟩ ⟨(Nat.le_of_ble_eq_true rfl), (Nat.le_of_ble_eq_true rfl)⟩ 0 rfl rfl rfl rfl (Nat.le_of_ble_eq_true rfl) rfl dX10_of_63 rfl ?_
        obtain ⟨r9, hr9, hf⟩ := bd_s hf
        refine sw_callVw (pc' := 69) (As := [.int a0, .int r8]) (rest := []) (w' := (mo_W h cI cJ row att fnd tape tmany sort begs tends word valu good bits size shts lent imag befo kept)) cx (k_X10_highAt l D h cI cJ cK cS row att fnd tape tmany sort begs tends word valu good bits size shts lent imag befo kept a0 r8 r9 hr9) pk_yX10_highAt ml_RX10_87 ⟨rfl, rfl⟩ ⟨(Nat.le_of_ble_eq_true rfl), (Nat.le_of_ble_eq_true rfl)⟩ ⟨(Nat.le_of_ble_eq_true rfl), (Nat.le_of_ble_eq_true rfl)⟩ 0 rfl rfl rfl rfl (Nat.le_of_ble_eq_true rfl) rfl dX10_of_66 rfl ?_
        obtain rfl := Option.some.inj hf
        exact sw_iret cx hr hQ dX10_of_69
      replace hf := it_n c7 hf
      by_cases c10 : a1 = (7 : Int32)
      · replace hf := it_p c10 hf
        refine sw_tableEq (tgt := 70) cx c10 dX10_of_26 (by decide +kernel) (by decide +kernel) rfl (by decide) ?_
        refine sw_aload_n (pc' := 71) (i := 0) cx dX10_of_70 rfl 0 rfl rfl ?_
        refine sw_iload_n (pc' := 72) (i := 1) cx dX10_of_71 rfl 1 rfl rfl ?_
        obtain ⟨r11, hr11, hf⟩ := bd_s hf
        refine sw_callVw (pc' := 75) (As := [.int a0]) (rest := []) (w' := (mo_W h cI cJ row att fnd tape tmany sort begs tends word valu good bits size shts lent imag befo kept)) cx (k_X10_cutBy l D h cI cJ cK cS row att fnd tape tmany sort begs tends word valu good bits size shts lent imag befo kept a0 r11 hr11) pk_yX10_cutBy ml_RX10_90 ⟨rfl, rfl⟩ ⟨(Nat.le_of_ble_eq_true rfl), (Nat.le_of_ble_eq_true rfl)⟩ ⟨(Nat.le_of_ble_eq_true rfl), (Nat.le_of_ble_eq_true rfl)⟩ 0 rfl rfl rfl rfl (Nat.le_of_ble_eq_true rfl) rfl dX10_of_72 rfl ?_
        obtain rfl := Option.some.inj hf
        exact sw_iret cx hr hQ dX10_of_75
      replace hf := it_n c10 hf
      refine sw_tableOut (tgt := 76) cx dX10_of_26 (by have := sf_ne (k := 5) c5 (by decide +kernel); have := sf_ne (k := 6) c7 (by decide +kernel); have := sf_ne (k := 7) c10 (by decide +kernel); omega) (by decide) ?_
      refine sw_aload_n (pc' := 77) (i := 0) cx dX10_of_76 rfl 0 rfl rfl ?_
      refine sw_iload_n (pc' := 78) (i := 1) cx dX10_of_77 rfl 1 rfl rfl ?_
      refine sw_iload_n (pc' := 79) (i := 2) cx dX10_of_78 rfl 2 rfl rfl ?_
      obtain ⟨r12, hr12, hf⟩ := bd_s hf
      refine sw_callVw (pc' := 82) (As := [.int a0, .int a1]) (rest := []) (w' := (mo_W h cI cJ row att fnd tape tmany sort begs tends word valu good bits size shts lent imag befo kept)) cx (k_X10_fineOf l D h cI cJ cK cS row att fnd tape tmany sort begs tends word valu good bits size shts lent imag befo kept a0 a1 r12 hr12) pk_yX10_fineOf ml_RX10_51 ⟨rfl, rfl⟩ ⟨(Nat.le_of_ble_eq_true rfl), (Nat.le_of_ble_eq_true rfl)⟩ ⟨(Nat.le_of_ble_eq_true rfl), (Nat.le_of_ble_eq_true rfl)⟩ 0 rfl rfl rfl rfl (Nat.le_of_ble_eq_true rfl) rfl dX10_of_79 rfl ?_
      obtain rfl := Option.some.inj hf
      exact sw_iret cx hr hQ dX10_of_82
    · replace hf := it_p c4 hf
      exact sw_lv [0] rfl (B18 fnd hf)
abbrev rm_X10_isPart : Room := ({ frames := 2, cells := 0, slots := 0, locals := 42 } : Room)
set_option maxRecDepth 100000 in
set_option maxHeartbeats 4000000 in
theorem k_X10_isPart (l : Launch) (D : sf_D) (h : Nat → Nat) (cI cJ cK cS : ClassId)  (a0 : Int32) (a1 : Int32) (res : Int32) (hf : f_X10_isPart a0 a1 = some res) : sf_Ct l yX10_isPart cX10_isPart 2 (some .boolean) rm_X10_isPart D (sf_ty cI cJ cK cS) [.int a0, .int a1] [] (some (.int res)) [] := by
  refine sf_met (lv := [(0, .int a0), (1, .int a1)]) (by decide) (Nat.le_of_ble_eq_true rfl) rfl ?_
  intro p e s m args below meth c A Q cx hr hQ
  have cx : sf_Cx p m meth c cX10_isPart 2 s args RX10 D (sf_ty cI cJ cK cS) A := cx
  unfold f_X10_isPart at hf
  refine sw_iload_n (pc' := 1) (i := 0) cx dX10_isPart_0 rfl 0 rfl rfl ?_
  refine sw_iconst (pc' := 2) (v := 1) cx dX10_isPart_1 iconst_1 rfl ?_
  refine sw_icmp_ne (pc' := 5) (tgt := 15) cx dX10_isPart_2 (by decide) rfl (fun c1 => ?_) (fun c1 => ?_)
  · replace hf := it_n c1 hf
    refine sw_iload_n (pc' := 16) (i := 0) cx dX10_isPart_15 rfl 0 rfl rfl ?_
    refine sw_iconst (pc' := 17) (v := 2) cx dX10_isPart_16 iconst_2 rfl ?_
    refine sw_icmp_ne (pc' := 20) (tgt := 27) cx dX10_isPart_17 (by decide) rfl (fun c2 => ?_) (fun c2 => ?_)
    · replace hf := it_n c2 hf
      refine sw_iload_n (pc' := 28) (i := 0) cx dX10_isPart_27 rfl 0 rfl rfl ?_
      refine sw_iconst (pc' := 29) (v := 3) cx dX10_isPart_28 iconst_3 rfl ?_
      refine sw_icmp_ne (pc' := 32) (tgt := 46) cx dX10_isPart_29 (by decide) rfl (fun c3 => ?_) (fun c3 => ?_)
      · replace hf := it_n c3 hf
        refine sw_iconst (pc' := 47) (v := 0) cx dX10_isPart_46 iconst_0 rfl ?_
        obtain rfl := Option.some.inj hf
        exact sw_zret cx hr (by decide +kernel) hQ dX10_isPart_47
      · replace hf := it_p c3 hf
        refine sw_iload_n (pc' := 33) (i := 1) cx dX10_isPart_32 rfl 1 rfl rfl ?_
        refine sw_iconst (pc' := 34) (v := 1) cx dX10_isPart_33 iconst_1 rfl ?_
        refine sw_bipush (pc' := 36) (v := 9) cx dX10_isPart_34 bipush_9 rfl ?_
        obtain ⟨r4, hr4, hf⟩ := bd_s hf
        refine sw_callS (pc' := 39) (As := [.int a1, .int (1 : Int32), .int (9 : Int32)]) (rest := []) cx (k_X10_in l D h cI cJ cK cS a1 (1 : Int32) (9 : Int32) r4 hr4) pk_yX10_in ml_RX10_47 ⟨rfl, rfl⟩ ⟨(Nat.le_of_ble_eq_true rfl), (Nat.le_of_ble_eq_true rfl)⟩ ⟨(Nat.le_of_ble_eq_true rfl), (Nat.le_of_ble_eq_true rfl)⟩ [] rfl rfl rfl (wn := []) rfl rfl (Nat.le_of_ble_eq_true rfl) rfl dX10_isPart_36 rfl ?_
        refine sw_if_eq (pc' := 42) (tgt := 46) cx dX10_isPart_39 (by decide) rfl (fun c5 => ?_) (fun c5 => ?_)
        · replace hf := it_p c5 hf
          refine sw_iconst (pc' := 47) (v := 0) cx dX10_isPart_46 iconst_0 rfl ?_
          obtain rfl := Option.some.inj hf
          exact sw_zret cx hr (by decide +kernel) hQ dX10_isPart_47
        · replace hf := it_n c5 hf
          refine sw_iconst (pc' := 43) (v := 1) cx dX10_isPart_42 iconst_1 rfl ?_
          refine sw_goto (tgt := 47) cx dX10_isPart_43 (by decide) ?_
          obtain rfl := Option.some.inj hf
          exact sw_zret cx hr (by decide +kernel) hQ dX10_isPart_47
    · replace hf := it_p c2 hf
      refine sw_iload_n (pc' := 21) (i := 1) cx dX10_isPart_20 rfl 1 rfl rfl ?_
      obtain ⟨r6, hr6, hf⟩ := bd_s hf
      refine sw_callS (pc' := 24) (As := [.int a1]) (rest := []) cx (k_X10_isPlace l D h cI cJ cK cS a1 r6 hr6) pk_yX10_isPlace ml_RX10_59 ⟨rfl, rfl⟩ ⟨(Nat.le_of_ble_eq_true rfl), (Nat.le_of_ble_eq_true rfl)⟩ ⟨(Nat.le_of_ble_eq_true rfl), (Nat.le_of_ble_eq_true rfl)⟩ [] rfl rfl rfl (wn := []) rfl rfl (Nat.le_of_ble_eq_true rfl) rfl dX10_isPart_21 rfl ?_
      refine sw_goto (tgt := 47) cx dX10_isPart_24 (by decide) ?_
      obtain ⟨h7, hf⟩ := gb_s hf
      obtain rfl := Option.some.inj hf
      exact sw_zret cx hr h7.1 hQ dX10_isPart_47
  · replace hf := it_p c1 hf
    refine sw_iload_n (pc' := 6) (i := 1) cx dX10_isPart_5 rfl 1 rfl rfl ?_
    refine sw_iconst (pc' := 7) (v := 0) cx dX10_isPart_6 iconst_0 rfl ?_
    refine sw_bipush (pc' := 9) (v := 40) cx dX10_isPart_7 bipush_40 rfl ?_
    obtain ⟨r8, hr8, hf⟩ := bd_s hf
    refine sw_callS (pc' := 12) (As := [.int a1, .int (0 : Int32), .int (40 : Int32)]) (rest := []) cx (k_X10_in l D h cI cJ cK cS a1 (0 : Int32) (40 : Int32) r8 hr8) pk_yX10_in ml_RX10_47 ⟨rfl, rfl⟩ ⟨(Nat.le_of_ble_eq_true rfl), (Nat.le_of_ble_eq_true rfl)⟩ ⟨(Nat.le_of_ble_eq_true rfl), (Nat.le_of_ble_eq_true rfl)⟩ [] rfl rfl rfl (wn := []) rfl rfl (Nat.le_of_ble_eq_true rfl) rfl dX10_isPart_9 rfl ?_
    refine sw_goto (tgt := 47) cx dX10_isPart_12 (by decide) ?_
    obtain ⟨h9, hf⟩ := gb_s hf
    obtain rfl := Option.some.inj hf
    exact sw_zret cx hr h9.1 hQ dX10_isPart_47
abbrev rm_X10_set : Room := ({ frames := 3, cells := 0, slots := 0, locals := 63 } : Room)
set_option maxRecDepth 100000 in
set_option maxHeartbeats 4000000 in
theorem k_X10_set (l : Launch) (D : sf_D) (h : Nat → Nat) (cI cJ cK cS : ClassId) (row : Nat → Int32) (att : Int32) (fnd : Nat → Int32) (tape : Nat → Int32) (tmany : Int32) (sort : Int32) (begs : Int32) (tends : Int32) (word : Int64) (valu : Int32) (good : Int32) (bits : Nat → Int32) (size : Nat → Int32) (shts : Nat → Int64) (lent : Nat → Int64) (imag : Nat → Int32) (befo : Nat → Int32) (kept : Int32) (a0 : Int32) (a1 : Int32) (a2 : Int32) (res : Int32 × (Nat → Int32) × (Nat → Int32)) (hf : f_X10_set row att fnd a0 a1 a2 = some res) : sf_Ct l yX10_set cX10_set 5 (some .int) rm_X10_set D (sf_ty cI cJ cK cS) [.ref (h 0), .int a0, .int a1, .int a2] (mo_W h cI cJ row att fnd tape tmany sort begs tends word valu good bits size shts lent imag befo kept) (some (.int res.1)) (mo_W h cI cJ res.2.1 att res.2.2 tape tmany sort begs tends word valu good bits size shts lent imag befo kept) := by
  refine sf_met (lv := [(0, .ref (h 0)), (1, .int a0), (2, .int a1), (3, .int a2)]) (by decide) (Nat.le_of_ble_eq_true rfl) rfl ?_
  intro p e s m args below meth c A Q cx hr hQ
  have cx : sf_Cx p m meth c cX10_set 5 s args RX10 D (sf_ty cI cJ cK cS) A := cx
  have B16 : ∀ (row : Nat → Int32) (fnd : Nat → Int32), f_X10_set_b16 att row fnd = some res → sf_W p l e rm_X10_set s m args below meth c 0 0 Q 5 D A (mo_W h cI cJ row att fnd tape tmany sort begs tends word valu good bits size shts lent imag befo kept) [(0, .ref (h 0))] 16 [] := by
    intro row fnd hf
    unfold f_X10_set_b16 at hf
    refine sw_aload_n (pc' := 17) (i := 0) cx dX10_set_16 rfl 0 rfl rfl ?_
    refine sw_ldc (pc' := 19) cx ct_RX10_38 dX10_set_17 rfl ?_
    obtain ⟨r9, hr9, hf⟩ := bd_s hf
    refine sw_callVw (pc' := 22) (As := [.int (-1000000001 : Int32)]) (rest := []) (w' := (mo_W h cI cJ row att r9.2 tape tmany sort begs tends word valu good bits size shts lent imag befo kept)) cx (k_X10_finds l D h cI cJ cK cS row att fnd tape tmany sort begs tends word valu good bits size shts lent imag befo kept (-1000000001 : Int32) r9 hr9) pk_yX10_finds ml_RX10_63 ⟨rfl, rfl⟩ ⟨(Nat.le_of_ble_eq_true rfl), (Nat.le_of_ble_eq_true rfl)⟩ ⟨(Nat.le_of_ble_eq_true rfl), (Nat.le_of_ble_eq_true rfl)⟩ 0 rfl rfl rfl rfl (Nat.le_of_ble_eq_true rfl) rfl dX10_set_19 rfl ?_
    obtain rfl := Option.some.inj hf
    exact sw_iret cx hr hQ dX10_set_22
  unfold f_X10_set at hf
  refine sw_aload_n (pc' := 1) (i := 0) cx dX10_set_0 rfl 0 rfl rfl ?_
  refine sw_iload_n (pc' := 2) (i := 1) cx dX10_set_1 rfl 1 rfl rfl ?_
  obtain ⟨r1, hr1, hf⟩ := bd_s hf
  refine sw_callVw (pc' := 5) (As := [.int a0]) (rest := []) (w' := (mo_W h cI cJ row att fnd tape tmany sort begs tends word valu good bits size shts lent imag befo kept)) cx (k_X10_isFine l D h cI cJ cK cS row att fnd tape tmany sort begs tends word valu good bits size shts lent imag befo kept a0 r1 hr1) pk_yX10_isFine ml_RX10_81 ⟨rfl, rfl⟩ ⟨(Nat.le_of_ble_eq_true rfl), (Nat.le_of_ble_eq_true rfl)⟩ ⟨(Nat.le_of_ble_eq_true rfl), (Nat.le_of_ble_eq_true rfl)⟩ 0 rfl rfl rfl rfl (Nat.le_of_ble_eq_true rfl) rfl dX10_set_2 rfl ?_
  refine sw_if_eq (pc' := 8) (tgt := 16) cx dX10_set_5 (by decide) rfl (fun c2 => ?_) (fun c2 => ?_)
  · replace hf := it_p c2 hf
    exact sw_lv [0] rfl (B16 row fnd hf)
  · replace hf := it_n c2 hf
    refine sw_iload_n (pc' := 9) (i := 2) cx dX10_set_8 rfl 2 rfl rfl ?_
    refine sw_iload_n (pc' := 10) (i := 3) cx dX10_set_9 rfl 3 rfl rfl ?_
    obtain ⟨r3, hr3, hf⟩ := bd_s hf
    refine sw_callS (pc' := 13) (As := [.int a1, .int a2]) (rest := []) cx (k_X10_isPart l D h cI cJ cK cS a1 a2 r3 hr3) pk_yX10_isPart ml_RX10_93 ⟨rfl, rfl⟩ ⟨(Nat.le_of_ble_eq_true rfl), (Nat.le_of_ble_eq_true rfl)⟩ ⟨(Nat.le_of_ble_eq_true rfl), (Nat.le_of_ble_eq_true rfl)⟩ [] rfl rfl rfl (wn := (mo_W h cI cJ row att fnd tape tmany sort begs tends word valu good bits size shts lent imag befo kept)) rfl rfl (Nat.le_of_ble_eq_true rfl) rfl dX10_set_10 rfl ?_
    refine sw_if_ne (pc' := 16) (tgt := 23) cx dX10_set_13 (by decide) rfl (fun c4 => ?_) (fun c4 => ?_)
    · replace hf := it_n c4 hf
      refine sw_aload_n (pc' := 24) (i := 0) cx dX10_set_23 rfl 0 rfl rfl ?_
      refine sw_iload_n (pc' := 25) (i := 1) cx dX10_set_24 rfl 1 rfl rfl ?_
      refine sw_iload_n (pc' := 26) (i := 2) cx dX10_set_25 rfl 2 rfl rfl ?_
      obtain ⟨r5, hr5, hf⟩ := bd_s hf
      refine sw_callVw (pc' := 29) (As := [.int a0, .int a1]) (rest := []) (w' := (mo_W h cI cJ row att fnd tape tmany sort begs tends word valu good bits size shts lent imag befo kept)) cx (k_X10_fineOf l D h cI cJ cK cS row att fnd tape tmany sort begs tends word valu good bits size shts lent imag befo kept a0 a1 r5 hr5) pk_yX10_fineOf ml_RX10_51 ⟨rfl, rfl⟩ ⟨(Nat.le_of_ble_eq_true rfl), (Nat.le_of_ble_eq_true rfl)⟩ ⟨(Nat.le_of_ble_eq_true rfl), (Nat.le_of_ble_eq_true rfl)⟩ 0 rfl rfl rfl rfl (Nat.le_of_ble_eq_true rfl) rfl dX10_set_26 rfl ?_
      refine sw_istore (pc' := 31) (i := 4) (lv' := [(4, .int r5), (0, .ref (h 0)), (1, .int a0), (2, .int a1), (3, .int a2)]) cx dX10_set_29 (Nat.le_of_ble_eq_true rfl) rfl rfl ?_
      refine sw_aload_n (pc' := 32) (i := 0) cx dX10_set_31 rfl 1 rfl rfl ?_
      refine sw_iload_n (pc' := 33) (i := 1) cx dX10_set_32 rfl 2 rfl rfl ?_
      refine sw_iload_n (pc' := 34) (i := 2) cx dX10_set_33 rfl 3 rfl rfl ?_
      refine sw_iload_n (pc' := 35) (i := 3) cx dX10_set_34 rfl 4 rfl rfl ?_
      obtain ⟨r6, hr6, hf⟩ := bd_s hf
      refine sw_callVw (pc' := 38) (As := [.int a0, .int a1, .int a2]) (rest := []) (w' := (mo_W h cI cJ r6 att fnd tape tmany sort begs tends word valu good bits size shts lent imag befo kept)) cx (k_X10_sets l D h cI cJ cK cS row att fnd tape tmany sort begs tends word valu good bits size shts lent imag befo kept a0 a1 a2 r6 hr6) pk_yX10_sets ml_RX10_66 ⟨rfl, rfl⟩ ⟨(Nat.le_of_ble_eq_true rfl), (Nat.le_of_ble_eq_true rfl)⟩ ⟨(Nat.le_of_ble_eq_true rfl), (Nat.le_of_ble_eq_true rfl)⟩ 0 rfl rfl rfl rfl (Nat.le_of_ble_eq_true rfl) rfl dX10_set_35 rfl ?_
      refine sw_iload_n (pc' := 39) (i := 2) cx dX10_set_38 rfl 3 rfl rfl ?_
      refine sw_iconst (pc' := 40) (v := 2) cx dX10_set_39 iconst_2 rfl ?_
      refine sw_icmp_ne (pc' := 43) (tgt := 50) cx dX10_set_40 (by decide) rfl (fun c7 => ?_) (fun c7 => ?_)
      · replace hf := it_n c7 hf
        refine sw_iload (pc' := 52) (i := 4) cx dX10_set_50 0 rfl rfl ?_
        obtain rfl := Option.some.inj hf
        exact sw_iret cx hr hQ dX10_set_52
      · replace hf := it_p c7 hf
        refine sw_aload_n (pc' := 44) (i := 0) cx dX10_set_43 rfl 1 rfl rfl ?_
        refine sw_iload_n (pc' := 45) (i := 1) cx dX10_set_44 rfl 2 rfl rfl ?_
        refine sw_iconst (pc' := 46) (v := 4) cx dX10_set_45 iconst_4 rfl ?_
        refine sw_iconst (pc' := 47) (v := 0) cx dX10_set_46 iconst_0 rfl ?_
        obtain ⟨r8, hr8, hf⟩ := bd_s hf
        refine sw_callVw (pc' := 50) (As := [.int a0, .int (4 : Int32), .int (0 : Int32)]) (rest := []) (w' := (mo_W h cI cJ r8 att fnd tape tmany sort begs tends word valu good bits size shts lent imag befo kept)) cx (k_X10_sets l D h cI cJ cK cS r6 att fnd tape tmany sort begs tends word valu good bits size shts lent imag befo kept a0 (4 : Int32) (0 : Int32) r8 hr8) pk_yX10_sets ml_RX10_66 ⟨rfl, rfl⟩ ⟨(Nat.le_of_ble_eq_true rfl), (Nat.le_of_ble_eq_true rfl)⟩ ⟨(Nat.le_of_ble_eq_true rfl), (Nat.le_of_ble_eq_true rfl)⟩ 0 rfl rfl rfl rfl (Nat.le_of_ble_eq_true rfl) rfl dX10_set_47 rfl ?_
        refine sw_iload (pc' := 52) (i := 4) cx dX10_set_50 0 rfl rfl ?_
        obtain rfl := Option.some.inj hf
        exact sw_iret cx hr hQ dX10_set_52
    · replace hf := it_p c4 hf
      exact sw_lv [0] rfl (B16 row fnd hf)
abbrev rm_X10_turn : Room := ({ frames := 2, cells := 0, slots := 0, locals := 43 } : Room)
set_option maxRecDepth 100000 in
set_option maxHeartbeats 4000000 in
theorem k_X10_turn (l : Launch) (D : sf_D) (h : Nat → Nat) (cI cJ cK cS : ClassId) (row : Nat → Int32) (att : Int32) (fnd : Nat → Int32) (tape : Nat → Int32) (tmany : Int32) (sort : Int32) (begs : Int32) (tends : Int32) (word : Int64) (valu : Int32) (good : Int32) (bits : Nat → Int32) (size : Nat → Int32) (shts : Nat → Int64) (lent : Nat → Int64) (imag : Nat → Int32) (befo : Nat → Int32) (kept : Int32) (a0 : Int32) (a1 : Int32) (res : Int32 × (Nat → Int32) × (Nat → Int32)) (hf : f_X10_turn row att fnd a0 a1 = some res) : sf_Ct l yX10_turn cX10_turn 4 (some .int) rm_X10_turn D (sf_ty cI cJ cK cS) [.ref (h 0), .int a0, .int a1] (mo_W h cI cJ row att fnd tape tmany sort begs tends word valu good bits size shts lent imag befo kept) (some (.int res.1)) (mo_W h cI cJ res.2.1 att res.2.2 tape tmany sort begs tends word valu good bits size shts lent imag befo kept) := by
  refine sf_met (lv := [(0, .ref (h 0)), (1, .int a0), (2, .int a1)]) (by decide) (Nat.le_of_ble_eq_true rfl) rfl ?_
  intro p e s m args below meth c A Q cx hr hQ
  have cx : sf_Cx p m meth c cX10_turn 4 s args RX10 D (sf_ty cI cJ cK cS) A := cx
  have B15 : ∀ (row : Nat → Int32) (fnd : Nat → Int32), f_X10_turn_b15 att row fnd = some res → sf_W p l e rm_X10_turn s m args below meth c 0 0 Q 4 D A (mo_W h cI cJ row att fnd tape tmany sort begs tends word valu good bits size shts lent imag befo kept) [(0, .ref (h 0))] 15 [] := by
    intro row fnd hf
    unfold f_X10_turn_b15 at hf
    refine sw_aload_n (pc' := 16) (i := 0) cx dX10_turn_15 rfl 0 rfl rfl ?_
    refine sw_ldc (pc' := 18) cx ct_RX10_38 dX10_turn_16 rfl ?_
    obtain ⟨r7, hr7, hf⟩ := bd_s hf
    refine sw_callVw (pc' := 21) (As := [.int (-1000000001 : Int32)]) (rest := []) (w' := (mo_W h cI cJ row att r7.2 tape tmany sort begs tends word valu good bits size shts lent imag befo kept)) cx (k_X10_finds l D h cI cJ cK cS row att fnd tape tmany sort begs tends word valu good bits size shts lent imag befo kept (-1000000001 : Int32) r7 hr7) pk_yX10_finds ml_RX10_63 ⟨rfl, rfl⟩ ⟨(Nat.le_of_ble_eq_true rfl), (Nat.le_of_ble_eq_true rfl)⟩ ⟨(Nat.le_of_ble_eq_true rfl), (Nat.le_of_ble_eq_true rfl)⟩ 0 rfl rfl rfl rfl (Nat.le_of_ble_eq_true rfl) rfl dX10_turn_18 rfl ?_
    obtain rfl := Option.some.inj hf
    exact sw_iret cx hr hQ dX10_turn_21
  unfold f_X10_turn at hf
  refine sw_aload_n (pc' := 1) (i := 0) cx dX10_turn_0 rfl 0 rfl rfl ?_
  refine sw_iload_n (pc' := 2) (i := 1) cx dX10_turn_1 rfl 1 rfl rfl ?_
  obtain ⟨r1, hr1, hf⟩ := bd_s hf
  refine sw_callVw (pc' := 5) (As := [.int a0]) (rest := []) (w' := (mo_W h cI cJ row att fnd tape tmany sort begs tends word valu good bits size shts lent imag befo kept)) cx (k_X10_isFine l D h cI cJ cK cS row att fnd tape tmany sort begs tends word valu good bits size shts lent imag befo kept a0 r1 hr1) pk_yX10_isFine ml_RX10_81 ⟨rfl, rfl⟩ ⟨(Nat.le_of_ble_eq_true rfl), (Nat.le_of_ble_eq_true rfl)⟩ ⟨(Nat.le_of_ble_eq_true rfl), (Nat.le_of_ble_eq_true rfl)⟩ 0 rfl rfl rfl rfl (Nat.le_of_ble_eq_true rfl) rfl dX10_turn_2 rfl ?_
  refine sw_if_eq (pc' := 8) (tgt := 15) cx dX10_turn_5 (by decide) rfl (fun c2 => ?_) (fun c2 => ?_)
  · replace hf := it_p c2 hf
    exact sw_lv [0] rfl (B15 row fnd hf)
  · replace hf := it_n c2 hf
    refine sw_iload_n (pc' := 9) (i := 2) cx dX10_turn_8 rfl 2 rfl rfl ?_
    obtain ⟨r3, hr3, hf⟩ := bd_s hf
    refine sw_callS (pc' := 12) (As := [.int a1]) (rest := []) cx (k_X10_isKind l D h cI cJ cK cS a1 r3 hr3) pk_yX10_isKind ml_RX10_70 ⟨rfl, rfl⟩ ⟨(Nat.le_of_ble_eq_true rfl), (Nat.le_of_ble_eq_true rfl)⟩ ⟨(Nat.le_of_ble_eq_true rfl), (Nat.le_of_ble_eq_true rfl)⟩ [] rfl rfl rfl (wn := (mo_W h cI cJ row att fnd tape tmany sort begs tends word valu good bits size shts lent imag befo kept)) rfl rfl (Nat.le_of_ble_eq_true rfl) rfl dX10_turn_9 rfl ?_
    refine sw_if_ne (pc' := 15) (tgt := 22) cx dX10_turn_12 (by decide) rfl (fun c4 => ?_) (fun c4 => ?_)
    · replace hf := it_n c4 hf
      refine sw_aload_n (pc' := 23) (i := 0) cx dX10_turn_22 rfl 0 rfl rfl ?_
      refine sw_iload_n (pc' := 24) (i := 1) cx dX10_turn_23 rfl 1 rfl rfl ?_
      refine sw_iconst (pc' := 25) (v := 0) cx dX10_turn_24 iconst_0 rfl ?_
      obtain ⟨r5, hr5, hf⟩ := bd_s hf
      refine sw_callVw (pc' := 28) (As := [.int a0, .int (0 : Int32)]) (rest := []) (w' := (mo_W h cI cJ row att fnd tape tmany sort begs tends word valu good bits size shts lent imag befo kept)) cx (k_X10_fineOf l D h cI cJ cK cS row att fnd tape tmany sort begs tends word valu good bits size shts lent imag befo kept a0 (0 : Int32) r5 hr5) pk_yX10_fineOf ml_RX10_51 ⟨rfl, rfl⟩ ⟨(Nat.le_of_ble_eq_true rfl), (Nat.le_of_ble_eq_true rfl)⟩ ⟨(Nat.le_of_ble_eq_true rfl), (Nat.le_of_ble_eq_true rfl)⟩ 0 rfl rfl rfl rfl (Nat.le_of_ble_eq_true rfl) rfl dX10_turn_25 rfl ?_
      refine sw_istore_n (pc' := 29) (i := 3) (lv' := [(3, .int r5), (0, .ref (h 0)), (1, .int a0), (2, .int a1)]) cx dX10_turn_28 rfl (Nat.le_of_ble_eq_true rfl) rfl rfl ?_
      refine sw_aload_n (pc' := 30) (i := 0) cx dX10_turn_29 rfl 1 rfl rfl ?_
      refine sw_iload_n (pc' := 31) (i := 1) cx dX10_turn_30 rfl 2 rfl rfl ?_
      refine sw_iconst (pc' := 32) (v := 0) cx dX10_turn_31 iconst_0 rfl ?_
      refine sw_iload_n (pc' := 33) (i := 2) cx dX10_turn_32 rfl 3 rfl rfl ?_
      obtain ⟨r6, hr6, hf⟩ := bd_s hf
      refine sw_callVw (pc' := 36) (As := [.int a0, .int (0 : Int32), .int a1]) (rest := []) (w' := (mo_W h cI cJ r6 att fnd tape tmany sort begs tends word valu good bits size shts lent imag befo kept)) cx (k_X10_sets l D h cI cJ cK cS row att fnd tape tmany sort begs tends word valu good bits size shts lent imag befo kept a0 (0 : Int32) a1 r6 hr6) pk_yX10_sets ml_RX10_66 ⟨rfl, rfl⟩ ⟨(Nat.le_of_ble_eq_true rfl), (Nat.le_of_ble_eq_true rfl)⟩ ⟨(Nat.le_of_ble_eq_true rfl), (Nat.le_of_ble_eq_true rfl)⟩ 0 rfl rfl rfl rfl (Nat.le_of_ble_eq_true rfl) rfl dX10_turn_33 rfl ?_
      refine sw_iload_n (pc' := 37) (i := 3) cx dX10_turn_36 rfl 0 rfl rfl ?_
      obtain rfl := Option.some.inj hf
      exact sw_iret cx hr hQ dX10_turn_37
    · replace hf := it_p c4 hf
      exact sw_lv [0] rfl (B15 row fnd hf)
abbrev rm_X10_isUnder : Room := ({ frames := 0, cells := 0, slots := 0, locals := 0 } : Room)
set_option maxRecDepth 100000 in
set_option maxHeartbeats 4000000 in
theorem k_X10_isUnder (l : Launch) (D : sf_D) (h : Nat → Nat) (cI cJ cK cS : ClassId)  (a0 : Int32) (a1 : Int32) (res : Int32) (hf : f_X10_isUnder a0 a1 = some res) : sf_Ct l yX10_isUnder cX10_isUnder 2 (some .boolean) rm_X10_isUnder D (sf_ty cI cJ cK cS) [.int a0, .int a1] [] (some (.int res)) [] := by
  refine sf_met (lv := [(0, .int a0), (1, .int a1)]) (by decide) (Nat.le_of_ble_eq_true rfl) rfl ?_
  intro p e s m args below meth c A Q cx hr hQ
  have cx : sf_Cx p m meth c cX10_isUnder 2 s args RX10 D (sf_ty cI cJ cK cS) A := cx
  have B29 : f_X10_isUnder_b29  = some res → sf_W p l e rm_X10_isUnder s m args below meth c 0 0 Q 2 D A [] [] 29 [] := by
    intro  hf
    unfold f_X10_isUnder_b29 at hf
    refine sw_iconst (pc' := 30) (v := 1) cx dX10_isUnder_29 iconst_1 rfl ?_
    refine sw_goto (tgt := 34) cx dX10_isUnder_30 (by decide) ?_
    obtain rfl := Option.some.inj hf
    exact sw_zret cx hr (by decide +kernel) hQ dX10_isUnder_34
  have B19 : ∀ (x0 : Int32) (x1 : Int32), f_X10_isUnder_b19 x0 x1 = some res → sf_W p l e rm_X10_isUnder s m args below meth c 0 0 Q 2 D A [] [(0, .int x0), (1, .int x1)] 19 [] := by
    intro x0 x1 hf
    unfold f_X10_isUnder_b19 at hf
    refine sw_iload_n (pc' := 20) (i := 1) cx dX10_isUnder_19 rfl 1 rfl rfl ?_
    refine sw_iconst (pc' := 21) (v := 2) cx dX10_isUnder_20 iconst_2 rfl ?_
    refine sw_icmp_ne (pc' := 24) (tgt := 33) cx dX10_isUnder_21 (by decide) rfl (fun c5 => ?_) (fun c5 => ?_)
    · replace hf := it_n c5 hf
      refine sw_iconst (pc' := 34) (v := 0) cx dX10_isUnder_33 iconst_0 rfl ?_
      obtain rfl := Option.some.inj hf
      exact sw_zret cx hr (by decide +kernel) hQ dX10_isUnder_34
    · replace hf := it_p c5 hf
      refine sw_iload_n (pc' := 25) (i := 0) cx dX10_isUnder_24 rfl 0 rfl rfl ?_
      refine sw_iconst (pc' := 26) (v := 5) cx dX10_isUnder_25 iconst_5 rfl ?_
      refine sw_icmp_ne (pc' := 29) (tgt := 33) cx dX10_isUnder_26 (by decide) rfl (fun c6 => ?_) (fun c6 => ?_)
      · replace hf := it_n c6 hf
        refine sw_iconst (pc' := 34) (v := 0) cx dX10_isUnder_33 iconst_0 rfl ?_
        obtain rfl := Option.some.inj hf
        exact sw_zret cx hr (by decide +kernel) hQ dX10_isUnder_34
      · replace hf := it_p c6 hf
        exact sw_lv [] rfl (B29  hf)
  unfold f_X10_isUnder at hf
  refine sw_iload_n (pc' := 1) (i := 1) cx dX10_isUnder_0 rfl 1 rfl rfl ?_
  refine sw_if_eq (pc' := 4) (tgt := 29) cx dX10_isUnder_1 (by decide) rfl (fun c1 => ?_) (fun c1 => ?_)
  · replace hf := it_p c1 hf
    exact sw_lv [] rfl (B29  hf)
  · replace hf := it_n c1 hf
    refine sw_iload_n (pc' := 5) (i := 1) cx dX10_isUnder_4 rfl 1 rfl rfl ?_
    refine sw_iload_n (pc' := 6) (i := 0) cx dX10_isUnder_5 rfl 0 rfl rfl ?_
    refine sw_icmp_eq (pc' := 9) (tgt := 29) cx dX10_isUnder_6 (by decide) rfl (fun c2 => ?_) (fun c2 => ?_)
    · replace hf := it_p c2 hf
      exact sw_lv [] rfl (B29  hf)
    · replace hf := it_n c2 hf
      refine sw_iload_n (pc' := 10) (i := 1) cx dX10_isUnder_9 rfl 1 rfl rfl ?_
      refine sw_iconst (pc' := 11) (v := 3) cx dX10_isUnder_10 iconst_3 rfl ?_
      refine sw_icmp_ne (pc' := 14) (tgt := 19) cx dX10_isUnder_11 (by decide) rfl (fun c3 => ?_) (fun c3 => ?_)
      · replace hf := it_n c3 hf
        exact sw_lv [0, 1] rfl (B19 a0 a1 hf)
      · replace hf := it_p c3 hf
        refine sw_iload_n (pc' := 15) (i := 0) cx dX10_isUnder_14 rfl 0 rfl rfl ?_
        refine sw_iconst (pc' := 16) (v := 4) cx dX10_isUnder_15 iconst_4 rfl ?_
        refine sw_icmp_eq (pc' := 19) (tgt := 29) cx dX10_isUnder_16 (by decide) rfl (fun c4 => ?_) (fun c4 => ?_)
        · replace hf := it_p c4 hf
          exact sw_lv [] rfl (B29  hf)
        · replace hf := it_n c4 hf
          exact sw_lv [0, 1] rfl (B19 a0 a1 hf)
abbrev rm_X10_as : Room := ({ frames := 2, cells := 0, slots := 0, locals := 43 } : Room)
set_option maxRecDepth 100000 in
set_option maxHeartbeats 4000000 in
theorem k_X10_as (l : Launch) (D : sf_D) (h : Nat → Nat) (cI cJ cK cS : ClassId) (row : Nat → Int32) (att : Int32) (fnd : Nat → Int32) (tape : Nat → Int32) (tmany : Int32) (sort : Int32) (begs : Int32) (tends : Int32) (word : Int64) (valu : Int32) (good : Int32) (bits : Nat → Int32) (size : Nat → Int32) (shts : Nat → Int64) (lent : Nat → Int64) (imag : Nat → Int32) (befo : Nat → Int32) (kept : Int32) (a0 : Int32) (a1 : Int32) (res : Int32 × (Nat → Int32)) (hf : f_X10_as row att fnd a0 a1 = some res) : sf_Ct l yX10_as cX10_as 3 (some .int) rm_X10_as D (sf_ty cI cJ cK cS) [.ref (h 0), .int a0, .int a1] (mo_W h cI cJ row att fnd tape tmany sort begs tends word valu good bits size shts lent imag befo kept) (some (.int res.1)) (mo_W h cI cJ row att res.2 tape tmany sort begs tends word valu good bits size shts lent imag befo kept) := by
  refine sf_met (lv := [(0, .ref (h 0)), (1, .int a0), (2, .int a1)]) (by decide) (Nat.le_of_ble_eq_true rfl) rfl ?_
  intro p e s m args below meth c A Q cx hr hQ
  have cx : sf_Cx p m meth c cX10_as 3 s args RX10 D (sf_ty cI cJ cK cS) A := cx
  have B15 : ∀ (fnd : Nat → Int32), f_X10_as_b15 row att fnd = some res → sf_W p l e rm_X10_as s m args below meth c 0 0 Q 3 D A (mo_W h cI cJ row att fnd tape tmany sort begs tends word valu good bits size shts lent imag befo kept) [(0, .ref (h 0))] 15 [] := by
    intro fnd hf
    unfold f_X10_as_b15 at hf
    refine sw_aload_n (pc' := 16) (i := 0) cx dX10_as_15 rfl 0 rfl rfl ?_
    refine sw_ldc (pc' := 18) cx ct_RX10_38 dX10_as_16 rfl ?_
    obtain ⟨r10, hr10, hf⟩ := bd_s hf
    refine sw_callVw (pc' := 21) (As := [.int (-1000000001 : Int32)]) (rest := []) (w' := (mo_W h cI cJ row att r10.2 tape tmany sort begs tends word valu good bits size shts lent imag befo kept)) cx (k_X10_finds l D h cI cJ cK cS row att fnd tape tmany sort begs tends word valu good bits size shts lent imag befo kept (-1000000001 : Int32) r10 hr10) pk_yX10_finds ml_RX10_63 ⟨rfl, rfl⟩ ⟨(Nat.le_of_ble_eq_true rfl), (Nat.le_of_ble_eq_true rfl)⟩ ⟨(Nat.le_of_ble_eq_true rfl), (Nat.le_of_ble_eq_true rfl)⟩ 0 rfl rfl rfl rfl (Nat.le_of_ble_eq_true rfl) rfl dX10_as_18 rfl ?_
    obtain rfl := Option.some.inj hf
    exact sw_iret cx hr hQ dX10_as_21
  unfold f_X10_as at hf
  refine sw_aload_n (pc' := 1) (i := 0) cx dX10_as_0 rfl 0 rfl rfl ?_
  refine sw_iload_n (pc' := 2) (i := 1) cx dX10_as_1 rfl 1 rfl rfl ?_
  obtain ⟨r1, hr1, hf⟩ := bd_s hf
  refine sw_callVw (pc' := 5) (As := [.int a0]) (rest := []) (w' := (mo_W h cI cJ row att fnd tape tmany sort begs tends word valu good bits size shts lent imag befo kept)) cx (k_X10_isFine l D h cI cJ cK cS row att fnd tape tmany sort begs tends word valu good bits size shts lent imag befo kept a0 r1 hr1) pk_yX10_isFine ml_RX10_81 ⟨rfl, rfl⟩ ⟨(Nat.le_of_ble_eq_true rfl), (Nat.le_of_ble_eq_true rfl)⟩ ⟨(Nat.le_of_ble_eq_true rfl), (Nat.le_of_ble_eq_true rfl)⟩ 0 rfl rfl rfl rfl (Nat.le_of_ble_eq_true rfl) rfl dX10_as_2 rfl ?_
  refine sw_if_eq (pc' := 8) (tgt := 15) cx dX10_as_5 (by decide) rfl (fun c2 => ?_) (fun c2 => ?_)
  · replace hf := it_p c2 hf
    exact sw_lv [0] rfl (B15 fnd hf)
  · replace hf := it_n c2 hf
    refine sw_iload_n (pc' := 9) (i := 2) cx dX10_as_8 rfl 2 rfl rfl ?_
    obtain ⟨r3, hr3, hf⟩ := bd_s hf
    refine sw_callS (pc' := 12) (As := [.int a1]) (rest := []) cx (k_X10_isKind l D h cI cJ cK cS a1 r3 hr3) pk_yX10_isKind ml_RX10_70 ⟨rfl, rfl⟩ ⟨(Nat.le_of_ble_eq_true rfl), (Nat.le_of_ble_eq_true rfl)⟩ ⟨(Nat.le_of_ble_eq_true rfl), (Nat.le_of_ble_eq_true rfl)⟩ [] rfl rfl rfl (wn := (mo_W h cI cJ row att fnd tape tmany sort begs tends word valu good bits size shts lent imag befo kept)) rfl rfl (Nat.le_of_ble_eq_true rfl) rfl dX10_as_9 rfl ?_
    refine sw_if_ne (pc' := 15) (tgt := 22) cx dX10_as_12 (by decide) rfl (fun c4 => ?_) (fun c4 => ?_)
    · replace hf := it_n c4 hf
      refine sw_aload_n (pc' := 23) (i := 0) cx dX10_as_22 rfl 0 rfl rfl ?_
      refine sw_iload_n (pc' := 24) (i := 1) cx dX10_as_23 rfl 1 rfl rfl ?_
      refine sw_iconst (pc' := 25) (v := 0) cx dX10_as_24 iconst_0 rfl ?_
      obtain ⟨r5, hr5, hf⟩ := bd_s hf
      refine sw_callVw (pc' := 28) (As := [.int a0, .int (0 : Int32)]) (rest := []) (w' := (mo_W h cI cJ row att fnd tape tmany sort begs tends word valu good bits size shts lent imag befo kept)) cx (k_X10_fineOf l D h cI cJ cK cS row att fnd tape tmany sort begs tends word valu good bits size shts lent imag befo kept a0 (0 : Int32) r5 hr5) pk_yX10_fineOf ml_RX10_51 ⟨rfl, rfl⟩ ⟨(Nat.le_of_ble_eq_true rfl), (Nat.le_of_ble_eq_true rfl)⟩ ⟨(Nat.le_of_ble_eq_true rfl), (Nat.le_of_ble_eq_true rfl)⟩ 0 rfl rfl rfl rfl (Nat.le_of_ble_eq_true rfl) rfl dX10_as_25 rfl ?_
      refine sw_iload_n (pc' := 29) (i := 2) cx dX10_as_28 rfl 2 rfl rfl ?_
      obtain ⟨r6, hr6, hf⟩ := bd_s hf
      refine sw_callS (pc' := 32) (As := [.int r5, .int a1]) (rest := []) cx (k_X10_isUnder l D h cI cJ cK cS r5 a1 r6 hr6) pk_yX10_isUnder ml_RX10_97 ⟨rfl, rfl⟩ ⟨(Nat.le_of_ble_eq_true rfl), (Nat.le_of_ble_eq_true rfl)⟩ ⟨(Nat.le_of_ble_eq_true rfl), (Nat.le_of_ble_eq_true rfl)⟩ [] rfl rfl rfl (wn := (mo_W h cI cJ row att fnd tape tmany sort begs tends word valu good bits size shts lent imag befo kept)) rfl rfl (Nat.le_of_ble_eq_true rfl) rfl dX10_as_29 rfl ?_
      refine sw_if_eq (pc' := 35) (tgt := 44) cx dX10_as_32 (by decide) rfl (fun c7 => ?_) (fun c7 => ?_)
      · replace hf := it_p c7 hf
        refine sw_aload_n (pc' := 45) (i := 0) cx dX10_as_44 rfl 0 rfl rfl ?_
        refine sw_ldc (pc' := 47) cx ct_RX10_100 dX10_as_45 rfl ?_
        obtain ⟨r8, hr8, hf⟩ := bd_s hf
        refine sw_callVw (pc' := 50) (As := [.int (-1000000003 : Int32)]) (rest := []) (w' := (mo_W h cI cJ row att r8.2 tape tmany sort begs tends word valu good bits size shts lent imag befo kept)) cx (k_X10_finds l D h cI cJ cK cS row att fnd tape tmany sort begs tends word valu good bits size shts lent imag befo kept (-1000000003 : Int32) r8 hr8) pk_yX10_finds ml_RX10_63 ⟨rfl, rfl⟩ ⟨(Nat.le_of_ble_eq_true rfl), (Nat.le_of_ble_eq_true rfl)⟩ ⟨(Nat.le_of_ble_eq_true rfl), (Nat.le_of_ble_eq_true rfl)⟩ 0 rfl rfl rfl rfl (Nat.le_of_ble_eq_true rfl) rfl dX10_as_47 rfl ?_
        obtain rfl := Option.some.inj hf
        exact sw_iret cx hr hQ dX10_as_50
      · replace hf := it_n c7 hf
        refine sw_aload_n (pc' := 36) (i := 0) cx dX10_as_35 rfl 0 rfl rfl ?_
        refine sw_iload_n (pc' := 37) (i := 1) cx dX10_as_36 rfl 1 rfl rfl ?_
        refine sw_iconst (pc' := 38) (v := 1) cx dX10_as_37 iconst_1 rfl ?_
        obtain ⟨r9, hr9, hf⟩ := bd_s hf
        refine sw_callVw (pc' := 41) (As := [.int a0, .int (1 : Int32)]) (rest := []) (w' := (mo_W h cI cJ row att fnd tape tmany sort begs tends word valu good bits size shts lent imag befo kept)) cx (k_X10_fineOf l D h cI cJ cK cS row att fnd tape tmany sort begs tends word valu good bits size shts lent imag befo kept a0 (1 : Int32) r9 hr9) pk_yX10_fineOf ml_RX10_51 ⟨rfl, rfl⟩ ⟨(Nat.le_of_ble_eq_true rfl), (Nat.le_of_ble_eq_true rfl)⟩ ⟨(Nat.le_of_ble_eq_true rfl), (Nat.le_of_ble_eq_true rfl)⟩ 0 rfl rfl rfl rfl (Nat.le_of_ble_eq_true rfl) rfl dX10_as_38 rfl ?_
        refine sw_goto (tgt := 50) cx dX10_as_41 (by decide) ?_
        obtain rfl := Option.some.inj hf
        exact sw_iret cx hr hQ dX10_as_50
    · replace hf := it_p c4 hf
      exact sw_lv [0] rfl (B15 fnd hf)
abbrev rm_X10_placeOf : Room := ({ frames := 2, cells := 0, slots := 0, locals := 42 } : Room)
set_option maxRecDepth 100000 in
set_option maxHeartbeats 4000000 in
theorem k_X10_placeOf (l : Launch) (D : sf_D) (h : Nat → Nat) (cI cJ cK cS : ClassId) (row : Nat → Int32) (att : Int32) (fnd : Nat → Int32) (tape : Nat → Int32) (tmany : Int32) (sort : Int32) (begs : Int32) (tends : Int32) (word : Int64) (valu : Int32) (good : Int32) (bits : Nat → Int32) (size : Nat → Int32) (shts : Nat → Int64) (lent : Nat → Int64) (imag : Nat → Int32) (befo : Nat → Int32) (kept : Int32) (a0 : Int32) (a1 : Int32) (res : Int32 × (Nat → Int32)) (hf : f_X10_placeOf row att fnd a0 a1 = some res) : sf_Ct l yX10_placeOf cX10_placeOf 3 (some .int) rm_X10_placeOf D (sf_ty cI cJ cK cS) [.ref (h 0), .int a0, .int a1] (mo_W h cI cJ row att fnd tape tmany sort begs tends word valu good bits size shts lent imag befo kept) (some (.int res.1)) (mo_W h cI cJ row att res.2 tape tmany sort begs tends word valu good bits size shts lent imag befo kept) := by
  refine sf_met (lv := [(0, .ref (h 0)), (1, .int a0), (2, .int a1)]) (by decide) (Nat.le_of_ble_eq_true rfl) rfl ?_
  intro p e s m args below meth c A Q cx hr hQ
  have cx : sf_Cx p m meth c cX10_placeOf 3 s args RX10 D (sf_ty cI cJ cK cS) A := cx
  have B16 : ∀ (fnd : Nat → Int32), f_X10_placeOf_b16 row att fnd = some res → sf_W p l e rm_X10_placeOf s m args below meth c 0 0 Q 3 D A (mo_W h cI cJ row att fnd tape tmany sort begs tends word valu good bits size shts lent imag befo kept) [(0, .ref (h 0))] 16 [] := by
    intro fnd hf
    unfold f_X10_placeOf_b16 at hf
    refine sw_aload_n (pc' := 17) (i := 0) cx dX10_placeOf_16 rfl 0 rfl rfl ?_
    refine sw_ldc (pc' := 19) cx ct_RX10_38 dX10_placeOf_17 rfl ?_
    obtain ⟨r9, hr9, hf⟩ := bd_s hf
    refine sw_callVw (pc' := 22) (As := [.int (-1000000001 : Int32)]) (rest := []) (w' := (mo_W h cI cJ row att r9.2 tape tmany sort begs tends word valu good bits size shts lent imag befo kept)) cx (k_X10_finds l D h cI cJ cK cS row att fnd tape tmany sort begs tends word valu good bits size shts lent imag befo kept (-1000000001 : Int32) r9 hr9) pk_yX10_finds ml_RX10_63 ⟨rfl, rfl⟩ ⟨(Nat.le_of_ble_eq_true rfl), (Nat.le_of_ble_eq_true rfl)⟩ ⟨(Nat.le_of_ble_eq_true rfl), (Nat.le_of_ble_eq_true rfl)⟩ 0 rfl rfl rfl rfl (Nat.le_of_ble_eq_true rfl) rfl dX10_placeOf_19 rfl ?_
    obtain rfl := Option.some.inj hf
    exact sw_iret cx hr hQ dX10_placeOf_22
  have B43 : ∀ (fnd : Nat → Int32) (x1 : Int32) (x2 : Int32), f_X10_placeOf_b43 row att fnd x1 x2 = some res → sf_W p l e rm_X10_placeOf s m args below meth c 0 0 Q 3 D A (mo_W h cI cJ row att fnd tape tmany sort begs tends word valu good bits size shts lent imag befo kept) [(0, .ref (h 0)), (1, .int x1), (2, .int x2)] 43 [] := by
    intro fnd x1 x2 hf
    unfold f_X10_placeOf_b43 at hf
    refine sw_aload_n (pc' := 44) (i := 0) cx dX10_placeOf_43 rfl 0 rfl rfl ?_
    refine sw_get (pc' := 47) cx in_X10 0 rfl rfl 0 (Nat.le_of_ble_eq_true rfl) fl_RX10_7 rfl dX10_placeOf_44 rfl ?_
    refine sw_iconst (pc' := 48) (v := 5) cx dX10_placeOf_47 iconst_5 rfl ?_
    refine sw_bipush (pc' := 50) (v := 40) cx dX10_placeOf_48 bipush_40 rfl ?_
    refine sw_iload_n (pc' := 51) (i := 2) cx dX10_placeOf_50 rfl 2 rfl rfl ?_
    refine sw_imul (pc' := 52) cx dX10_placeOf_51 rfl ?_
    refine sw_iadd (pc' := 53) cx dX10_placeOf_52 rfl ?_
    refine sw_iload_n (pc' := 54) (i := 1) cx dX10_placeOf_53 rfl 1 rfl rfl ?_
    refine sw_iadd (pc' := 55) cx dX10_placeOf_54 rfl ?_
    obtain ⟨h10, hf⟩ := gx_s hf
    refine sw_iald (pc' := 56) cx 1 0 rfl rfl h10 dX10_placeOf_55 rfl ?_
    obtain rfl := Option.some.inj hf
    exact sw_iret cx hr hQ dX10_placeOf_56
  unfold f_X10_placeOf at hf
  refine sw_iload_n (pc' := 1) (i := 1) cx dX10_placeOf_0 rfl 1 rfl rfl ?_
  obtain ⟨r1, hr1, hf⟩ := bd_s hf
  refine sw_callS (pc' := 4) (As := [.int a0]) (rest := []) cx (k_X10_isPlace l D h cI cJ cK cS a0 r1 hr1) pk_yX10_isPlace ml_RX10_59 ⟨rfl, rfl⟩ ⟨(Nat.le_of_ble_eq_true rfl), (Nat.le_of_ble_eq_true rfl)⟩ ⟨(Nat.le_of_ble_eq_true rfl), (Nat.le_of_ble_eq_true rfl)⟩ [] rfl rfl rfl (wn := (mo_W h cI cJ row att fnd tape tmany sort begs tends word valu good bits size shts lent imag befo kept)) rfl rfl (Nat.le_of_ble_eq_true rfl) rfl dX10_placeOf_1 rfl ?_
  refine sw_if_eq (pc' := 7) (tgt := 16) cx dX10_placeOf_4 (by decide) rfl (fun c2 => ?_) (fun c2 => ?_)
  · replace hf := it_p c2 hf
    exact sw_lv [0] rfl (B16 fnd hf)
  · replace hf := it_n c2 hf
    refine sw_iload_n (pc' := 8) (i := 2) cx dX10_placeOf_7 rfl 2 rfl rfl ?_
    refine sw_iconst (pc' := 9) (v := 0) cx dX10_placeOf_8 iconst_0 rfl ?_
    refine sw_iconst (pc' := 10) (v := 4) cx dX10_placeOf_9 iconst_4 rfl ?_
    obtain ⟨r3, hr3, hf⟩ := bd_s hf
    refine sw_callS (pc' := 13) (As := [.int a1, .int (0 : Int32), .int (4 : Int32)]) (rest := []) cx (k_X10_in l D h cI cJ cK cS a1 (0 : Int32) (4 : Int32) r3 hr3) pk_yX10_in ml_RX10_47 ⟨rfl, rfl⟩ ⟨(Nat.le_of_ble_eq_true rfl), (Nat.le_of_ble_eq_true rfl)⟩ ⟨(Nat.le_of_ble_eq_true rfl), (Nat.le_of_ble_eq_true rfl)⟩ [] rfl rfl rfl (wn := (mo_W h cI cJ row att fnd tape tmany sort begs tends word valu good bits size shts lent imag befo kept)) rfl rfl (Nat.le_of_ble_eq_true rfl) rfl dX10_placeOf_10 rfl ?_
    refine sw_if_ne (pc' := 16) (tgt := 23) cx dX10_placeOf_13 (by decide) rfl (fun c4 => ?_) (fun c4 => ?_)
    · replace hf := it_n c4 hf
      refine sw_iload_n (pc' := 24) (i := 2) cx dX10_placeOf_23 rfl 2 rfl rfl ?_
      refine sw_iconst (pc' := 25) (v := 1) cx dX10_placeOf_24 iconst_1 rfl ?_
      refine sw_icmp_le (pc' := 28) (tgt := 43) cx dX10_placeOf_25 (by decide) rfl (fun c5 => ?_) (fun c5 => ?_)
      · replace hf := it_p c5 hf
        exact sw_lv [0, 1, 2] rfl (B43 fnd a0 a1 hf)
      · replace hf := it_n c5 hf
        refine sw_aload_n (pc' := 29) (i := 0) cx dX10_placeOf_28 rfl 0 rfl rfl ?_
        refine sw_iload_n (pc' := 30) (i := 1) cx dX10_placeOf_29 rfl 1 rfl rfl ?_
        obtain ⟨r6, hr6, hf⟩ := bd_s hf
        refine sw_callVw (pc' := 33) (As := [.int a0]) (rest := []) (w' := (mo_W h cI cJ row att fnd tape tmany sort begs tends word valu good bits size shts lent imag befo kept)) cx (k_X10_isWhole l D h cI cJ cK cS row att fnd tape tmany sort begs tends word valu good bits size shts lent imag befo kept a0 r6 hr6) pk_yX10_isWhole ml_RX10_78 ⟨rfl, rfl⟩ ⟨(Nat.le_of_ble_eq_true rfl), (Nat.le_of_ble_eq_true rfl)⟩ ⟨(Nat.le_of_ble_eq_true rfl), (Nat.le_of_ble_eq_true rfl)⟩ 0 rfl rfl rfl rfl (Nat.le_of_ble_eq_true rfl) rfl dX10_placeOf_30 rfl ?_
        refine sw_if_ne (pc' := 36) (tgt := 43) cx dX10_placeOf_33 (by decide) rfl (fun c7 => ?_) (fun c7 => ?_)
        · replace hf := it_n c7 hf
          exact sw_lv [0, 1, 2] rfl (B43 fnd a0 a1 hf)
        · replace hf := it_p c7 hf
          refine sw_aload_n (pc' := 37) (i := 0) cx dX10_placeOf_36 rfl 0 rfl rfl ?_
          refine sw_ldc (pc' := 39) cx ct_RX10_101 dX10_placeOf_37 rfl ?_
          obtain ⟨r8, hr8, hf⟩ := bd_s hf
          refine sw_callVw (pc' := 42) (As := [.int (-1000000005 : Int32)]) (rest := []) (w' := (mo_W h cI cJ row att r8.2 tape tmany sort begs tends word valu good bits size shts lent imag befo kept)) cx (k_X10_finds l D h cI cJ cK cS row att fnd tape tmany sort begs tends word valu good bits size shts lent imag befo kept (-1000000005 : Int32) r8 hr8) pk_yX10_finds ml_RX10_63 ⟨rfl, rfl⟩ ⟨(Nat.le_of_ble_eq_true rfl), (Nat.le_of_ble_eq_true rfl)⟩ ⟨(Nat.le_of_ble_eq_true rfl), (Nat.le_of_ble_eq_true rfl)⟩ 0 rfl rfl rfl rfl (Nat.le_of_ble_eq_true rfl) rfl dX10_placeOf_39 rfl ?_
          obtain rfl := Option.some.inj hf
          exact sw_iret cx hr hQ dX10_placeOf_42
    · replace hf := it_p c4 hf
      exact sw_lv [0] rfl (B16 fnd hf)
abbrev rm_X10_wholeSet : Room := ({ frames := 2, cells := 0, slots := 0, locals := 42 } : Room)
set_option maxRecDepth 100000 in
set_option maxHeartbeats 4000000 in
theorem k_X10_wholeSet (l : Launch) (D : sf_D) (h : Nat → Nat) (cI cJ cK cS : ClassId) (row : Nat → Int32) (att : Int32) (fnd : Nat → Int32) (tape : Nat → Int32) (tmany : Int32) (sort : Int32) (begs : Int32) (tends : Int32) (word : Int64) (valu : Int32) (good : Int32) (bits : Nat → Int32) (size : Nat → Int32) (shts : Nat → Int64) (lent : Nat → Int64) (imag : Nat → Int32) (befo : Nat → Int32) (kept : Int32)  (res : Int64) (hf : f_X10_wholeSet row att = some res) : sf_Ct l yX10_wholeSet cX10_wholeSet 4 (some .long) rm_X10_wholeSet D (sf_ty cI cJ cK cS) [.ref (h 0)] (mo_W h cI cJ row att fnd tape tmany sort begs tends word valu good bits size shts lent imag befo kept) (some (.long res)) (mo_W h cI cJ row att fnd tape tmany sort begs tends word valu good bits size shts lent imag befo kept) := by
  refine sf_met (lv := [(0, .ref (h 0))]) (by decide) (Nat.le_of_ble_eq_true rfl) rfl ?_
  intro p e s m args below meth c A Q cx hr hQ
  have cx : sf_Cx p m meth c cX10_wholeSet 4 s args RX10 D (sf_ty cI cJ cK cS) A := cx
  have B26 : ∀ (kk : Int64 → Int32 → Option (Int64)), (∀ (x1 : Int64) (x3 : Int32), kk x1 x3 = some res → sf_W p l e rm_X10_wholeSet s m args below meth c 0 0 Q 4 D A (mo_W h cI cJ row att fnd tape tmany sort begs tends word valu good bits size shts lent imag befo kept) [(0, .ref (h 0)), (1, .long x1), (3, .int x3)] 4 []) → ∀ (x3 : Int32) (s0 : Int64) (s1 : Int64), f_X10_wholeSet_b26 row att kk x3 s0 s1 = some res → sf_W p l e rm_X10_wholeSet s m args below meth c 0 0 Q 4 D A (mo_W h cI cJ row att fnd tape tmany sort begs tends word valu good bits size shts lent imag befo kept) [(0, .ref (h 0)), (3, .int x3)] 26 [.long s0, .long s1] := by
    intro kk hkk x3 s0 s1 hf
    unfold f_X10_wholeSet_b26 at hf
    refine sw_lor (pc' := 27) cx dX10_wholeSet_26 rfl ?_
    refine sw_lstore_n (pc' := 28) (i := 1) (lv' := [(1, .long (s1 ||| s0)), (0, .ref (h 0)), (3, .int x3)]) cx dX10_wholeSet_27 rfl (Nat.le_of_ble_eq_true rfl) rfl rfl ?_
    refine sw_iinc (pc' := 31) (v := (x3 + (1 : Int32))) (lv' := [(3, .int (x3 + (1 : Int32))), (1, .long (s1 ||| s0)), (0, .ref (h 0))]) cx dX10_wholeSet_28 2 rfl rfl (Nat.le_of_ble_eq_true rfl) rfl rfl ?_
    refine sw_goto (tgt := 4) cx dX10_wholeSet_31 (by decide) ?_
    exact sw_lv [2, 1, 0] rfl (hkk (s1 ||| s0) (x3 + (1 : Int32)) hf)
  have B4 : ∀ (n : Nat), ∀ (x1 : Int64) (x3 : Int32), f_X10_wholeSet_b4 row att n x1 x3 = some res → sf_W p l e rm_X10_wholeSet s m args below meth c 0 0 Q 4 D A (mo_W h cI cJ row att fnd tape tmany sort begs tends word valu good bits size shts lent imag befo kept) [(0, .ref (h 0)), (1, .long x1), (3, .int x3)] 4 [] := by
    intro n
    induction n with
    | zero => intro x1 x3 hf; rw [f_X10_wholeSet_b4] at hf; cases hf
    | succ n ih =>
      intro x1 x3 hf
      rw [f_X10_wholeSet_b4] at hf
      refine sw_iload_n (pc' := 5) (i := 3) cx dX10_wholeSet_4 rfl 2 rfl rfl ?_
      refine sw_bipush (pc' := 7) (v := 40) cx dX10_wholeSet_5 bipush_40 rfl ?_
      refine sw_icmp_ge (pc' := 10) (tgt := 34) cx dX10_wholeSet_7 (by decide) rfl (fun c1 => ?_) (fun c1 => ?_)
      · replace hf := it_p c1 hf
        refine sw_lload_n (pc' := 35) (i := 1) cx dX10_wholeSet_34 rfl 1 rfl rfl ?_
        obtain rfl := Option.some.inj hf
        exact sw_lret cx hr hQ dX10_wholeSet_35
      · replace hf := it_n c1 hf
        refine sw_lload_n (pc' := 11) (i := 1) cx dX10_wholeSet_10 rfl 1 rfl rfl ?_
        refine sw_aload_n (pc' := 12) (i := 0) cx dX10_wholeSet_11 rfl 0 rfl rfl ?_
        refine sw_iload_n (pc' := 13) (i := 3) cx dX10_wholeSet_12 rfl 2 rfl rfl ?_
        obtain ⟨r2, hr2, hf⟩ := bd_s hf
        refine sw_callVw (pc' := 16) (As := [.int x3]) (rest := [.long x1]) (w' := (mo_W h cI cJ row att fnd tape tmany sort begs tends word valu good bits size shts lent imag befo kept)) cx (k_X10_isWhole l D h cI cJ cK cS row att fnd tape tmany sort begs tends word valu good bits size shts lent imag befo kept x3 r2 hr2) pk_yX10_isWhole ml_RX10_78 ⟨rfl, rfl⟩ ⟨(Nat.le_of_ble_eq_true rfl), (Nat.le_of_ble_eq_true rfl)⟩ ⟨(Nat.le_of_ble_eq_true rfl), (Nat.le_of_ble_eq_true rfl)⟩ 0 rfl rfl rfl rfl (Nat.le_of_ble_eq_true rfl) rfl dX10_wholeSet_13 rfl ?_
        refine sw_if_eq (pc' := 19) (tgt := 25) cx dX10_wholeSet_16 (by decide) rfl (fun c3 => ?_) (fun c3 => ?_)
        · replace hf := it_p c3 hf
          refine sw_lconst (pc' := 26) (v := 0) cx dX10_wholeSet_25 rfl rfl ?_
          exact sw_lv [0, 2] rfl (B26 _ ih x3 (0 : Int64) x1 hf)
        · replace hf := it_n c3 hf
          refine sw_lconst (pc' := 20) (v := 1) cx dX10_wholeSet_19 rfl rfl ?_
          refine sw_iload_n (pc' := 21) (i := 3) cx dX10_wholeSet_20 rfl 2 rfl rfl ?_
          refine sw_lshl (pc' := 22) cx dX10_wholeSet_21 rfl ?_
          refine sw_goto (tgt := 26) cx dX10_wholeSet_22 (by decide) ?_
          exact sw_lv [0, 2] rfl (B26 _ ih x3 ((1 : Int64) <<< ((x3).toInt64 &&& 63)) x1 hf)
  unfold f_X10_wholeSet at hf
  refine sw_lconst (pc' := 1) (v := 0) cx dX10_wholeSet_0 rfl rfl ?_
  refine sw_lstore_n (pc' := 2) (i := 1) (lv' := [(1, .long (0 : Int64)), (0, .ref (h 0))]) cx dX10_wholeSet_1 rfl (Nat.le_of_ble_eq_true rfl) rfl rfl ?_
  refine sw_iconst (pc' := 3) (v := 0) cx dX10_wholeSet_2 iconst_0 rfl ?_
  refine sw_istore_n (pc' := 4) (i := 3) (lv' := [(3, .int (0 : Int32)), (1, .long (0 : Int64)), (0, .ref (h 0))]) cx dX10_wholeSet_3 rfl (Nat.le_of_ble_eq_true rfl) rfl rfl ?_
  exact sw_lv [2, 1, 0] rfl (B4 1000 (0 : Int64) (0 : Int32) hf)
abbrev rm_X10_whole : Room := ({ frames := 3, cells := 0, slots := 0, locals := 65 } : Room)
set_option maxRecDepth 100000 in
set_option maxHeartbeats 4000000 in
theorem k_X10_whole (l : Launch) (D : sf_D) (h : Nat → Nat) (cI cJ cK cS : ClassId) (row : Nat → Int32) (att : Int32) (fnd : Nat → Int32) (tape : Nat → Int32) (tmany : Int32) (sort : Int32) (begs : Int32) (tends : Int32) (word : Int64) (valu : Int32) (good : Int32) (bits : Nat → Int32) (size : Nat → Int32) (shts : Nat → Int64) (lent : Nat → Int64) (imag : Nat → Int32) (befo : Nat → Int32) (kept : Int32)  (res : Int64) (hf : f_X10_whole row att = some res) : sf_Ct l yX10_whole cX10_whole 1 (some .long) rm_X10_whole D (sf_ty cI cJ cK cS) [.ref (h 0)] (mo_W h cI cJ row att fnd tape tmany sort begs tends word valu good bits size shts lent imag befo kept) (some (.long res)) (mo_W h cI cJ row att fnd tape tmany sort begs tends word valu good bits size shts lent imag befo kept) := by
  refine sf_met (lv := [(0, .ref (h 0))]) (by decide) (Nat.le_of_ble_eq_true rfl) rfl ?_
  intro p e s m args below meth c A Q cx hr hQ
  have cx : sf_Cx p m meth c cX10_whole 1 s args RX10 D (sf_ty cI cJ cK cS) A := cx
  unfold f_X10_whole at hf
  refine sw_aload_n (pc' := 1) (i := 0) cx dX10_whole_0 rfl 0 rfl rfl ?_
  obtain ⟨r1, hr1, hf⟩ := bd_s hf
  refine sw_callVw (pc' := 4) (As := []) (rest := []) (w' := (mo_W h cI cJ row att fnd tape tmany sort begs tends word valu good bits size shts lent imag befo kept)) cx (k_X10_wholeSet l D h cI cJ cK cS row att fnd tape tmany sort begs tends word valu good bits size shts lent imag befo kept  r1 hr1) pk_yX10_wholeSet ml_RX10_102 ⟨rfl, rfl⟩ ⟨(Nat.le_of_ble_eq_true rfl), (Nat.le_of_ble_eq_true rfl)⟩ ⟨(Nat.le_of_ble_eq_true rfl), (Nat.le_of_ble_eq_true rfl)⟩ 0 rfl rfl rfl rfl (Nat.le_of_ble_eq_true rfl) rfl dX10_whole_1 rfl ?_
  obtain rfl := Option.some.inj hf
  exact sw_lret cx hr hQ dX10_whole_4
abbrev rm_X10_cuts : Room := ({ frames := 1, cells := 0, slots := 0, locals := 21 } : Room)
set_option maxRecDepth 100000 in
set_option maxHeartbeats 4000000 in
theorem k_X10_cuts (l : Launch) (D : sf_D) (h : Nat → Nat) (cI cJ cK cS : ClassId) (row : Nat → Int32) (att : Int32) (fnd : Nat → Int32) (tape : Nat → Int32) (tmany : Int32) (sort : Int32) (begs : Int32) (tends : Int32) (word : Int64) (valu : Int32) (good : Int32) (bits : Nat → Int32) (size : Nat → Int32) (shts : Nat → Int64) (lent : Nat → Int64) (imag : Nat → Int32) (befo : Nat → Int32) (kept : Int32) (a0 : Int32) (a1 : Int32) (a2 : Int32) (res : (Nat → Int32)) (hf : f_X10_cuts row att a0 a1 a2 = some res) : sf_Ct l yX10_cuts cX10_cuts 4 none rm_X10_cuts D (sf_ty cI cJ cK cS) [.ref (h 0), .int a0, .int a1, .int a2] (mo_W h cI cJ row att fnd tape tmany sort begs tends word valu good bits size shts lent imag befo kept) none (mo_W h cI cJ res att fnd tape tmany sort begs tends word valu good bits size shts lent imag befo kept) := by
  refine sf_met (lv := [(0, .ref (h 0)), (1, .int a0), (2, .int a1), (3, .int a2)]) (by decide) (Nat.le_of_ble_eq_true rfl) rfl ?_
  intro p e s m args below meth c A Q cx hr hQ
  have cx : sf_Cx p m meth c cX10_cuts 4 s args RX10 D (sf_ty cI cJ cK cS) A := cx
  unfold f_X10_cuts at hf
  refine sw_aload_n (pc' := 1) (i := 0) cx dX10_cuts_0 rfl 0 rfl rfl ?_
  refine sw_get (pc' := 4) cx in_X10 0 rfl rfl 0 (Nat.le_of_ble_eq_true rfl) fl_RX10_7 rfl dX10_cuts_1 rfl ?_
  refine sw_aload_n (pc' := 5) (i := 0) cx dX10_cuts_4 rfl 0 rfl rfl ?_
  refine sw_get (pc' := 8) cx in_X10 0 rfl rfl 1 (Nat.le_of_ble_eq_true rfl) fl_RX10_39 rfl dX10_cuts_5 rfl ?_
  refine sw_bipush (pc' := 10) (v := 45) cx dX10_cuts_8 bipush_45 rfl ?_
  refine sw_iadd (pc' := 11) cx dX10_cuts_10 rfl ?_
  refine sw_iload_n (pc' := 12) (i := 1) cx dX10_cuts_11 rfl 1 rfl rfl ?_
  refine sw_iadd (pc' := 13) cx dX10_cuts_12 rfl ?_
  refine sw_iconst (pc' := 14) (v := 1) cx dX10_cuts_13 iconst_1 rfl ?_
  obtain ⟨h1, hf⟩ := gx_s hf
  refine sw_iast (pc' := 15) (ws' := (mo_W h cI cJ (upd row (((att + (45 : Int32)) + a0)).toNatClampNeg (1 : Int32)) att fnd tape tmany sort begs tends word valu good bits size shts lent imag befo kept)) cx 1 0 rfl rfl h1 dX10_cuts_14 rfl rfl ?_
  refine sw_aload_n (pc' := 16) (i := 0) cx dX10_cuts_15 rfl 0 rfl rfl ?_
  refine sw_get (pc' := 19) cx in_X10 0 rfl rfl 0 (Nat.le_of_ble_eq_true rfl) fl_RX10_7 rfl dX10_cuts_16 rfl ?_
  refine sw_aload_n (pc' := 20) (i := 0) cx dX10_cuts_19 rfl 0 rfl rfl ?_
  refine sw_get (pc' := 23) cx in_X10 0 rfl rfl 1 (Nat.le_of_ble_eq_true rfl) fl_RX10_39 rfl dX10_cuts_20 rfl ?_
  refine sw_bipush (pc' := 25) (v := 85) cx dX10_cuts_23 bipush_85 rfl ?_
  refine sw_iadd (pc' := 26) cx dX10_cuts_25 rfl ?_
  refine sw_iload_n (pc' := 27) (i := 1) cx dX10_cuts_26 rfl 1 rfl rfl ?_
  refine sw_iadd (pc' := 28) cx dX10_cuts_27 rfl ?_
  refine sw_iload_n (pc' := 29) (i := 2) cx dX10_cuts_28 rfl 2 rfl rfl ?_
  obtain ⟨h2, hf⟩ := gx_s hf
  refine sw_iast (pc' := 30) (ws' := (mo_W h cI cJ (upd (upd row (((att + (45 : Int32)) + a0)).toNatClampNeg (1 : Int32)) (((att + (85 : Int32)) + a0)).toNatClampNeg a1) att fnd tape tmany sort begs tends word valu good bits size shts lent imag befo kept)) cx 1 0 rfl rfl h2 dX10_cuts_29 rfl rfl ?_
  refine sw_aload_n (pc' := 31) (i := 0) cx dX10_cuts_30 rfl 0 rfl rfl ?_
  refine sw_get (pc' := 34) cx in_X10 0 rfl rfl 0 (Nat.le_of_ble_eq_true rfl) fl_RX10_7 rfl dX10_cuts_31 rfl ?_
  refine sw_aload_n (pc' := 35) (i := 0) cx dX10_cuts_34 rfl 0 rfl rfl ?_
  refine sw_get (pc' := 38) cx in_X10 0 rfl rfl 1 (Nat.le_of_ble_eq_true rfl) fl_RX10_39 rfl dX10_cuts_35 rfl ?_
  refine sw_bipush (pc' := 40) (v := 125) cx dX10_cuts_38 bipush_125 rfl ?_
  refine sw_iadd (pc' := 41) cx dX10_cuts_40 rfl ?_
  refine sw_iload_n (pc' := 42) (i := 1) cx dX10_cuts_41 rfl 1 rfl rfl ?_
  refine sw_iadd (pc' := 43) cx dX10_cuts_42 rfl ?_
  refine sw_iload_n (pc' := 44) (i := 3) cx dX10_cuts_43 rfl 3 rfl rfl ?_
  obtain ⟨h3, hf⟩ := gx_s hf
  refine sw_iast (pc' := 45) (ws' := (mo_W h cI cJ (upd (upd (upd row (((att + (45 : Int32)) + a0)).toNatClampNeg (1 : Int32)) (((att + (85 : Int32)) + a0)).toNatClampNeg a1) (((att + (125 : Int32)) + a0)).toNatClampNeg a2) att fnd tape tmany sort begs tends word valu good bits size shts lent imag befo kept)) cx 1 0 rfl rfl h3 dX10_cuts_44 rfl rfl ?_
  refine sw_aload_n (pc' := 46) (i := 0) cx dX10_cuts_45 rfl 0 rfl rfl ?_
  refine sw_get (pc' := 49) cx in_X10 0 rfl rfl 0 (Nat.le_of_ble_eq_true rfl) fl_RX10_7 rfl dX10_cuts_46 rfl ?_
  refine sw_aload_n (pc' := 50) (i := 0) cx dX10_cuts_49 rfl 0 rfl rfl ?_
  refine sw_get (pc' := 53) cx in_X10 0 rfl rfl 1 (Nat.le_of_ble_eq_true rfl) fl_RX10_39 rfl dX10_cuts_50 rfl ?_
  refine sw_sipush (pc' := 56) (v := 165) cx dX10_cuts_53 sipush_165 rfl ?_
  refine sw_iadd (pc' := 57) cx dX10_cuts_56 rfl ?_
  refine sw_iload_n (pc' := 58) (i := 1) cx dX10_cuts_57 rfl 1 rfl rfl ?_
  refine sw_iadd (pc' := 59) cx dX10_cuts_58 rfl ?_
  refine sw_aload_n (pc' := 60) (i := 0) cx dX10_cuts_59 rfl 0 rfl rfl ?_
  refine sw_iconst (pc' := 61) (v := 0) cx dX10_cuts_60 iconst_0 rfl ?_
  obtain ⟨r4, hr4, hf⟩ := bd_s hf
  refine sw_callVw (pc' := 64) (As := [.int (0 : Int32)]) (rest := [.int ((att + (165 : Int32)) + a0), .ref (h 1)]) (w' := (mo_W h cI cJ (upd (upd (upd row (((att + (45 : Int32)) + a0)).toNatClampNeg (1 : Int32)) (((att + (85 : Int32)) + a0)).toNatClampNeg a1) (((att + (125 : Int32)) + a0)).toNatClampNeg a2) att fnd tape tmany sort begs tends word valu good bits size shts lent imag befo kept)) cx (k_X10_its l D h cI cJ cK cS (upd (upd (upd row (((att + (45 : Int32)) + a0)).toNatClampNeg (1 : Int32)) (((att + (85 : Int32)) + a0)).toNatClampNeg a1) (((att + (125 : Int32)) + a0)).toNatClampNeg a2) att fnd tape tmany sort begs tends word valu good bits size shts lent imag befo kept (0 : Int32) r4 hr4) pk_yX10_its ml_RX10_43 ⟨rfl, rfl⟩ ⟨(Nat.le_of_ble_eq_true rfl), (Nat.le_of_ble_eq_true rfl)⟩ ⟨(Nat.le_of_ble_eq_true rfl), (Nat.le_of_ble_eq_true rfl)⟩ 0 rfl rfl rfl rfl (Nat.le_of_ble_eq_true rfl) rfl dX10_cuts_61 rfl ?_
  obtain ⟨h5, hf⟩ := gx_s hf
  refine sw_iast (pc' := 65) (ws' := (mo_W h cI cJ (upd (upd (upd (upd row (((att + (45 : Int32)) + a0)).toNatClampNeg (1 : Int32)) (((att + (85 : Int32)) + a0)).toNatClampNeg a1) (((att + (125 : Int32)) + a0)).toNatClampNeg a2) (((att + (165 : Int32)) + a0)).toNatClampNeg r4) att fnd tape tmany sort begs tends word valu good bits size shts lent imag befo kept)) cx 1 0 rfl rfl h5 dX10_cuts_64 rfl rfl ?_
  obtain rfl := Option.some.inj hf
  exact sw_vret cx hr hQ dX10_cuts_65
abbrev rm_X10_breaks : Room := ({ frames := 0, cells := 0, slots := 0, locals := 0 } : Room)
set_option maxRecDepth 100000 in
set_option maxHeartbeats 4000000 in
theorem k_X10_breaks (l : Launch) (D : sf_D) (h : Nat → Nat) (cI cJ cK cS : ClassId) (row : Nat → Int32) (att : Int32) (fnd : Nat → Int32) (tape : Nat → Int32) (tmany : Int32) (sort : Int32) (begs : Int32) (tends : Int32) (word : Int64) (valu : Int32) (good : Int32) (bits : Nat → Int32) (size : Nat → Int32) (shts : Nat → Int64) (lent : Nat → Int64) (imag : Nat → Int32) (befo : Nat → Int32) (kept : Int32) (a0 : Int32) (res : (Nat → Int32)) (hf : f_X10_breaks row att a0 = some res) : sf_Ct l yX10_breaks cX10_breaks 2 none rm_X10_breaks D (sf_ty cI cJ cK cS) [.ref (h 0), .int a0] (mo_W h cI cJ row att fnd tape tmany sort begs tends word valu good bits size shts lent imag befo kept) none (mo_W h cI cJ res att fnd tape tmany sort begs tends word valu good bits size shts lent imag befo kept) := by
  refine sf_met (lv := [(0, .ref (h 0)), (1, .int a0)]) (by decide) (Nat.le_of_ble_eq_true rfl) rfl ?_
  intro p e s m args below meth c A Q cx hr hQ
  have cx : sf_Cx p m meth c cX10_breaks 2 s args RX10 D (sf_ty cI cJ cK cS) A := cx
  unfold f_X10_breaks at hf
  refine sw_aload_n (pc' := 1) (i := 0) cx dX10_breaks_0 rfl 0 rfl rfl ?_
  refine sw_get (pc' := 4) cx in_X10 0 rfl rfl 0 (Nat.le_of_ble_eq_true rfl) fl_RX10_7 rfl dX10_breaks_1 rfl ?_
  refine sw_aload_n (pc' := 5) (i := 0) cx dX10_breaks_4 rfl 0 rfl rfl ?_
  refine sw_get (pc' := 8) cx in_X10 0 rfl rfl 1 (Nat.le_of_ble_eq_true rfl) fl_RX10_39 rfl dX10_breaks_5 rfl ?_
  refine sw_bipush (pc' := 10) (v := 45) cx dX10_breaks_8 bipush_45 rfl ?_
  refine sw_iadd (pc' := 11) cx dX10_breaks_10 rfl ?_
  refine sw_iload_n (pc' := 12) (i := 1) cx dX10_breaks_11 rfl 1 rfl rfl ?_
  refine sw_iadd (pc' := 13) cx dX10_breaks_12 rfl ?_
  refine sw_iconst (pc' := 14) (v := 0) cx dX10_breaks_13 iconst_0 rfl ?_
  obtain ⟨h1, hf⟩ := gx_s hf
  refine sw_iast (pc' := 15) (ws' := (mo_W h cI cJ (upd row (((att + (45 : Int32)) + a0)).toNatClampNeg (0 : Int32)) att fnd tape tmany sort begs tends word valu good bits size shts lent imag befo kept)) cx 1 0 rfl rfl h1 dX10_breaks_14 rfl rfl ?_
  refine sw_aload_n (pc' := 16) (i := 0) cx dX10_breaks_15 rfl 0 rfl rfl ?_
  refine sw_get (pc' := 19) cx in_X10 0 rfl rfl 0 (Nat.le_of_ble_eq_true rfl) fl_RX10_7 rfl dX10_breaks_16 rfl ?_
  refine sw_aload_n (pc' := 20) (i := 0) cx dX10_breaks_19 rfl 0 rfl rfl ?_
  refine sw_get (pc' := 23) cx in_X10 0 rfl rfl 1 (Nat.le_of_ble_eq_true rfl) fl_RX10_39 rfl dX10_breaks_20 rfl ?_
  refine sw_bipush (pc' := 25) (v := 85) cx dX10_breaks_23 bipush_85 rfl ?_
  refine sw_iadd (pc' := 26) cx dX10_breaks_25 rfl ?_
  refine sw_iload_n (pc' := 27) (i := 1) cx dX10_breaks_26 rfl 1 rfl rfl ?_
  refine sw_iadd (pc' := 28) cx dX10_breaks_27 rfl ?_
  refine sw_iconst (pc' := 29) (v := 0) cx dX10_breaks_28 iconst_0 rfl ?_
  obtain ⟨h2, hf⟩ := gx_s hf
  refine sw_iast (pc' := 30) (ws' := (mo_W h cI cJ (upd (upd row (((att + (45 : Int32)) + a0)).toNatClampNeg (0 : Int32)) (((att + (85 : Int32)) + a0)).toNatClampNeg (0 : Int32)) att fnd tape tmany sort begs tends word valu good bits size shts lent imag befo kept)) cx 1 0 rfl rfl h2 dX10_breaks_29 rfl rfl ?_
  refine sw_aload_n (pc' := 31) (i := 0) cx dX10_breaks_30 rfl 0 rfl rfl ?_
  refine sw_get (pc' := 34) cx in_X10 0 rfl rfl 0 (Nat.le_of_ble_eq_true rfl) fl_RX10_7 rfl dX10_breaks_31 rfl ?_
  refine sw_aload_n (pc' := 35) (i := 0) cx dX10_breaks_34 rfl 0 rfl rfl ?_
  refine sw_get (pc' := 38) cx in_X10 0 rfl rfl 1 (Nat.le_of_ble_eq_true rfl) fl_RX10_39 rfl dX10_breaks_35 rfl ?_
  refine sw_bipush (pc' := 40) (v := 125) cx dX10_breaks_38 bipush_125 rfl ?_
  refine sw_iadd (pc' := 41) cx dX10_breaks_40 rfl ?_
  refine sw_iload_n (pc' := 42) (i := 1) cx dX10_breaks_41 rfl 1 rfl rfl ?_
  refine sw_iadd (pc' := 43) cx dX10_breaks_42 rfl ?_
  refine sw_iconst (pc' := 44) (v := 0) cx dX10_breaks_43 iconst_0 rfl ?_
  obtain ⟨h3, hf⟩ := gx_s hf
  refine sw_iast (pc' := 45) (ws' := (mo_W h cI cJ (upd (upd (upd row (((att + (45 : Int32)) + a0)).toNatClampNeg (0 : Int32)) (((att + (85 : Int32)) + a0)).toNatClampNeg (0 : Int32)) (((att + (125 : Int32)) + a0)).toNatClampNeg (0 : Int32)) att fnd tape tmany sort begs tends word valu good bits size shts lent imag befo kept)) cx 1 0 rfl rfl h3 dX10_breaks_44 rfl rfl ?_
  refine sw_aload_n (pc' := 46) (i := 0) cx dX10_breaks_45 rfl 0 rfl rfl ?_
  refine sw_get (pc' := 49) cx in_X10 0 rfl rfl 0 (Nat.le_of_ble_eq_true rfl) fl_RX10_7 rfl dX10_breaks_46 rfl ?_
  refine sw_aload_n (pc' := 50) (i := 0) cx dX10_breaks_49 rfl 0 rfl rfl ?_
  refine sw_get (pc' := 53) cx in_X10 0 rfl rfl 1 (Nat.le_of_ble_eq_true rfl) fl_RX10_39 rfl dX10_breaks_50 rfl ?_
  refine sw_sipush (pc' := 56) (v := 165) cx dX10_breaks_53 sipush_165 rfl ?_
  refine sw_iadd (pc' := 57) cx dX10_breaks_56 rfl ?_
  refine sw_iload_n (pc' := 58) (i := 1) cx dX10_breaks_57 rfl 1 rfl rfl ?_
  refine sw_iadd (pc' := 59) cx dX10_breaks_58 rfl ?_
  refine sw_iconst (pc' := 60) (v := 0) cx dX10_breaks_59 iconst_0 rfl ?_
  obtain ⟨h4, hf⟩ := gx_s hf
  refine sw_iast (pc' := 61) (ws' := (mo_W h cI cJ (upd (upd (upd (upd row (((att + (45 : Int32)) + a0)).toNatClampNeg (0 : Int32)) (((att + (85 : Int32)) + a0)).toNatClampNeg (0 : Int32)) (((att + (125 : Int32)) + a0)).toNatClampNeg (0 : Int32)) (((att + (165 : Int32)) + a0)).toNatClampNeg (0 : Int32)) att fnd tape tmany sort begs tends word valu good bits size shts lent imag befo kept)) cx 1 0 rfl rfl h4 dX10_breaks_60 rfl rfl ?_
  obtain rfl := Option.some.inj hf
  exact sw_vret cx hr hQ dX10_breaks_61
abbrev rm_X10_make : Room := ({ frames := 2, cells := 0, slots := 0, locals := 44 } : Room)
set_option maxRecDepth 100000 in
set_option maxHeartbeats 4000000 in
theorem k_X10_make (l : Launch) (D : sf_D) (h : Nat → Nat) (cI cJ cK cS : ClassId) (row : Nat → Int32) (att : Int32) (fnd : Nat → Int32) (tape : Nat → Int32) (tmany : Int32) (sort : Int32) (begs : Int32) (tends : Int32) (word : Int64) (valu : Int32) (good : Int32) (bits : Nat → Int32) (size : Nat → Int32) (shts : Nat → Int64) (lent : Nat → Int64) (imag : Nat → Int32) (befo : Nat → Int32) (kept : Int32) (a0 : Int32) (a1 : Int32) (a2 : Int32) (res : Int32 × (Nat → Int32) × (Nat → Int32)) (hf : f_X10_make row att fnd a0 a1 a2 = some res) : sf_Ct l yX10_make cX10_make 4 (some .int) rm_X10_make D (sf_ty cI cJ cK cS) [.ref (h 0), .int a0, .int a1, .int a2] (mo_W h cI cJ row att fnd tape tmany sort begs tends word valu good bits size shts lent imag befo kept) (some (.int res.1)) (mo_W h cI cJ res.2.1 att res.2.2 tape tmany sort begs tends word valu good bits size shts lent imag befo kept) := by
  refine sf_met (lv := [(0, .ref (h 0)), (1, .int a0), (2, .int a1), (3, .int a2)]) (by decide) (Nat.le_of_ble_eq_true rfl) rfl ?_
  intro p e s m args below meth c A Q cx hr hQ
  have cx : sf_Cx p m meth c cX10_make 4 s args RX10 D (sf_ty cI cJ cK cS) A := cx
  have B15 : ∀ (row : Nat → Int32) (fnd : Nat → Int32), f_X10_make_b15 att row fnd = some res → sf_W p l e rm_X10_make s m args below meth c 0 0 Q 4 D A (mo_W h cI cJ row att fnd tape tmany sort begs tends word valu good bits size shts lent imag befo kept) [(0, .ref (h 0))] 15 [] := by
    intro row fnd hf
    unfold f_X10_make_b15 at hf
    refine sw_aload_n (pc' := 16) (i := 0) cx dX10_make_15 rfl 0 rfl rfl ?_
    refine sw_ldc (pc' := 18) cx ct_RX10_38 dX10_make_16 rfl ?_
    obtain ⟨r10, hr10, hf⟩ := bd_s hf
    refine sw_callVw (pc' := 21) (As := [.int (-1000000001 : Int32)]) (rest := []) (w' := (mo_W h cI cJ row att r10.2 tape tmany sort begs tends word valu good bits size shts lent imag befo kept)) cx (k_X10_finds l D h cI cJ cK cS row att fnd tape tmany sort begs tends word valu good bits size shts lent imag befo kept (-1000000001 : Int32) r10 hr10) pk_yX10_finds ml_RX10_63 ⟨rfl, rfl⟩ ⟨(Nat.le_of_ble_eq_true rfl), (Nat.le_of_ble_eq_true rfl)⟩ ⟨(Nat.le_of_ble_eq_true rfl), (Nat.le_of_ble_eq_true rfl)⟩ 0 rfl rfl rfl rfl (Nat.le_of_ble_eq_true rfl) rfl dX10_make_18 rfl ?_
    obtain rfl := Option.some.inj hf
    exact sw_iret cx hr hQ dX10_make_21
  unfold f_X10_make at hf
  refine sw_iload_n (pc' := 1) (i := 1) cx dX10_make_0 rfl 1 rfl rfl ?_
  obtain ⟨r1, hr1, hf⟩ := bd_s hf
  refine sw_callS (pc' := 4) (As := [.int a0]) (rest := []) cx (k_X10_isPlace l D h cI cJ cK cS a0 r1 hr1) pk_yX10_isPlace ml_RX10_59 ⟨rfl, rfl⟩ ⟨(Nat.le_of_ble_eq_true rfl), (Nat.le_of_ble_eq_true rfl)⟩ ⟨(Nat.le_of_ble_eq_true rfl), (Nat.le_of_ble_eq_true rfl)⟩ [] rfl rfl rfl (wn := (mo_W h cI cJ row att fnd tape tmany sort begs tends word valu good bits size shts lent imag befo kept)) rfl rfl (Nat.le_of_ble_eq_true rfl) rfl dX10_make_1 rfl ?_
  refine sw_if_eq (pc' := 7) (tgt := 15) cx dX10_make_4 (by decide) rfl (fun c2 => ?_) (fun c2 => ?_)
  · replace hf := it_p c2 hf
    exact sw_lv [0] rfl (B15 row fnd hf)
  · replace hf := it_n c2 hf
    refine sw_aload_n (pc' := 8) (i := 0) cx dX10_make_7 rfl 0 rfl rfl ?_
    refine sw_iload_n (pc' := 9) (i := 3) cx dX10_make_8 rfl 3 rfl rfl ?_
    obtain ⟨r3, hr3, hf⟩ := bd_s hf
    refine sw_callVw (pc' := 12) (As := [.int a2]) (rest := []) (w' := (mo_W h cI cJ row att fnd tape tmany sort begs tends word valu good bits size shts lent imag befo kept)) cx (k_X10_isFine l D h cI cJ cK cS row att fnd tape tmany sort begs tends word valu good bits size shts lent imag befo kept a2 r3 hr3) pk_yX10_isFine ml_RX10_81 ⟨rfl, rfl⟩ ⟨(Nat.le_of_ble_eq_true rfl), (Nat.le_of_ble_eq_true rfl)⟩ ⟨(Nat.le_of_ble_eq_true rfl), (Nat.le_of_ble_eq_true rfl)⟩ 0 rfl rfl rfl rfl (Nat.le_of_ble_eq_true rfl) rfl dX10_make_9 rfl ?_
    refine sw_if_ne (pc' := 15) (tgt := 22) cx dX10_make_12 (by decide) rfl (fun c4 => ?_) (fun c4 => ?_)
    · replace hf := it_n c4 hf
      refine sw_aload_n (pc' := 23) (i := 0) cx dX10_make_22 rfl 0 rfl rfl ?_
      refine sw_iload_n (pc' := 24) (i := 1) cx dX10_make_23 rfl 1 rfl rfl ?_
      obtain ⟨r5, hr5, hf⟩ := bd_s hf
      refine sw_callVw (pc' := 27) (As := [.int a0]) (rest := []) (w' := (mo_W h cI cJ row att fnd tape tmany sort begs tends word valu good bits size shts lent imag befo kept)) cx (k_X10_isWhole l D h cI cJ cK cS row att fnd tape tmany sort begs tends word valu good bits size shts lent imag befo kept a0 r5 hr5) pk_yX10_isWhole ml_RX10_78 ⟨rfl, rfl⟩ ⟨(Nat.le_of_ble_eq_true rfl), (Nat.le_of_ble_eq_true rfl)⟩ ⟨(Nat.le_of_ble_eq_true rfl), (Nat.le_of_ble_eq_true rfl)⟩ 0 rfl rfl rfl rfl (Nat.le_of_ble_eq_true rfl) rfl dX10_make_24 rfl ?_
      refine sw_iload_n (pc' := 28) (i := 2) cx dX10_make_27 rfl 2 rfl rfl ?_
      refine sw_icmp_ne (pc' := 31) (tgt := 33) cx dX10_make_28 (by decide) rfl (fun c6 => ?_) (fun c6 => ?_)
      · replace hf := it_n c6 hf
        refine sw_iload_n (pc' := 34) (i := 2) cx dX10_make_33 rfl 2 rfl rfl ?_
        refine sw_if_eq (pc' := 37) (tgt := 48) cx dX10_make_34 (by decide) rfl (fun c7 => ?_) (fun c7 => ?_)
        · replace hf := it_p c7 hf
          refine sw_aload_n (pc' := 49) (i := 0) cx dX10_make_48 rfl 0 rfl rfl ?_
          refine sw_iload_n (pc' := 50) (i := 1) cx dX10_make_49 rfl 1 rfl rfl ?_
          obtain ⟨r8, hr8, hf⟩ := bd_s hf
          refine sw_callVw (pc' := 53) (As := [.int a0]) (rest := []) (w' := (mo_W h cI cJ r8 att fnd tape tmany sort begs tends word valu good bits size shts lent imag befo kept)) cx (k_X10_breaks l D h cI cJ cK cS row att fnd tape tmany sort begs tends word valu good bits size shts lent imag befo kept a0 r8 hr8) pk_yX10_breaks ml_RX10_109 ⟨rfl, rfl⟩ ⟨(Nat.le_of_ble_eq_true rfl), (Nat.le_of_ble_eq_true rfl)⟩ ⟨(Nat.le_of_ble_eq_true rfl), (Nat.le_of_ble_eq_true rfl)⟩ 0 rfl rfl rfl rfl (Nat.le_of_ble_eq_true rfl) rfl dX10_make_50 rfl ?_
          refine sw_iconst (pc' := 54) (v := 1) cx dX10_make_53 iconst_1 rfl ?_
          obtain rfl := Option.some.inj hf
          exact sw_iret cx hr hQ dX10_make_54
        · replace hf := it_n c7 hf
          refine sw_aload_n (pc' := 38) (i := 0) cx dX10_make_37 rfl 0 rfl rfl ?_
          refine sw_iload_n (pc' := 39) (i := 1) cx dX10_make_38 rfl 1 rfl rfl ?_
          refine sw_bipush (pc' := 41) (v := 10) cx dX10_make_39 bipush_10 rfl ?_
          refine sw_iload_n (pc' := 42) (i := 3) cx dX10_make_41 rfl 3 rfl rfl ?_
          obtain ⟨r9, hr9, hf⟩ := bd_s hf
          refine sw_callVw (pc' := 45) (As := [.int a0, .int (10 : Int32), .int a2]) (rest := []) (w' := (mo_W h cI cJ r9 att fnd tape tmany sort begs tends word valu good bits size shts lent imag befo kept)) cx (k_X10_cuts l D h cI cJ cK cS row att fnd tape tmany sort begs tends word valu good bits size shts lent imag befo kept a0 (10 : Int32) a2 r9 hr9) pk_yX10_cuts ml_RX10_106 ⟨rfl, rfl⟩ ⟨(Nat.le_of_ble_eq_true rfl), (Nat.le_of_ble_eq_true rfl)⟩ ⟨(Nat.le_of_ble_eq_true rfl), (Nat.le_of_ble_eq_true rfl)⟩ 0 rfl rfl rfl rfl (Nat.le_of_ble_eq_true rfl) rfl dX10_make_42 rfl ?_
          refine sw_goto (tgt := 53) cx dX10_make_45 (by decide) ?_
          refine sw_iconst (pc' := 54) (v := 1) cx dX10_make_53 iconst_1 rfl ?_
          obtain rfl := Option.some.inj hf
          exact sw_iret cx hr hQ dX10_make_54
      · replace hf := it_p c6 hf
        refine sw_iconst (pc' := 32) (v := 0) cx dX10_make_31 iconst_0 rfl ?_
        obtain rfl := Option.some.inj hf
        exact sw_iret cx hr hQ dX10_make_32
    · replace hf := it_p c4 hf
      exact sw_lv [0] rfl (B15 row fnd hf)
abbrev rm_X10_rises : Room := ({ frames := 1, cells := 0, slots := 0, locals := 21 } : Room)
set_option maxRecDepth 100000 in
set_option maxHeartbeats 4000000 in
theorem k_X10_rises (l : Launch) (D : sf_D) (h : Nat → Nat) (cI cJ cK cS : ClassId) (row : Nat → Int32) (att : Int32) (fnd : Nat → Int32) (tape : Nat → Int32) (tmany : Int32) (sort : Int32) (begs : Int32) (tends : Int32) (word : Int64) (valu : Int32) (good : Int32) (bits : Nat → Int32) (size : Nat → Int32) (shts : Nat → Int64) (lent : Nat → Int64) (imag : Nat → Int32) (befo : Nat → Int32) (kept : Int32) (a0 : Int32) (res : Int32) (hf : f_X10_rises row att a0 = some res) : sf_Ct l yX10_rises cX10_rises 2 (some .int) rm_X10_rises D (sf_ty cI cJ cK cS) [.ref (h 0), .int a0] (mo_W h cI cJ row att fnd tape tmany sort begs tends word valu good bits size shts lent imag befo kept) (some (.int res)) (mo_W h cI cJ row att fnd tape tmany sort begs tends word valu good bits size shts lent imag befo kept) := by
  refine sf_met (lv := [(0, .ref (h 0)), (1, .int a0)]) (by decide) (Nat.le_of_ble_eq_true rfl) rfl ?_
  intro p e s m args below meth c A Q cx hr hQ
  have cx : sf_Cx p m meth c cX10_rises 2 s args RX10 D (sf_ty cI cJ cK cS) A := cx
  unfold f_X10_rises at hf
  refine sw_aload_n (pc' := 1) (i := 0) cx dX10_rises_0 rfl 0 rfl rfl ?_
  refine sw_bipush (pc' := 3) (v := 85) cx dX10_rises_1 bipush_85 rfl ?_
  refine sw_iload_n (pc' := 4) (i := 1) cx dX10_rises_3 rfl 1 rfl rfl ?_
  refine sw_iadd (pc' := 5) cx dX10_rises_4 rfl ?_
  obtain ⟨r1, hr1, hf⟩ := bd_s hf
  refine sw_callVw (pc' := 8) (As := [.int ((85 : Int32) + a0)]) (rest := []) (w' := (mo_W h cI cJ row att fnd tape tmany sort begs tends word valu good bits size shts lent imag befo kept)) cx (k_X10_its l D h cI cJ cK cS row att fnd tape tmany sort begs tends word valu good bits size shts lent imag befo kept ((85 : Int32) + a0) r1 hr1) pk_yX10_its ml_RX10_43 ⟨rfl, rfl⟩ ⟨(Nat.le_of_ble_eq_true rfl), (Nat.le_of_ble_eq_true rfl)⟩ ⟨(Nat.le_of_ble_eq_true rfl), (Nat.le_of_ble_eq_true rfl)⟩ 0 rfl rfl rfl rfl (Nat.le_of_ble_eq_true rfl) rfl dX10_rises_5 rfl ?_
  refine sw_aload_n (pc' := 9) (i := 0) cx dX10_rises_8 rfl 0 rfl rfl ?_
  refine sw_bipush (pc' := 11) (v := 85) cx dX10_rises_9 bipush_85 rfl ?_
  refine sw_iload_n (pc' := 12) (i := 1) cx dX10_rises_11 rfl 1 rfl rfl ?_
  refine sw_iadd (pc' := 13) cx dX10_rises_12 rfl ?_
  refine sw_iconst (pc' := 14) (v := 1) cx dX10_rises_13 iconst_1 rfl ?_
  refine sw_isub (pc' := 15) cx dX10_rises_14 rfl ?_
  obtain ⟨r2, hr2, hf⟩ := bd_s hf
  refine sw_callVw (pc' := 18) (As := [.int (((85 : Int32) + a0) - (1 : Int32))]) (rest := [.int r1]) (w' := (mo_W h cI cJ row att fnd tape tmany sort begs tends word valu good bits size shts lent imag befo kept)) cx (k_X10_its l D h cI cJ cK cS row att fnd tape tmany sort begs tends word valu good bits size shts lent imag befo kept (((85 : Int32) + a0) - (1 : Int32)) r2 hr2) pk_yX10_its ml_RX10_43 ⟨rfl, rfl⟩ ⟨(Nat.le_of_ble_eq_true rfl), (Nat.le_of_ble_eq_true rfl)⟩ ⟨(Nat.le_of_ble_eq_true rfl), (Nat.le_of_ble_eq_true rfl)⟩ 0 rfl rfl rfl rfl (Nat.le_of_ble_eq_true rfl) rfl dX10_rises_15 rfl ?_
  refine sw_isub (pc' := 19) cx dX10_rises_18 rfl ?_
  obtain rfl := Option.some.inj hf
  exact sw_iret cx hr hQ dX10_rises_19
abbrev rm_X10_meets : Room := ({ frames := 2, cells := 0, slots := 0, locals := 42 } : Room)
set_option maxRecDepth 100000 in
set_option maxHeartbeats 4000000 in
theorem k_X10_meets (l : Launch) (D : sf_D) (h : Nat → Nat) (cI cJ cK cS : ClassId) (row : Nat → Int32) (att : Int32) (fnd : Nat → Int32) (tape : Nat → Int32) (tmany : Int32) (sort : Int32) (begs : Int32) (tends : Int32) (word : Int64) (valu : Int32) (good : Int32) (bits : Nat → Int32) (size : Nat → Int32) (shts : Nat → Int64) (lent : Nat → Int64) (imag : Nat → Int32) (befo : Nat → Int32) (kept : Int32) (a0 : Int32) (res : Int32) (hf : f_X10_meets row att a0 = some res) : sf_Ct l yX10_meets cX10_meets 2 (some .boolean) rm_X10_meets D (sf_ty cI cJ cK cS) [.ref (h 0), .int a0] (mo_W h cI cJ row att fnd tape tmany sort begs tends word valu good bits size shts lent imag befo kept) (some (.int res)) (mo_W h cI cJ row att fnd tape tmany sort begs tends word valu good bits size shts lent imag befo kept) := by
  refine sf_met (lv := [(0, .ref (h 0)), (1, .int a0)]) (by decide) (Nat.le_of_ble_eq_true rfl) rfl ?_
  intro p e s m args below meth c A Q cx hr hQ
  have cx : sf_Cx p m meth c cX10_meets 2 s args RX10 D (sf_ty cI cJ cK cS) A := cx
  unfold f_X10_meets at hf
  refine sw_aload_n (pc' := 1) (i := 0) cx dX10_meets_0 rfl 0 rfl rfl ?_
  refine sw_iload_n (pc' := 2) (i := 1) cx dX10_meets_1 rfl 1 rfl rfl ?_
  obtain ⟨r1, hr1, hf⟩ := bd_s hf
  refine sw_callVw (pc' := 5) (As := [.int a0]) (rest := []) (w' := (mo_W h cI cJ row att fnd tape tmany sort begs tends word valu good bits size shts lent imag befo kept)) cx (k_X10_rises l D h cI cJ cK cS row att fnd tape tmany sort begs tends word valu good bits size shts lent imag befo kept a0 r1 hr1) pk_yX10_rises ml_RX10_113 ⟨rfl, rfl⟩ ⟨(Nat.le_of_ble_eq_true rfl), (Nat.le_of_ble_eq_true rfl)⟩ ⟨(Nat.le_of_ble_eq_true rfl), (Nat.le_of_ble_eq_true rfl)⟩ 0 rfl rfl rfl rfl (Nat.le_of_ble_eq_true rfl) rfl dX10_meets_2 rfl ?_
  refine sw_iconst (pc' := 6) (v := 0) cx dX10_meets_5 iconst_0 rfl ?_
  refine sw_aload_n (pc' := 7) (i := 0) cx dX10_meets_6 rfl 0 rfl rfl ?_
  refine sw_iconst (pc' := 8) (v := 2) cx dX10_meets_7 iconst_2 rfl ?_
  obtain ⟨r2, hr2, hf⟩ := bd_s hf
  refine sw_callVw (pc' := 11) (As := [.int (2 : Int32)]) (rest := [.int (0 : Int32), .int r1]) (w' := (mo_W h cI cJ row att fnd tape tmany sort begs tends word valu good bits size shts lent imag befo kept)) cx (k_X10_its l D h cI cJ cK cS row att fnd tape tmany sort begs tends word valu good bits size shts lent imag befo kept (2 : Int32) r2 hr2) pk_yX10_its ml_RX10_43 ⟨rfl, rfl⟩ ⟨(Nat.le_of_ble_eq_true rfl), (Nat.le_of_ble_eq_true rfl)⟩ ⟨(Nat.le_of_ble_eq_true rfl), (Nat.le_of_ble_eq_true rfl)⟩ 0 rfl rfl rfl rfl (Nat.le_of_ble_eq_true rfl) rfl dX10_meets_8 rfl ?_
  refine sw_isub (pc' := 12) cx dX10_meets_11 rfl ?_
  refine sw_aload_n (pc' := 13) (i := 0) cx dX10_meets_12 rfl 0 rfl rfl ?_
  refine sw_iconst (pc' := 14) (v := 2) cx dX10_meets_13 iconst_2 rfl ?_
  obtain ⟨r3, hr3, hf⟩ := bd_s hf
  refine sw_callVw (pc' := 17) (As := [.int (2 : Int32)]) (rest := [.int ((0 : Int32) - r2), .int r1]) (w' := (mo_W h cI cJ row att fnd tape tmany sort begs tends word valu good bits size shts lent imag befo kept)) cx (k_X10_its l D h cI cJ cK cS row att fnd tape tmany sort begs tends word valu good bits size shts lent imag befo kept (2 : Int32) r3 hr3) pk_yX10_its ml_RX10_43 ⟨rfl, rfl⟩ ⟨(Nat.le_of_ble_eq_true rfl), (Nat.le_of_ble_eq_true rfl)⟩ ⟨(Nat.le_of_ble_eq_true rfl), (Nat.le_of_ble_eq_true rfl)⟩ 0 rfl rfl rfl rfl (Nat.le_of_ble_eq_true rfl) rfl dX10_meets_14 rfl ?_
  obtain ⟨r4, hr4, hf⟩ := bd_s hf
  refine sw_callS (pc' := 20) (As := [.int r1, .int ((0 : Int32) - r2), .int r3]) (rest := []) cx (k_X10_in l D h cI cJ cK cS r1 ((0 : Int32) - r2) r3 r4 hr4) pk_yX10_in ml_RX10_47 ⟨rfl, rfl⟩ ⟨(Nat.le_of_ble_eq_true rfl), (Nat.le_of_ble_eq_true rfl)⟩ ⟨(Nat.le_of_ble_eq_true rfl), (Nat.le_of_ble_eq_true rfl)⟩ [] rfl rfl rfl (wn := (mo_W h cI cJ row att fnd tape tmany sort begs tends word valu good bits size shts lent imag befo kept)) rfl rfl (Nat.le_of_ble_eq_true rfl) rfl dX10_meets_17 rfl ?_
  obtain ⟨h5, hf⟩ := gb_s hf
  obtain rfl := Option.some.inj hf
  exact sw_zret cx hr h5.1 hQ dX10_meets_20
abbrev rm_X10_reachNow : Room := ({ frames := 3, cells := 0, slots := 0, locals := 63 } : Room)
set_option maxRecDepth 100000 in
set_option maxHeartbeats 4000000 in
theorem k_X10_reachNow (l : Launch) (D : sf_D) (h : Nat → Nat) (cI cJ cK cS : ClassId) (row : Nat → Int32) (att : Int32) (fnd : Nat → Int32) (tape : Nat → Int32) (tmany : Int32) (sort : Int32) (begs : Int32) (tends : Int32) (word : Int64) (valu : Int32) (good : Int32) (bits : Nat → Int32) (size : Nat → Int32) (shts : Nat → Int64) (lent : Nat → Int64) (imag : Nat → Int32) (befo : Nat → Int32) (kept : Int32)  (res : Int32) (hf : f_X10_reachNow row att = some res) : sf_Ct l yX10_reachNow cX10_reachNow 2 (some .int) rm_X10_reachNow D (sf_ty cI cJ cK cS) [.ref (h 0)] (mo_W h cI cJ row att fnd tape tmany sort begs tends word valu good bits size shts lent imag befo kept) (some (.int res)) (mo_W h cI cJ row att fnd tape tmany sort begs tends word valu good bits size shts lent imag befo kept) := by
  refine sf_met (lv := [(0, .ref (h 0))]) (by decide) (Nat.le_of_ble_eq_true rfl) rfl ?_
  intro p e s m args below meth c A Q cx hr hQ
  have cx : sf_Cx p m meth c cX10_reachNow 2 s args RX10 D (sf_ty cI cJ cK cS) A := cx
  have B36 : ∀ (kk : Int32 → Option (Int32)), (∀ (x1 : Int32), kk x1 = some res → sf_W p l e rm_X10_reachNow s m args below meth c 0 0 Q 2 D A (mo_W h cI cJ row att fnd tape tmany sort begs tends word valu good bits size shts lent imag befo kept) [(0, .ref (h 0)), (1, .int x1)] 2 []) → ∀ (x1 : Int32), f_X10_reachNow_b36 row att kk x1 = some res → sf_W p l e rm_X10_reachNow s m args below meth c 0 0 Q 2 D A (mo_W h cI cJ row att fnd tape tmany sort begs tends word valu good bits size shts lent imag befo kept) [(0, .ref (h 0)), (1, .int x1)] 36 [] := by
    intro kk hkk x1 hf
    unfold f_X10_reachNow_b36 at hf
    refine sw_iinc (pc' := 39) (v := (x1 + (1 : Int32))) (lv' := [(1, .int (x1 + (1 : Int32))), (0, .ref (h 0))]) cx dX10_reachNow_36 1 rfl rfl (Nat.le_of_ble_eq_true rfl) rfl rfl ?_
    refine sw_goto (tgt := 2) cx dX10_reachNow_39 (by decide) ?_
    exact sw_lv [1, 0] rfl (hkk (x1 + (1 : Int32)) hf)
  have B30 : ∀ (kk : Int32 → Option (Int32)), (∀ (x1 : Int32), kk x1 = some res → sf_W p l e rm_X10_reachNow s m args below meth c 0 0 Q 2 D A (mo_W h cI cJ row att fnd tape tmany sort begs tends word valu good bits size shts lent imag befo kept) [(0, .ref (h 0)), (1, .int x1)] 2 []) → ∀ (x1 : Int32) (s0 : Int32), f_X10_reachNow_b30 row att kk x1 s0 = some res → sf_W p l e rm_X10_reachNow s m args below meth c 0 0 Q 2 D A (mo_W h cI cJ row att fnd tape tmany sort begs tends word valu good bits size shts lent imag befo kept) [(0, .ref (h 0)), (1, .int x1)] 30 [.int s0, .ref (h 0)] := by
    intro kk hkk x1 s0 hf
    unfold f_X10_reachNow_b30 at hf
    obtain ⟨r6, hr6, hf⟩ := bd_s hf
    refine sw_callVw (pc' := 33) (As := [.int s0]) (rest := []) (w' := (mo_W h cI cJ row att fnd tape tmany sort begs tends word valu good bits size shts lent imag befo kept)) cx (k_X10_meets l D h cI cJ cK cS row att fnd tape tmany sort begs tends word valu good bits size shts lent imag befo kept s0 r6 hr6) pk_yX10_meets ml_RX10_116 ⟨rfl, rfl⟩ ⟨(Nat.le_of_ble_eq_true rfl), (Nat.le_of_ble_eq_true rfl)⟩ ⟨(Nat.le_of_ble_eq_true rfl), (Nat.le_of_ble_eq_true rfl)⟩ 0 rfl rfl rfl rfl (Nat.le_of_ble_eq_true rfl) rfl dX10_reachNow_30 rfl ?_
    refine sw_if_eq (pc' := 36) (tgt := 42) cx dX10_reachNow_33 (by decide) rfl (fun c7 => ?_) (fun c7 => ?_)
    · replace hf := it_p c7 hf
      refine sw_iload_n (pc' := 43) (i := 1) cx dX10_reachNow_42 rfl 1 rfl rfl ?_
      obtain rfl := Option.some.inj hf
      exact sw_iret cx hr hQ dX10_reachNow_43
    · replace hf := it_n c7 hf
      exact sw_lv [0, 1] rfl (B36 kk hkk x1 hf)
  have B2 : ∀ (n : Nat), ∀ (x1 : Int32), f_X10_reachNow_b2 row att n x1 = some res → sf_W p l e rm_X10_reachNow s m args below meth c 0 0 Q 2 D A (mo_W h cI cJ row att fnd tape tmany sort begs tends word valu good bits size shts lent imag befo kept) [(0, .ref (h 0)), (1, .int x1)] 2 [] := by
    intro n
    induction n with
    | zero => intro x1 hf; rw [f_X10_reachNow_b2] at hf; cases hf
    | succ n ih =>
      intro x1 hf
      rw [f_X10_reachNow_b2] at hf
      refine sw_iload_n (pc' := 3) (i := 1) cx dX10_reachNow_2 rfl 1 rfl rfl ?_
      refine sw_bipush (pc' := 5) (v := 40) cx dX10_reachNow_3 bipush_40 rfl ?_
      refine sw_icmp_ge (pc' := 8) (tgt := 42) cx dX10_reachNow_5 (by decide) rfl (fun c1 => ?_) (fun c1 => ?_)
      · replace hf := it_p c1 hf
        refine sw_iload_n (pc' := 43) (i := 1) cx dX10_reachNow_42 rfl 1 rfl rfl ?_
        obtain rfl := Option.some.inj hf
        exact sw_iret cx hr hQ dX10_reachNow_43
      · replace hf := it_n c1 hf
        refine sw_aload_n (pc' := 9) (i := 0) cx dX10_reachNow_8 rfl 0 rfl rfl ?_
        refine sw_iload_n (pc' := 10) (i := 1) cx dX10_reachNow_9 rfl 1 rfl rfl ?_
        obtain ⟨r2, hr2, hf⟩ := bd_s hf
        refine sw_callVw (pc' := 13) (As := [.int x1]) (rest := []) (w' := (mo_W h cI cJ row att fnd tape tmany sort begs tends word valu good bits size shts lent imag befo kept)) cx (k_X10_isWhole l D h cI cJ cK cS row att fnd tape tmany sort begs tends word valu good bits size shts lent imag befo kept x1 r2 hr2) pk_yX10_isWhole ml_RX10_78 ⟨rfl, rfl⟩ ⟨(Nat.le_of_ble_eq_true rfl), (Nat.le_of_ble_eq_true rfl)⟩ ⟨(Nat.le_of_ble_eq_true rfl), (Nat.le_of_ble_eq_true rfl)⟩ 0 rfl rfl rfl rfl (Nat.le_of_ble_eq_true rfl) rfl dX10_reachNow_10 rfl ?_
        refine sw_if_eq (pc' := 16) (tgt := 42) cx dX10_reachNow_13 (by decide) rfl (fun c3 => ?_) (fun c3 => ?_)
        · replace hf := it_p c3 hf
          refine sw_iload_n (pc' := 43) (i := 1) cx dX10_reachNow_42 rfl 1 rfl rfl ?_
          obtain rfl := Option.some.inj hf
          exact sw_iret cx hr hQ dX10_reachNow_43
        · replace hf := it_n c3 hf
          refine sw_iload_n (pc' := 17) (i := 1) cx dX10_reachNow_16 rfl 1 rfl rfl ?_
          refine sw_if_eq (pc' := 20) (tgt := 36) cx dX10_reachNow_17 (by decide) rfl (fun c4 => ?_) (fun c4 => ?_)
          · replace hf := it_p c4 hf
            exact sw_lv [0, 1] rfl (B36 _ ih x1 hf)
          · replace hf := it_n c4 hf
            refine sw_aload_n (pc' := 21) (i := 0) cx dX10_reachNow_20 rfl 0 rfl rfl ?_
            refine sw_iload_n (pc' := 22) (i := 1) cx dX10_reachNow_21 rfl 1 rfl rfl ?_
            refine sw_if_ne (pc' := 25) (tgt := 29) cx dX10_reachNow_22 (by decide) rfl (fun c5 => ?_) (fun c5 => ?_)
            · replace hf := it_n c5 hf
              refine sw_iload_n (pc' := 30) (i := 1) cx dX10_reachNow_29 rfl 1 rfl rfl ?_
              exact sw_lv [0, 1] rfl (B30 _ ih x1 x1 hf)
            · replace hf := it_p c5 hf
              refine sw_iconst (pc' := 26) (v := 1) cx dX10_reachNow_25 iconst_1 rfl ?_
              refine sw_goto (tgt := 30) cx dX10_reachNow_26 (by decide) ?_
              exact sw_lv [0, 1] rfl (B30 _ ih x1 (1 : Int32) hf)
  unfold f_X10_reachNow at hf
  refine sw_iconst (pc' := 1) (v := 0) cx dX10_reachNow_0 iconst_0 rfl ?_
  refine sw_istore_n (pc' := 2) (i := 1) (lv' := [(1, .int (0 : Int32)), (0, .ref (h 0))]) cx dX10_reachNow_1 rfl (Nat.le_of_ble_eq_true rfl) rfl rfl ?_
  exact sw_lv [1, 0] rfl (B2 1000 (0 : Int32) hf)
abbrev rm_X10_reach : Room := ({ frames := 4, cells := 0, slots := 0, locals := 84 } : Room)
set_option maxRecDepth 100000 in
set_option maxHeartbeats 4000000 in
theorem k_X10_reach (l : Launch) (D : sf_D) (h : Nat → Nat) (cI cJ cK cS : ClassId) (row : Nat → Int32) (att : Int32) (fnd : Nat → Int32) (tape : Nat → Int32) (tmany : Int32) (sort : Int32) (begs : Int32) (tends : Int32) (word : Int64) (valu : Int32) (good : Int32) (bits : Nat → Int32) (size : Nat → Int32) (shts : Nat → Int64) (lent : Nat → Int64) (imag : Nat → Int32) (befo : Nat → Int32) (kept : Int32)  (res : Int32) (hf : f_X10_reach row att = some res) : sf_Ct l yX10_reach cX10_reach 1 (some .int) rm_X10_reach D (sf_ty cI cJ cK cS) [.ref (h 0)] (mo_W h cI cJ row att fnd tape tmany sort begs tends word valu good bits size shts lent imag befo kept) (some (.int res)) (mo_W h cI cJ row att fnd tape tmany sort begs tends word valu good bits size shts lent imag befo kept) := by
  refine sf_met (lv := [(0, .ref (h 0))]) (by decide) (Nat.le_of_ble_eq_true rfl) rfl ?_
  intro p e s m args below meth c A Q cx hr hQ
  have cx : sf_Cx p m meth c cX10_reach 1 s args RX10 D (sf_ty cI cJ cK cS) A := cx
  unfold f_X10_reach at hf
  refine sw_aload_n (pc' := 1) (i := 0) cx dX10_reach_0 rfl 0 rfl rfl ?_
  obtain ⟨r1, hr1, hf⟩ := bd_s hf
  refine sw_callVw (pc' := 4) (As := []) (rest := []) (w' := (mo_W h cI cJ row att fnd tape tmany sort begs tends word valu good bits size shts lent imag befo kept)) cx (k_X10_reachNow l D h cI cJ cK cS row att fnd tape tmany sort begs tends word valu good bits size shts lent imag befo kept  r1 hr1) pk_yX10_reachNow ml_RX10_119 ⟨rfl, rfl⟩ ⟨(Nat.le_of_ble_eq_true rfl), (Nat.le_of_ble_eq_true rfl)⟩ ⟨(Nat.le_of_ble_eq_true rfl), (Nat.le_of_ble_eq_true rfl)⟩ 0 rfl rfl rfl rfl (Nat.le_of_ble_eq_true rfl) rfl dX10_reach_1 rfl ?_
  obtain rfl := Option.some.inj hf
  exact sw_iret cx hr hQ dX10_reach_4
abbrev rm_X10_areBoth : Room := ({ frames := 2, cells := 0, slots := 0, locals := 42 } : Room)
set_option maxRecDepth 100000 in
set_option maxHeartbeats 4000000 in
theorem k_X10_areBoth (l : Launch) (D : sf_D) (h : Nat → Nat) (cI cJ cK cS : ClassId) (row : Nat → Int32) (att : Int32) (fnd : Nat → Int32) (tape : Nat → Int32) (tmany : Int32) (sort : Int32) (begs : Int32) (tends : Int32) (word : Int64) (valu : Int32) (good : Int32) (bits : Nat → Int32) (size : Nat → Int32) (shts : Nat → Int64) (lent : Nat → Int64) (imag : Nat → Int32) (befo : Nat → Int32) (kept : Int32) (a0 : Int32) (res : Int32) (hf : f_X10_areBoth row att a0 = some res) : sf_Ct l yX10_areBoth cX10_areBoth 2 (some .boolean) rm_X10_areBoth D (sf_ty cI cJ cK cS) [.ref (h 0), .int a0] (mo_W h cI cJ row att fnd tape tmany sort begs tends word valu good bits size shts lent imag befo kept) (some (.int res)) (mo_W h cI cJ row att fnd tape tmany sort begs tends word valu good bits size shts lent imag befo kept) := by
  refine sf_met (lv := [(0, .ref (h 0)), (1, .int a0)]) (by decide) (Nat.le_of_ble_eq_true rfl) rfl ?_
  intro p e s m args below meth c A Q cx hr hQ
  have cx : sf_Cx p m meth c cX10_areBoth 2 s args RX10 D (sf_ty cI cJ cK cS) A := cx
  unfold f_X10_areBoth at hf
  refine sw_aload_n (pc' := 1) (i := 0) cx dX10_areBoth_0 rfl 0 rfl rfl ?_
  refine sw_iload_n (pc' := 2) (i := 1) cx dX10_areBoth_1 rfl 1 rfl rfl ?_
  obtain ⟨r1, hr1, hf⟩ := bd_s hf
  refine sw_callVw (pc' := 5) (As := [.int a0]) (rest := []) (w' := (mo_W h cI cJ row att fnd tape tmany sort begs tends word valu good bits size shts lent imag befo kept)) cx (k_X10_isWhole l D h cI cJ cK cS row att fnd tape tmany sort begs tends word valu good bits size shts lent imag befo kept a0 r1 hr1) pk_yX10_isWhole ml_RX10_78 ⟨rfl, rfl⟩ ⟨(Nat.le_of_ble_eq_true rfl), (Nat.le_of_ble_eq_true rfl)⟩ ⟨(Nat.le_of_ble_eq_true rfl), (Nat.le_of_ble_eq_true rfl)⟩ 0 rfl rfl rfl rfl (Nat.le_of_ble_eq_true rfl) rfl dX10_areBoth_2 rfl ?_
  refine sw_if_eq (pc' := 8) (tgt := 22) cx dX10_areBoth_5 (by decide) rfl (fun c2 => ?_) (fun c2 => ?_)
  · replace hf := it_p c2 hf
    refine sw_iconst (pc' := 23) (v := 0) cx dX10_areBoth_22 iconst_0 rfl ?_
    obtain rfl := Option.some.inj hf
    exact sw_zret cx hr (by decide +kernel) hQ dX10_areBoth_23
  · replace hf := it_n c2 hf
    refine sw_aload_n (pc' := 9) (i := 0) cx dX10_areBoth_8 rfl 0 rfl rfl ?_
    refine sw_iload_n (pc' := 10) (i := 1) cx dX10_areBoth_9 rfl 1 rfl rfl ?_
    refine sw_iconst (pc' := 11) (v := 1) cx dX10_areBoth_10 iconst_1 rfl ?_
    refine sw_isub (pc' := 12) cx dX10_areBoth_11 rfl ?_
    obtain ⟨r3, hr3, hf⟩ := bd_s hf
    refine sw_callVw (pc' := 15) (As := [.int (a0 - (1 : Int32))]) (rest := []) (w' := (mo_W h cI cJ row att fnd tape tmany sort begs tends word valu good bits size shts lent imag befo kept)) cx (k_X10_isWhole l D h cI cJ cK cS row att fnd tape tmany sort begs tends word valu good bits size shts lent imag befo kept (a0 - (1 : Int32)) r3 hr3) pk_yX10_isWhole ml_RX10_78 ⟨rfl, rfl⟩ ⟨(Nat.le_of_ble_eq_true rfl), (Nat.le_of_ble_eq_true rfl)⟩ ⟨(Nat.le_of_ble_eq_true rfl), (Nat.le_of_ble_eq_true rfl)⟩ 0 rfl rfl rfl rfl (Nat.le_of_ble_eq_true rfl) rfl dX10_areBoth_12 rfl ?_
    refine sw_if_eq (pc' := 18) (tgt := 22) cx dX10_areBoth_15 (by decide) rfl (fun c4 => ?_) (fun c4 => ?_)
    · replace hf := it_p c4 hf
      refine sw_iconst (pc' := 23) (v := 0) cx dX10_areBoth_22 iconst_0 rfl ?_
      obtain rfl := Option.some.inj hf
      exact sw_zret cx hr (by decide +kernel) hQ dX10_areBoth_23
    · replace hf := it_n c4 hf
      refine sw_iconst (pc' := 19) (v := 1) cx dX10_areBoth_18 iconst_1 rfl ?_
      refine sw_goto (tgt := 23) cx dX10_areBoth_19 (by decide) ?_
      obtain rfl := Option.some.inj hf
      exact sw_zret cx hr (by decide +kernel) hQ dX10_areBoth_23
abbrev rm_X10_faults : Room := ({ frames := 3, cells := 0, slots := 0, locals := 63 } : Room)
set_option maxRecDepth 100000 in
set_option maxHeartbeats 4000000 in
theorem k_X10_faults (l : Launch) (D : sf_D) (h : Nat → Nat) (cI cJ cK cS : ClassId) (row : Nat → Int32) (att : Int32) (fnd : Nat → Int32) (tape : Nat → Int32) (tmany : Int32) (sort : Int32) (begs : Int32) (tends : Int32) (word : Int64) (valu : Int32) (good : Int32) (bits : Nat → Int32) (size : Nat → Int32) (shts : Nat → Int64) (lent : Nat → Int64) (imag : Nat → Int32) (befo : Nat → Int32) (kept : Int32)  (res : Int64) (hf : f_X10_faults row att = some res) : sf_Ct l yX10_faults cX10_faults 4 (some .long) rm_X10_faults D (sf_ty cI cJ cK cS) [.ref (h 0)] (mo_W h cI cJ row att fnd tape tmany sort begs tends word valu good bits size shts lent imag befo kept) (some (.long res)) (mo_W h cI cJ row att fnd tape tmany sort begs tends word valu good bits size shts lent imag befo kept) := by
  refine sf_met (lv := [(0, .ref (h 0))]) (by decide) (Nat.le_of_ble_eq_true rfl) rfl ?_
  intro p e s m args below meth c A Q cx hr hQ
  have cx : sf_Cx p m meth c cX10_faults 4 s args RX10 D (sf_ty cI cJ cK cS) A := cx
  have B34 : ∀ (kk : Int64 → Int32 → Option (Int64)), (∀ (x1 : Int64) (x3 : Int32), kk x1 x3 = some res → sf_W p l e rm_X10_faults s m args below meth c 0 0 Q 4 D A (mo_W h cI cJ row att fnd tape tmany sort begs tends word valu good bits size shts lent imag befo kept) [(0, .ref (h 0)), (1, .long x1), (3, .int x3)] 4 []) → ∀ (x3 : Int32) (s0 : Int64) (s1 : Int64), f_X10_faults_b34 row att kk x3 s0 s1 = some res → sf_W p l e rm_X10_faults s m args below meth c 0 0 Q 4 D A (mo_W h cI cJ row att fnd tape tmany sort begs tends word valu good bits size shts lent imag befo kept) [(0, .ref (h 0)), (3, .int x3)] 34 [.long s0, .long s1] := by
    intro kk hkk x3 s0 s1 hf
    unfold f_X10_faults_b34 at hf
    refine sw_lor (pc' := 35) cx dX10_faults_34 rfl ?_
    refine sw_lstore_n (pc' := 36) (i := 1) (lv' := [(1, .long (s1 ||| s0)), (0, .ref (h 0)), (3, .int x3)]) cx dX10_faults_35 rfl (Nat.le_of_ble_eq_true rfl) rfl rfl ?_
    refine sw_iinc (pc' := 39) (v := (x3 + (1 : Int32))) (lv' := [(3, .int (x3 + (1 : Int32))), (1, .long (s1 ||| s0)), (0, .ref (h 0))]) cx dX10_faults_36 2 rfl rfl (Nat.le_of_ble_eq_true rfl) rfl rfl ?_
    refine sw_goto (tgt := 4) cx dX10_faults_39 (by decide) ?_
    exact sw_lv [2, 1, 0] rfl (hkk (s1 ||| s0) (x3 + (1 : Int32)) hf)
  have B33 : ∀ (kk : Int64 → Int32 → Option (Int64)), (∀ (x1 : Int64) (x3 : Int32), kk x1 x3 = some res → sf_W p l e rm_X10_faults s m args below meth c 0 0 Q 4 D A (mo_W h cI cJ row att fnd tape tmany sort begs tends word valu good bits size shts lent imag befo kept) [(0, .ref (h 0)), (1, .long x1), (3, .int x3)] 4 []) → ∀ (x3 : Int32) (s0 : Int64), f_X10_faults_b33 row att kk x3 s0 = some res → sf_W p l e rm_X10_faults s m args below meth c 0 0 Q 4 D A (mo_W h cI cJ row att fnd tape tmany sort begs tends word valu good bits size shts lent imag befo kept) [(0, .ref (h 0)), (3, .int x3)] 33 [.long s0] := by
    intro kk hkk x3 s0 hf
    unfold f_X10_faults_b33 at hf
    refine sw_lconst (pc' := 34) (v := 0) cx dX10_faults_33 rfl rfl ?_
    exact sw_lv [0, 1] rfl (B34 kk hkk x3 (0 : Int64) s0 hf)
  have B4 : ∀ (n : Nat), ∀ (x1 : Int64) (x3 : Int32), f_X10_faults_b4 row att n x1 x3 = some res → sf_W p l e rm_X10_faults s m args below meth c 0 0 Q 4 D A (mo_W h cI cJ row att fnd tape tmany sort begs tends word valu good bits size shts lent imag befo kept) [(0, .ref (h 0)), (1, .long x1), (3, .int x3)] 4 [] := by
    intro n
    induction n with
    | zero => intro x1 x3 hf; rw [f_X10_faults_b4] at hf; cases hf
    | succ n ih =>
      intro x1 x3 hf
      rw [f_X10_faults_b4] at hf
      refine sw_iload_n (pc' := 5) (i := 3) cx dX10_faults_4 rfl 2 rfl rfl ?_
      refine sw_bipush (pc' := 7) (v := 40) cx dX10_faults_5 bipush_40 rfl ?_
      refine sw_icmp_ge (pc' := 10) (tgt := 42) cx dX10_faults_7 (by decide) rfl (fun c1 => ?_) (fun c1 => ?_)
      · replace hf := it_p c1 hf
        refine sw_lload_n (pc' := 43) (i := 1) cx dX10_faults_42 rfl 1 rfl rfl ?_
        obtain rfl := Option.some.inj hf
        exact sw_lret cx hr hQ dX10_faults_43
      · replace hf := it_n c1 hf
        refine sw_lload_n (pc' := 11) (i := 1) cx dX10_faults_10 rfl 1 rfl rfl ?_
        refine sw_aload_n (pc' := 12) (i := 0) cx dX10_faults_11 rfl 0 rfl rfl ?_
        refine sw_iload_n (pc' := 13) (i := 3) cx dX10_faults_12 rfl 2 rfl rfl ?_
        obtain ⟨r2, hr2, hf⟩ := bd_s hf
        refine sw_callVw (pc' := 16) (As := [.int x3]) (rest := [.long x1]) (w' := (mo_W h cI cJ row att fnd tape tmany sort begs tends word valu good bits size shts lent imag befo kept)) cx (k_X10_areBoth l D h cI cJ cK cS row att fnd tape tmany sort begs tends word valu good bits size shts lent imag befo kept x3 r2 hr2) pk_yX10_areBoth ml_RX10_122 ⟨rfl, rfl⟩ ⟨(Nat.le_of_ble_eq_true rfl), (Nat.le_of_ble_eq_true rfl)⟩ ⟨(Nat.le_of_ble_eq_true rfl), (Nat.le_of_ble_eq_true rfl)⟩ 0 rfl rfl rfl rfl (Nat.le_of_ble_eq_true rfl) rfl dX10_faults_13 rfl ?_
        refine sw_if_eq (pc' := 19) (tgt := 33) cx dX10_faults_16 (by decide) rfl (fun c3 => ?_) (fun c3 => ?_)
        · replace hf := it_p c3 hf
          exact sw_lv [0, 2] rfl (B33 _ ih x3 x1 hf)
        · replace hf := it_n c3 hf
          refine sw_aload_n (pc' := 20) (i := 0) cx dX10_faults_19 rfl 0 rfl rfl ?_
          refine sw_iload_n (pc' := 21) (i := 3) cx dX10_faults_20 rfl 2 rfl rfl ?_
          obtain ⟨r4, hr4, hf⟩ := bd_s hf
          refine sw_callVw (pc' := 24) (As := [.int x3]) (rest := [.long x1]) (w' := (mo_W h cI cJ row att fnd tape tmany sort begs tends word valu good bits size shts lent imag befo kept)) cx (k_X10_meets l D h cI cJ cK cS row att fnd tape tmany sort begs tends word valu good bits size shts lent imag befo kept x3 r4 hr4) pk_yX10_meets ml_RX10_116 ⟨rfl, rfl⟩ ⟨(Nat.le_of_ble_eq_true rfl), (Nat.le_of_ble_eq_true rfl)⟩ ⟨(Nat.le_of_ble_eq_true rfl), (Nat.le_of_ble_eq_true rfl)⟩ 0 rfl rfl rfl rfl (Nat.le_of_ble_eq_true rfl) rfl dX10_faults_21 rfl ?_
          refine sw_if_ne (pc' := 27) (tgt := 33) cx dX10_faults_24 (by decide) rfl (fun c5 => ?_) (fun c5 => ?_)
          · replace hf := it_n c5 hf
            exact sw_lv [0, 2] rfl (B33 _ ih x3 x1 hf)
          · replace hf := it_p c5 hf
            refine sw_lconst (pc' := 28) (v := 1) cx dX10_faults_27 rfl rfl ?_
            refine sw_iload_n (pc' := 29) (i := 3) cx dX10_faults_28 rfl 2 rfl rfl ?_
            refine sw_lshl (pc' := 30) cx dX10_faults_29 rfl ?_
            refine sw_goto (tgt := 34) cx dX10_faults_30 (by decide) ?_
            exact sw_lv [0, 2] rfl (B34 _ ih x3 ((1 : Int64) <<< ((x3).toInt64 &&& 63)) x1 hf)
  unfold f_X10_faults at hf
  refine sw_lconst (pc' := 1) (v := 0) cx dX10_faults_0 rfl rfl ?_
  refine sw_lstore_n (pc' := 2) (i := 1) (lv' := [(1, .long (0 : Int64)), (0, .ref (h 0))]) cx dX10_faults_1 rfl (Nat.le_of_ble_eq_true rfl) rfl rfl ?_
  refine sw_iconst (pc' := 3) (v := 1) cx dX10_faults_2 iconst_1 rfl ?_
  refine sw_istore_n (pc' := 4) (i := 3) (lv' := [(3, .int (1 : Int32)), (1, .long (0 : Int64)), (0, .ref (h 0))]) cx dX10_faults_3 rfl (Nat.le_of_ble_eq_true rfl) rfl rfl ?_
  exact sw_lv [2, 1, 0] rfl (B4 1000 (0 : Int64) (1 : Int32) hf)
