abbrev rm_X8_append : Room := ({ frames := 0, cells := 0, slots := 0, locals := 0 } : Room)
set_option maxRecDepth 100000 in
set_option maxHeartbeats 4000000 in
theorem k_X8_append (l : Launch) (D : sf_D) (a b kA : Nat) (cI cJ cK cS : ClassId) (tby : Nat → Int32) (tlen : Int32) (ttok : Int32) (tsta : Int32) (tbeh : Int32) (tnum : Int32) (ttak : Int32) (a0 : Int32) (res : (Nat → Int32) × Int32) (hf : f_X8_append tby tlen a0 = some res) : sf_Ct l yX8_append cX8_append 2 none rm_X8_append D (sf_ty cI cJ cK cS) [.ref a, .int a0] (tp_W a b kA cI tby tlen ttok tsta tbeh tnum ttak) none (tp_W a b kA cI res.1 res.2 ttok tsta tbeh tnum ttak) := by
  refine sf_met (lv := [(0, .ref a), (1, .int a0)]) (by decide) (Nat.le_of_ble_eq_true rfl) rfl ?_
  intro p e s m args below meth c A Q cx hr hQ
  have cx : sf_Cx p m meth c cX8_append 2 s args RX8 D (sf_ty cI cJ cK cS) A := cx
  unfold f_X8_append at hf
  refine sw_aload_n (pc' := 1) (i := 0) cx dX8_append_0 rfl 0 rfl rfl ?_
  refine sw_get (pc' := 4) cx in_X8 0 rfl rfl 2 (Nat.le_of_ble_eq_true rfl) fl_RX8_19 rfl dX8_append_1 rfl ?_
  refine sw_bipush (pc' := 6) (v := 120) cx dX8_append_4 bipush_120 rfl ?_
  refine sw_icmp_ge (pc' := 9) (tgt := 29) cx dX8_append_6 (by decide) rfl (fun c1 => ?_) (fun c1 => ?_)
  · replace hf := it_p c1 hf
    obtain rfl := Option.some.inj hf
    exact sw_vret cx hr hQ dX8_append_29
  · replace hf := it_n c1 hf
    refine sw_aload_n (pc' := 10) (i := 0) cx dX8_append_9 rfl 0 rfl rfl ?_
    refine sw_get (pc' := 13) cx in_X8 0 rfl rfl 1 (Nat.le_of_ble_eq_true rfl) fl_RX8_9 rfl dX8_append_10 rfl ?_
    refine sw_aload_n (pc' := 14) (i := 0) cx dX8_append_13 rfl 0 rfl rfl ?_
    refine sw_get (pc' := 17) cx in_X8 0 rfl rfl 2 (Nat.le_of_ble_eq_true rfl) fl_RX8_19 rfl dX8_append_14 rfl ?_
    refine sw_iload_n (pc' := 18) (i := 1) cx dX8_append_17 rfl 1 rfl rfl ?_
    obtain ⟨h2, hf⟩ := gx_s hf
    refine sw_iast (pc' := 19) (ws' := (tp_W a b kA cI (upd tby (tlen).toNatClampNeg a0) tlen ttok tsta tbeh tnum ttak)) cx 1 0 rfl rfl h2 dX8_append_18 rfl rfl ?_
    refine sw_aload_n (pc' := 20) (i := 0) cx dX8_append_19 rfl 0 rfl rfl ?_
    refine sw_dup (pc' := 21) cx dX8_append_20 rfl rfl ?_
    refine sw_get (pc' := 24) cx in_X8 0 rfl rfl 2 (Nat.le_of_ble_eq_true rfl) fl_RX8_19 rfl dX8_append_21 rfl ?_
    refine sw_iconst (pc' := 25) (v := 1) cx dX8_append_24 iconst_1 rfl ?_
    refine sw_iadd (pc' := 26) cx dX8_append_25 rfl ?_
    refine sw_put (pc' := 29) (ws' := (tp_W a b kA cI (upd tby (tlen).toNatClampNeg a0) (tlen + (1 : Int32)) ttok tsta tbeh tnum ttak)) cx in_X8 tyX8 tyX8_ok nmX8 0 rfl rfl 2 (Nat.le_of_ble_eq_true rfl) fl_RX8_19 rfl rfl rfl (Nat.le_of_ble_eq_true rfl) dX8_append_26 rfl rfl ?_
    obtain rfl := Option.some.inj hf
    exact sw_vret cx hr hQ dX8_append_29
abbrev rm_X8_advance : Room := ({ frames := 1, cells := 0, slots := 0, locals := 21 } : Room)
set_option maxRecDepth 100000 in
set_option maxHeartbeats 4000000 in
theorem k_X8_advance (l : Launch) (D : sf_D) (a b kA : Nat) (cI cJ cK cS : ClassId) (tby : Nat → Int32) (tlen : Int32) (ttok : Int32) (tsta : Int32) (tbeh : Int32) (tnum : Int32) (ttak : Int32)  (res : Int32 × Int32 × Int32 × Int32) (hf : f_X8_advance tby tlen ttok tsta tbeh tnum = some res) : sf_Ct l yX8_advance cX8_advance 2 none rm_X8_advance D (sf_ty cI cJ cK cS) [.ref a] (tp_W a b kA cI tby tlen ttok tsta tbeh tnum ttak) none (tp_W a b kA cI tby tlen res.1 res.2.1 res.2.2.1 res.2.2.2 ttak) := by
  refine sf_met (lv := [(0, .ref a)]) (by decide) (Nat.le_of_ble_eq_true rfl) rfl ?_
  intro p e s m args below meth c A Q cx hr hQ
  have cx : sf_Cx p m meth c cX8_advance 2 s args RX8 D (sf_ty cI cJ cK cS) A := cx
  have B95 : ∀ (n : Nat), ∀ (ttok : Int32) (tsta : Int32) (tbeh : Int32) (tnum : Int32), f_X8_advance_b95 tby tlen n ttok tsta tbeh tnum = some res → sf_W p l e rm_X8_advance s m args below meth c 0 0 Q 2 D A (tp_W a b kA cI tby tlen ttok tsta tbeh tnum ttak) [(0, .ref a)] 95 [] := by
    intro n
    induction n with
    | zero => intro ttok tsta tbeh tnum hf; rw [f_X8_advance_b95] at hf; cases hf
    | succ n ih =>
      intro ttok tsta tbeh tnum hf
      rw [f_X8_advance_b95] at hf
      refine sw_aload_n (pc' := 96) (i := 0) cx dX8_advance_95 rfl 0 rfl rfl ?_
      refine sw_get (pc' := 99) cx in_X8 0 rfl rfl 5 (Nat.le_of_ble_eq_true rfl) fl_RX8_23 rfl dX8_advance_96 rfl ?_
      refine sw_aload_n (pc' := 100) (i := 0) cx dX8_advance_99 rfl 0 rfl rfl ?_
      refine sw_get (pc' := 103) cx in_X8 0 rfl rfl 2 (Nat.le_of_ble_eq_true rfl) fl_RX8_19 rfl dX8_advance_100 rfl ?_
      refine sw_icmp_ge (pc' := 106) (tgt := 238) cx dX8_advance_103 (by decide) rfl (fun c16 => ?_) (fun c16 => ?_)
      · replace hf := it_p c16 hf
        obtain rfl := Option.some.inj hf
        exact sw_vret cx hr hQ dX8_advance_238
      · replace hf := it_n c16 hf
        refine sw_aload_n (pc' := 107) (i := 0) cx dX8_advance_106 rfl 0 rfl rfl ?_
        refine sw_get (pc' := 110) cx in_X8 0 rfl rfl 1 (Nat.le_of_ble_eq_true rfl) fl_RX8_9 rfl dX8_advance_107 rfl ?_
        refine sw_aload_n (pc' := 111) (i := 0) cx dX8_advance_110 rfl 0 rfl rfl ?_
        refine sw_get (pc' := 114) cx in_X8 0 rfl rfl 5 (Nat.le_of_ble_eq_true rfl) fl_RX8_23 rfl dX8_advance_111 rfl ?_
        obtain ⟨h17, hf⟩ := gx_s hf
        refine sw_iald (pc' := 115) cx 1 0 rfl rfl h17 dX8_advance_114 rfl ?_
        obtain ⟨r18, hr18, hf⟩ := bd_s hf
        refine sw_callS (pc' := 118) (As := [.int (tby (tbeh).toNatClampNeg)]) (rest := []) cx (k_X8_isLetter l D cI cJ cK cS (tby (tbeh).toNatClampNeg) r18 hr18) pk_yX8_isLetter ml_RX8_112 ⟨rfl, rfl⟩ ⟨(Nat.le_of_ble_eq_true rfl), (Nat.le_of_ble_eq_true rfl)⟩ ⟨(Nat.le_of_ble_eq_true rfl), (Nat.le_of_ble_eq_true rfl)⟩ [] rfl rfl rfl (wn := (tp_W a b kA cI tby tlen ttok tsta tbeh tnum ttak)) rfl rfl (Nat.le_of_ble_eq_true rfl) rfl dX8_advance_115 rfl ?_
        refine sw_if_eq (pc' := 121) (tgt := 238) cx dX8_advance_118 (by decide) rfl (fun c19 => ?_) (fun c19 => ?_)
        · replace hf := it_p c19 hf
          obtain rfl := Option.some.inj hf
          exact sw_vret cx hr hQ dX8_advance_238
        · replace hf := it_n c19 hf
          refine sw_aload_n (pc' := 122) (i := 0) cx dX8_advance_121 rfl 0 rfl rfl ?_
          refine sw_dup (pc' := 123) cx dX8_advance_122 rfl rfl ?_
          refine sw_get (pc' := 126) cx in_X8 0 rfl rfl 5 (Nat.le_of_ble_eq_true rfl) fl_RX8_23 rfl dX8_advance_123 rfl ?_
          refine sw_iconst (pc' := 127) (v := 1) cx dX8_advance_126 iconst_1 rfl ?_
          refine sw_iadd (pc' := 128) cx dX8_advance_127 rfl ?_
          refine sw_put (pc' := 131) (ws' := (tp_W a b kA cI tby tlen ttok tsta (tbeh + (1 : Int32)) tnum ttak)) cx in_X8 tyX8 tyX8_ok nmX8 0 rfl rfl 5 (Nat.le_of_ble_eq_true rfl) fl_RX8_23 rfl rfl rfl (Nat.le_of_ble_eq_true rfl) dX8_advance_128 rfl rfl ?_
          refine sw_goto (tgt := 95) cx dX8_advance_131 (by decide) ?_
          exact sw_lv [0] rfl (ih ttok tsta (tbeh + (1 : Int32)) tnum hf)
  have B154 : ∀ (n : Nat), ∀ (ttok : Int32) (tsta : Int32) (tbeh : Int32) (tnum : Int32), f_X8_advance_b154 tby tlen n ttok tsta tbeh tnum = some res → sf_W p l e rm_X8_advance s m args below meth c 0 0 Q 2 D A (tp_W a b kA cI tby tlen ttok tsta tbeh tnum ttak) [(0, .ref a)] 154 [] := by
    intro n
    induction n with
    | zero => intro ttok tsta tbeh tnum hf; rw [f_X8_advance_b154] at hf; cases hf
    | succ n ih =>
      intro ttok tsta tbeh tnum hf
      rw [f_X8_advance_b154] at hf
      refine sw_aload_n (pc' := 155) (i := 0) cx dX8_advance_154 rfl 0 rfl rfl ?_
      refine sw_get (pc' := 158) cx in_X8 0 rfl rfl 5 (Nat.le_of_ble_eq_true rfl) fl_RX8_23 rfl dX8_advance_155 rfl ?_
      refine sw_aload_n (pc' := 159) (i := 0) cx dX8_advance_158 rfl 0 rfl rfl ?_
      refine sw_get (pc' := 162) cx in_X8 0 rfl rfl 2 (Nat.le_of_ble_eq_true rfl) fl_RX8_19 rfl dX8_advance_159 rfl ?_
      refine sw_icmp_ge (pc' := 165) (tgt := 238) cx dX8_advance_162 (by decide) rfl (fun c11 => ?_) (fun c11 => ?_)
      · replace hf := it_p c11 hf
        obtain rfl := Option.some.inj hf
        exact sw_vret cx hr hQ dX8_advance_238
      · replace hf := it_n c11 hf
        refine sw_aload_n (pc' := 166) (i := 0) cx dX8_advance_165 rfl 0 rfl rfl ?_
        refine sw_get (pc' := 169) cx in_X8 0 rfl rfl 1 (Nat.le_of_ble_eq_true rfl) fl_RX8_9 rfl dX8_advance_166 rfl ?_
        refine sw_aload_n (pc' := 170) (i := 0) cx dX8_advance_169 rfl 0 rfl rfl ?_
        refine sw_get (pc' := 173) cx in_X8 0 rfl rfl 5 (Nat.le_of_ble_eq_true rfl) fl_RX8_23 rfl dX8_advance_170 rfl ?_
        obtain ⟨h12, hf⟩ := gx_s hf
        refine sw_iald (pc' := 174) cx 1 0 rfl rfl h12 dX8_advance_173 rfl ?_
        obtain ⟨r13, hr13, hf⟩ := bd_s hf
        refine sw_callS (pc' := 177) (As := [.int (tby (tbeh).toNatClampNeg)]) (rest := []) cx (k_X8_isDigit l D cI cJ cK cS (tby (tbeh).toNatClampNeg) r13 hr13) pk_yX8_isDigit ml_RX8_116 ⟨rfl, rfl⟩ ⟨(Nat.le_of_ble_eq_true rfl), (Nat.le_of_ble_eq_true rfl)⟩ ⟨(Nat.le_of_ble_eq_true rfl), (Nat.le_of_ble_eq_true rfl)⟩ [] rfl rfl rfl (wn := (tp_W a b kA cI tby tlen ttok tsta tbeh tnum ttak)) rfl rfl (Nat.le_of_ble_eq_true rfl) rfl dX8_advance_174 rfl ?_
        refine sw_if_eq (pc' := 180) (tgt := 238) cx dX8_advance_177 (by decide) rfl (fun c14 => ?_) (fun c14 => ?_)
        · replace hf := it_p c14 hf
          obtain rfl := Option.some.inj hf
          exact sw_vret cx hr hQ dX8_advance_238
        · replace hf := it_n c14 hf
          refine sw_aload_n (pc' := 181) (i := 0) cx dX8_advance_180 rfl 0 rfl rfl ?_
          refine sw_sipush (pc' := 184) (v := 10000) cx dX8_advance_181 sipush_10000 rfl ?_
          refine sw_aload_n (pc' := 185) (i := 0) cx dX8_advance_184 rfl 0 rfl rfl ?_
          refine sw_get (pc' := 188) cx in_X8 0 rfl rfl 6 (Nat.le_of_ble_eq_true rfl) fl_RX8_96 rfl dX8_advance_185 rfl ?_
          refine sw_bipush (pc' := 190) (v := 10) cx dX8_advance_188 bipush_10 rfl ?_
          refine sw_imul (pc' := 191) cx dX8_advance_190 rfl ?_
          refine sw_aload_n (pc' := 192) (i := 0) cx dX8_advance_191 rfl 0 rfl rfl ?_
          refine sw_get (pc' := 195) cx in_X8 0 rfl rfl 1 (Nat.le_of_ble_eq_true rfl) fl_RX8_9 rfl dX8_advance_192 rfl ?_
          refine sw_aload_n (pc' := 196) (i := 0) cx dX8_advance_195 rfl 0 rfl rfl ?_
          refine sw_get (pc' := 199) cx in_X8 0 rfl rfl 5 (Nat.le_of_ble_eq_true rfl) fl_RX8_23 rfl dX8_advance_196 rfl ?_
          obtain ⟨h15, hf⟩ := gx_s hf
          refine sw_iald (pc' := 200) cx 1 0 rfl rfl h15 dX8_advance_199 rfl ?_
          refine sw_iadd (pc' := 201) cx dX8_advance_200 rfl ?_
          refine sw_bipush (pc' := 203) (v := 48) cx dX8_advance_201 bipush_48 rfl ?_
          refine sw_isub (pc' := 204) cx dX8_advance_203 rfl ?_
          refine sw_mmin (pc' := 207) cx ml_RX8_119 stat_Lib_Math_min_name ini_RJ9 code_Lib_Math_min_name (Nat.le_of_ble_eq_true rfl) (Nat.le_of_ble_eq_true rfl) ⟨(Nat.le_of_ble_eq_true rfl), (Nat.le_of_ble_eq_true rfl)⟩ dX8_advance_204 rfl ?_
          refine sw_put (pc' := 210) (ws' := (tp_W a b kA cI tby tlen ttok tsta tbeh (if (((tnum * (10 : Int32)) + (tby (tbeh).toNatClampNeg)) - (48 : Int32)) < (10000 : Int32) then (((tnum * (10 : Int32)) + (tby (tbeh).toNatClampNeg)) - (48 : Int32)) else (10000 : Int32)) ttak)) cx in_X8 tyX8 tyX8_ok nmX8 0 rfl rfl 6 (Nat.le_of_ble_eq_true rfl) fl_RX8_96 rfl rfl rfl (Nat.le_of_ble_eq_true rfl) dX8_advance_207 rfl rfl ?_
          refine sw_aload_n (pc' := 211) (i := 0) cx dX8_advance_210 rfl 0 rfl rfl ?_
          refine sw_dup (pc' := 212) cx dX8_advance_211 rfl rfl ?_
          refine sw_get (pc' := 215) cx in_X8 0 rfl rfl 5 (Nat.le_of_ble_eq_true rfl) fl_RX8_23 rfl dX8_advance_212 rfl ?_
          refine sw_iconst (pc' := 216) (v := 1) cx dX8_advance_215 iconst_1 rfl ?_
          refine sw_iadd (pc' := 217) cx dX8_advance_216 rfl ?_
          refine sw_put (pc' := 220) (ws' := (tp_W a b kA cI tby tlen ttok tsta (tbeh + (1 : Int32)) (if (((tnum * (10 : Int32)) + (tby (tbeh).toNatClampNeg)) - (48 : Int32)) < (10000 : Int32) then (((tnum * (10 : Int32)) + (tby (tbeh).toNatClampNeg)) - (48 : Int32)) else (10000 : Int32)) ttak)) cx in_X8 tyX8 tyX8_ok nmX8 0 rfl rfl 5 (Nat.le_of_ble_eq_true rfl) fl_RX8_23 rfl rfl rfl (Nat.le_of_ble_eq_true rfl) dX8_advance_217 rfl rfl ?_
          refine sw_goto (tgt := 154) cx dX8_advance_220 (by decide) ?_
          exact sw_lv [0] rfl (ih ttok tsta (tbeh + (1 : Int32)) (if (((tnum * (10 : Int32)) + (tby (tbeh).toNatClampNeg)) - (48 : Int32)) < (10000 : Int32) then (((tnum * (10 : Int32)) + (tby (tbeh).toNatClampNeg)) - (48 : Int32)) else (10000 : Int32)) hf)
  have B38 : ∀ (ttok : Int32) (tsta : Int32) (tbeh : Int32) (tnum : Int32), f_X8_advance_b38 tby tlen ttok tsta tbeh tnum = some res → sf_W p l e rm_X8_advance s m args below meth c 0 0 Q 2 D A (tp_W a b kA cI tby tlen ttok tsta tbeh tnum ttak) [(0, .ref a)] 38 [] := by
    intro ttok tsta tbeh tnum hf
    unfold f_X8_advance_b38 at hf
    refine sw_aload_n (pc' := 39) (i := 0) cx dX8_advance_38 rfl 0 rfl rfl ?_
    refine sw_aload_n (pc' := 40) (i := 0) cx dX8_advance_39 rfl 0 rfl rfl ?_
    refine sw_get (pc' := 43) cx in_X8 0 rfl rfl 5 (Nat.le_of_ble_eq_true rfl) fl_RX8_23 rfl dX8_advance_40 rfl ?_
    refine sw_put (pc' := 46) (ws' := (tp_W a b kA cI tby tlen ttok tbeh tbeh tnum ttak)) cx in_X8 tyX8 tyX8_ok nmX8 0 rfl rfl 4 (Nat.le_of_ble_eq_true rfl) fl_RX8_33 rfl rfl rfl (Nat.le_of_ble_eq_true rfl) dX8_advance_43 rfl rfl ?_
    refine sw_aload_n (pc' := 47) (i := 0) cx dX8_advance_46 rfl 0 rfl rfl ?_
    refine sw_get (pc' := 50) cx in_X8 0 rfl rfl 4 (Nat.le_of_ble_eq_true rfl) fl_RX8_33 rfl dX8_advance_47 rfl ?_
    refine sw_aload_n (pc' := 51) (i := 0) cx dX8_advance_50 rfl 0 rfl rfl ?_
    refine sw_get (pc' := 54) cx in_X8 0 rfl rfl 2 (Nat.le_of_ble_eq_true rfl) fl_RX8_19 rfl dX8_advance_51 rfl ?_
    refine sw_icmp_lt (pc' := 57) (tgt := 63) cx dX8_advance_54 (by decide) rfl (fun c4 => ?_) (fun c4 => ?_)
    · replace hf := it_p c4 hf
      refine sw_aload_n (pc' := 64) (i := 0) cx dX8_advance_63 rfl 0 rfl rfl ?_
      refine sw_get (pc' := 67) cx in_X8 0 rfl rfl 1 (Nat.le_of_ble_eq_true rfl) fl_RX8_9 rfl dX8_advance_64 rfl ?_
      refine sw_aload_n (pc' := 68) (i := 0) cx dX8_advance_67 rfl 0 rfl rfl ?_
      refine sw_get (pc' := 71) cx in_X8 0 rfl rfl 4 (Nat.le_of_ble_eq_true rfl) fl_RX8_33 rfl dX8_advance_68 rfl ?_
      obtain ⟨h5, hf⟩ := gx_s hf
      refine sw_iald (pc' := 72) cx 1 0 rfl rfl h5 dX8_advance_71 rfl ?_
      refine sw_istore_n (pc' := 73) (i := 1) (lv' := [(1, .int (tby (tbeh).toNatClampNeg)), (0, .ref a)]) cx dX8_advance_72 rfl (Nat.le_of_ble_eq_true rfl) rfl rfl ?_
      refine sw_aload_n (pc' := 74) (i := 0) cx dX8_advance_73 rfl 1 rfl rfl ?_
      refine sw_dup (pc' := 75) cx dX8_advance_74 rfl rfl ?_
      refine sw_get (pc' := 78) cx in_X8 0 rfl rfl 5 (Nat.le_of_ble_eq_true rfl) fl_RX8_23 rfl dX8_advance_75 rfl ?_
      refine sw_iconst (pc' := 79) (v := 1) cx dX8_advance_78 iconst_1 rfl ?_
      refine sw_iadd (pc' := 80) cx dX8_advance_79 rfl ?_
      refine sw_put (pc' := 83) (ws' := (tp_W a b kA cI tby tlen ttok tbeh (tbeh + (1 : Int32)) tnum ttak)) cx in_X8 tyX8 tyX8_ok nmX8 0 rfl rfl 5 (Nat.le_of_ble_eq_true rfl) fl_RX8_23 rfl rfl rfl (Nat.le_of_ble_eq_true rfl) dX8_advance_80 rfl rfl ?_
      refine sw_iload_n (pc' := 84) (i := 1) cx dX8_advance_83 rfl 0 rfl rfl ?_
      obtain ⟨r6, hr6, hf⟩ := bd_s hf
      refine sw_callS (pc' := 87) (As := [.int (tby (tbeh).toNatClampNeg)]) (rest := []) cx (k_X8_isLetter l D cI cJ cK cS (tby (tbeh).toNatClampNeg) r6 hr6) pk_yX8_isLetter ml_RX8_112 ⟨rfl, rfl⟩ ⟨(Nat.le_of_ble_eq_true rfl), (Nat.le_of_ble_eq_true rfl)⟩ ⟨(Nat.le_of_ble_eq_true rfl), (Nat.le_of_ble_eq_true rfl)⟩ [] rfl rfl rfl (wn := (tp_W a b kA cI tby tlen ttok tbeh (tbeh + (1 : Int32)) tnum ttak)) rfl rfl (Nat.le_of_ble_eq_true rfl) rfl dX8_advance_84 rfl ?_
      refine sw_if_eq (pc' := 90) (tgt := 134) cx dX8_advance_87 (by decide) rfl (fun c7 => ?_) (fun c7 => ?_)
      · replace hf := it_p c7 hf
        refine sw_iload_n (pc' := 135) (i := 1) cx dX8_advance_134 rfl 0 rfl rfl ?_
        obtain ⟨r8, hr8, hf⟩ := bd_s hf
        refine sw_callS (pc' := 138) (As := [.int (tby (tbeh).toNatClampNeg)]) (rest := []) cx (k_X8_isDigit l D cI cJ cK cS (tby (tbeh).toNatClampNeg) r8 hr8) pk_yX8_isDigit ml_RX8_116 ⟨rfl, rfl⟩ ⟨(Nat.le_of_ble_eq_true rfl), (Nat.le_of_ble_eq_true rfl)⟩ ⟨(Nat.le_of_ble_eq_true rfl), (Nat.le_of_ble_eq_true rfl)⟩ [] rfl rfl rfl (wn := (tp_W a b kA cI tby tlen ttok tbeh (tbeh + (1 : Int32)) tnum ttak)) rfl rfl (Nat.le_of_ble_eq_true rfl) rfl dX8_advance_135 rfl ?_
        refine sw_if_eq (pc' := 141) (tgt := 223) cx dX8_advance_138 (by decide) rfl (fun c9 => ?_) (fun c9 => ?_)
        · replace hf := it_p c9 hf
          refine sw_aload_n (pc' := 224) (i := 0) cx dX8_advance_223 rfl 1 rfl rfl ?_
          refine sw_iload_n (pc' := 225) (i := 1) cx dX8_advance_224 rfl 0 rfl rfl ?_
          refine sw_bipush (pc' := 227) (v := 59) cx dX8_advance_225 bipush_59 rfl ?_
          refine sw_icmp_ne (pc' := 230) (tgt := 234) cx dX8_advance_227 (by decide) rfl (fun c10 => ?_) (fun c10 => ?_)
          · replace hf := it_n c10 hf
            refine sw_iconst (pc' := 235) (v := 4) cx dX8_advance_234 iconst_4 rfl ?_
            refine sw_put (pc' := 238) (ws' := (tp_W a b kA cI tby tlen (4 : Int32) tbeh (tbeh + (1 : Int32)) tnum ttak)) cx in_X8 tyX8 tyX8_ok nmX8 0 rfl rfl 3 (Nat.le_of_ble_eq_true rfl) fl_RX8_36 rfl rfl rfl (Nat.le_of_ble_eq_true rfl) dX8_advance_235 rfl rfl ?_
            obtain rfl := Option.some.inj hf
            exact sw_vret cx hr hQ dX8_advance_238
          · replace hf := it_p c10 hf
            refine sw_iconst (pc' := 231) (v := 3) cx dX8_advance_230 iconst_3 rfl ?_
            refine sw_goto (tgt := 235) cx dX8_advance_231 (by decide) ?_
            refine sw_put (pc' := 238) (ws' := (tp_W a b kA cI tby tlen (3 : Int32) tbeh (tbeh + (1 : Int32)) tnum ttak)) cx in_X8 tyX8 tyX8_ok nmX8 0 rfl rfl 3 (Nat.le_of_ble_eq_true rfl) fl_RX8_36 rfl rfl rfl (Nat.le_of_ble_eq_true rfl) dX8_advance_235 rfl rfl ?_
            obtain rfl := Option.some.inj hf
            exact sw_vret cx hr hQ dX8_advance_238
        · replace hf := it_n c9 hf
          refine sw_aload_n (pc' := 142) (i := 0) cx dX8_advance_141 rfl 1 rfl rfl ?_
          refine sw_iconst (pc' := 143) (v := 2) cx dX8_advance_142 iconst_2 rfl ?_
          refine sw_put (pc' := 146) (ws' := (tp_W a b kA cI tby tlen (2 : Int32) tbeh (tbeh + (1 : Int32)) tnum ttak)) cx in_X8 tyX8 tyX8_ok nmX8 0 rfl rfl 3 (Nat.le_of_ble_eq_true rfl) fl_RX8_36 rfl rfl rfl (Nat.le_of_ble_eq_true rfl) dX8_advance_143 rfl rfl ?_
          refine sw_aload_n (pc' := 147) (i := 0) cx dX8_advance_146 rfl 1 rfl rfl ?_
          refine sw_iload_n (pc' := 148) (i := 1) cx dX8_advance_147 rfl 0 rfl rfl ?_
          refine sw_bipush (pc' := 150) (v := 48) cx dX8_advance_148 bipush_48 rfl ?_
          refine sw_isub (pc' := 151) cx dX8_advance_150 rfl ?_
          refine sw_put (pc' := 154) (ws' := (tp_W a b kA cI tby tlen (2 : Int32) tbeh (tbeh + (1 : Int32)) ((tby (tbeh).toNatClampNeg) - (48 : Int32)) ttak)) cx in_X8 tyX8 tyX8_ok nmX8 0 rfl rfl 6 (Nat.le_of_ble_eq_true rfl) fl_RX8_96 rfl rfl rfl (Nat.le_of_ble_eq_true rfl) dX8_advance_151 rfl rfl ?_
          exact sw_lv [1] rfl (B154 1000 (2 : Int32) tbeh (tbeh + (1 : Int32)) ((tby (tbeh).toNatClampNeg) - (48 : Int32)) hf)
      · replace hf := it_n c7 hf
        refine sw_aload_n (pc' := 91) (i := 0) cx dX8_advance_90 rfl 1 rfl rfl ?_
        refine sw_iconst (pc' := 92) (v := 1) cx dX8_advance_91 iconst_1 rfl ?_
        refine sw_put (pc' := 95) (ws' := (tp_W a b kA cI tby tlen (1 : Int32) tbeh (tbeh + (1 : Int32)) tnum ttak)) cx in_X8 tyX8 tyX8_ok nmX8 0 rfl rfl 3 (Nat.le_of_ble_eq_true rfl) fl_RX8_36 rfl rfl rfl (Nat.le_of_ble_eq_true rfl) dX8_advance_92 rfl rfl ?_
        exact sw_lv [1] rfl (B95 1000 (1 : Int32) tbeh (tbeh + (1 : Int32)) tnum hf)
    · replace hf := it_n c4 hf
      refine sw_aload_n (pc' := 58) (i := 0) cx dX8_advance_57 rfl 0 rfl rfl ?_
      refine sw_iconst (pc' := 59) (v := 0) cx dX8_advance_58 iconst_0 rfl ?_
      refine sw_put (pc' := 62) (ws' := (tp_W a b kA cI tby tlen (0 : Int32) tbeh tbeh tnum ttak)) cx in_X8 tyX8 tyX8_ok nmX8 0 rfl rfl 3 (Nat.le_of_ble_eq_true rfl) fl_RX8_36 rfl rfl rfl (Nat.le_of_ble_eq_true rfl) dX8_advance_59 rfl rfl ?_
      obtain rfl := Option.some.inj hf
      exact sw_vret cx hr hQ dX8_advance_62
  have B0 : ∀ (n : Nat), ∀ (ttok : Int32) (tsta : Int32) (tbeh : Int32) (tnum : Int32), f_X8_advance_b0 tby tlen n ttok tsta tbeh tnum = some res → sf_W p l e rm_X8_advance s m args below meth c 0 0 Q 2 D A (tp_W a b kA cI tby tlen ttok tsta tbeh tnum ttak) [(0, .ref a)] 0 [] := by
    intro n
    induction n with
    | zero => intro ttok tsta tbeh tnum hf; rw [f_X8_advance_b0] at hf; cases hf
    | succ n ih =>
      intro ttok tsta tbeh tnum hf
      rw [f_X8_advance_b0] at hf
      refine sw_aload_n (pc' := 1) (i := 0) cx dX8_advance_0 rfl 0 rfl rfl ?_
      refine sw_get (pc' := 4) cx in_X8 0 rfl rfl 5 (Nat.le_of_ble_eq_true rfl) fl_RX8_23 rfl dX8_advance_1 rfl ?_
      refine sw_aload_n (pc' := 5) (i := 0) cx dX8_advance_4 rfl 0 rfl rfl ?_
      refine sw_get (pc' := 8) cx in_X8 0 rfl rfl 2 (Nat.le_of_ble_eq_true rfl) fl_RX8_19 rfl dX8_advance_5 rfl ?_
      refine sw_icmp_ge (pc' := 11) (tgt := 38) cx dX8_advance_8 (by decide) rfl (fun c1 => ?_) (fun c1 => ?_)
      · replace hf := it_p c1 hf
        exact sw_lv [0] rfl (B38 ttok tsta tbeh tnum hf)
      · replace hf := it_n c1 hf
        refine sw_aload_n (pc' := 12) (i := 0) cx dX8_advance_11 rfl 0 rfl rfl ?_
        refine sw_get (pc' := 15) cx in_X8 0 rfl rfl 1 (Nat.le_of_ble_eq_true rfl) fl_RX8_9 rfl dX8_advance_12 rfl ?_
        refine sw_aload_n (pc' := 16) (i := 0) cx dX8_advance_15 rfl 0 rfl rfl ?_
        refine sw_get (pc' := 19) cx in_X8 0 rfl rfl 5 (Nat.le_of_ble_eq_true rfl) fl_RX8_23 rfl dX8_advance_16 rfl ?_
        obtain ⟨h2, hf⟩ := gx_s hf
        refine sw_iald (pc' := 20) cx 1 0 rfl rfl h2 dX8_advance_19 rfl ?_
        refine sw_bipush (pc' := 22) (v := 32) cx dX8_advance_20 bipush_32 rfl ?_
        refine sw_icmp_ne (pc' := 25) (tgt := 38) cx dX8_advance_22 (by decide) rfl (fun c3 => ?_) (fun c3 => ?_)
        · replace hf := it_n c3 hf
          exact sw_lv [0] rfl (B38 ttok tsta tbeh tnum hf)
        · replace hf := it_p c3 hf
          refine sw_aload_n (pc' := 26) (i := 0) cx dX8_advance_25 rfl 0 rfl rfl ?_
          refine sw_dup (pc' := 27) cx dX8_advance_26 rfl rfl ?_
          refine sw_get (pc' := 30) cx in_X8 0 rfl rfl 5 (Nat.le_of_ble_eq_true rfl) fl_RX8_23 rfl dX8_advance_27 rfl ?_
          refine sw_iconst (pc' := 31) (v := 1) cx dX8_advance_30 iconst_1 rfl ?_
          refine sw_iadd (pc' := 32) cx dX8_advance_31 rfl ?_
          refine sw_put (pc' := 35) (ws' := (tp_W a b kA cI tby tlen ttok tsta (tbeh + (1 : Int32)) tnum ttak)) cx in_X8 tyX8 tyX8_ok nmX8 0 rfl rfl 5 (Nat.le_of_ble_eq_true rfl) fl_RX8_23 rfl rfl rfl (Nat.le_of_ble_eq_true rfl) dX8_advance_32 rfl rfl ?_
          refine sw_goto (tgt := 0) cx dX8_advance_35 (by decide) ?_
          exact sw_lv [0] rfl (ih ttok tsta (tbeh + (1 : Int32)) tnum hf)
  unfold f_X8_advance at hf
  exact sw_lv [0] rfl (B0 1000 ttok tsta tbeh tnum hf)
abbrev rm_X8_isWord : Room := ({ frames := 4, cells := 0, slots := 0, locals := 85 } : Room)
set_option maxRecDepth 100000 in
set_option maxHeartbeats 4000000 in
theorem k_X8_isWord (l : Launch) (D : sf_D) (a b kA : Nat) (cI cJ cK cS : ClassId) (tby : Nat → Int32) (tlen : Int32) (ttok : Int32) (tsta : Int32) (tbeh : Int32) (tnum : Int32) (ttak : Int32) (w0 : Nat) (res : Int32) (hf : f_X8_isWord tby tlen ttok tsta tbeh w0 = some res) : sf_Ct l yX8_isWord cX8_isWord 3 (some .boolean) rm_X8_isWord D (sf_ty cI cJ cK cS) [.ref a, .ref (D.2.1 w0)] (tp_W a b kA cI tby tlen ttok tsta tbeh tnum ttak) (some (.int res)) (tp_W a b kA cI tby tlen ttok tsta tbeh tnum ttak) := by
  refine sf_met (lv := [(0, .ref a), (1, .ref (D.2.1 w0))]) (by decide) (Nat.le_of_ble_eq_true rfl) rfl ?_
  intro p e s m args below meth c A Q cx hr hQ
  have cx : sf_Cx p m meth c cX8_isWord 3 s args RX8 D (sf_ty cI cJ cK cS) A := cx
  have B28 : ∀ (n : Nat), ∀ (x1 : Nat) (x2 : Int32), f_X8_isWord_b28 tby tlen ttok tsta tbeh n x1 x2 = some res → sf_W p l e rm_X8_isWord s m args below meth c 0 0 Q 3 D A (tp_W a b kA cI tby tlen ttok tsta tbeh tnum ttak) [(0, .ref a), (1, .ref (D.2.1 x1)), (2, .int x2)] 28 [] := by
    intro n
    induction n with
    | zero => intro x1 x2 hf; rw [f_X8_isWord_b28] at hf; cases hf
    | succ n ih =>
      intro x1 x2 hf
      rw [f_X8_isWord_b28] at hf
      refine sw_iload_n (pc' := 29) (i := 2) cx dX8_isWord_28 rfl 2 rfl rfl ?_
      refine sw_aload_n (pc' := 30) (i := 1) cx dX8_isWord_29 rfl 1 rfl rfl ?_
      obtain ⟨h4, hf⟩ := gk_s hf
      refine sw_callT (pc' := 33) (As := []) (rest := [.int x2]) cx h4 (k_slen l D _ x1 h4) pk_yJ0_length_8abf5 rfl ml_RX8_103 ⟨rfl, rfl⟩ ⟨(Nat.le_of_ble_eq_true rfl), (Nat.le_of_ble_eq_true rfl)⟩ ⟨(Nat.le_of_ble_eq_true rfl), (Nat.le_of_ble_eq_true rfl)⟩ rfl (Nat.le_of_ble_eq_true rfl) rfl dX8_isWord_30 rfl ?_
      refine sw_icmp_ge (pc' := 36) (tgt := 76) cx dX8_isWord_33 (by decide) rfl (fun c5 => ?_) (fun c5 => ?_)
      · replace hf := it_p c5 hf
        refine sw_iconst (pc' := 77) (v := 1) cx dX8_isWord_76 iconst_1 rfl ?_
        obtain rfl := Option.some.inj hf
        exact sw_zret cx hr (by decide +kernel) hQ dX8_isWord_77
      · replace hf := it_n c5 hf
        refine sw_aload_n (pc' := 37) (i := 0) cx dX8_isWord_36 rfl 0 rfl rfl ?_
        refine sw_get (pc' := 40) cx in_X8 0 rfl rfl 4 (Nat.le_of_ble_eq_true rfl) fl_RX8_33 rfl dX8_isWord_37 rfl ?_
        refine sw_iload_n (pc' := 41) (i := 2) cx dX8_isWord_40 rfl 2 rfl rfl ?_
        refine sw_iadd (pc' := 42) cx dX8_isWord_41 rfl ?_
        refine sw_aload_n (pc' := 43) (i := 0) cx dX8_isWord_42 rfl 0 rfl rfl ?_
        refine sw_get (pc' := 46) cx in_X8 0 rfl rfl 2 (Nat.le_of_ble_eq_true rfl) fl_RX8_19 rfl dX8_isWord_43 rfl ?_
        refine sw_icmp_ge (pc' := 49) (tgt := 76) cx dX8_isWord_46 (by decide) rfl (fun c6 => ?_) (fun c6 => ?_)
        · replace hf := it_p c6 hf
          refine sw_iconst (pc' := 77) (v := 1) cx dX8_isWord_76 iconst_1 rfl ?_
          obtain rfl := Option.some.inj hf
          exact sw_zret cx hr (by decide +kernel) hQ dX8_isWord_77
        · replace hf := it_n c6 hf
          refine sw_aload_n (pc' := 50) (i := 0) cx dX8_isWord_49 rfl 0 rfl rfl ?_
          refine sw_get (pc' := 53) cx in_X8 0 rfl rfl 1 (Nat.le_of_ble_eq_true rfl) fl_RX8_9 rfl dX8_isWord_50 rfl ?_
          refine sw_aload_n (pc' := 54) (i := 0) cx dX8_isWord_53 rfl 0 rfl rfl ?_
          refine sw_get (pc' := 57) cx in_X8 0 rfl rfl 4 (Nat.le_of_ble_eq_true rfl) fl_RX8_33 rfl dX8_isWord_54 rfl ?_
          refine sw_iload_n (pc' := 58) (i := 2) cx dX8_isWord_57 rfl 2 rfl rfl ?_
          refine sw_iadd (pc' := 59) cx dX8_isWord_58 rfl ?_
          obtain ⟨h7, hf⟩ := gx_s hf
          refine sw_iald (pc' := 60) cx 1 0 rfl rfl h7 dX8_isWord_59 rfl ?_
          refine sw_aload_n (pc' := 61) (i := 1) cx dX8_isWord_60 rfl 1 rfl rfl ?_
          refine sw_iload_n (pc' := 62) (i := 2) cx dX8_isWord_61 rfl 2 rfl rfl ?_
          obtain ⟨h8, hf⟩ := gk_s hf
          obtain ⟨h9, hf⟩ := gx_s hf
          refine sw_callT (pc' := 65) (As := [.int x2]) (rest := [.int (tby ((tsta + x2)).toNatClampNeg)]) cx h8 (k_schar l D _ x1 h8 x2 h9) pk_yJ0_charAt_5068e rfl ml_RX8_108 ⟨rfl, rfl⟩ ⟨(Nat.le_of_ble_eq_true rfl), (Nat.le_of_ble_eq_true rfl)⟩ ⟨(Nat.le_of_ble_eq_true rfl), (Nat.le_of_ble_eq_true rfl)⟩ rfl (Nat.le_of_ble_eq_true rfl) rfl dX8_isWord_62 rfl ?_
          refine sw_icmp_eq (pc' := 68) (tgt := 70) cx dX8_isWord_65 (by decide) rfl (fun c10 => ?_) (fun c10 => ?_)
          · replace hf := it_p c10 hf
            refine sw_iinc (pc' := 73) (v := (x2 + (1 : Int32))) (lv' := [(2, .int (x2 + (1 : Int32))), (0, .ref a), (1, .ref (D.2.1 x1))]) cx dX8_isWord_70 2 rfl rfl (Nat.le_of_ble_eq_true rfl) rfl rfl ?_
            refine sw_goto (tgt := 28) cx dX8_isWord_73 (by decide) ?_
            exact sw_lv [1, 2, 0] rfl (ih x1 (x2 + (1 : Int32)) hf)
          · replace hf := it_n c10 hf
            refine sw_iconst (pc' := 69) (v := 0) cx dX8_isWord_68 iconst_0 rfl ?_
            obtain rfl := Option.some.inj hf
            exact sw_zret cx hr (by decide +kernel) hQ dX8_isWord_69
  unfold f_X8_isWord at hf
  refine sw_aload_n (pc' := 1) (i := 0) cx dX8_isWord_0 rfl 0 rfl rfl ?_
  refine sw_get (pc' := 4) cx in_X8 0 rfl rfl 3 (Nat.le_of_ble_eq_true rfl) fl_RX8_36 rfl dX8_isWord_1 rfl ?_
  refine sw_iconst (pc' := 5) (v := 1) cx dX8_isWord_4 iconst_1 rfl ?_
  refine sw_icmp_ne (pc' := 8) (tgt := 24) cx dX8_isWord_5 (by decide) rfl (fun c1 => ?_) (fun c1 => ?_)
  · replace hf := it_n c1 hf
    refine sw_iconst (pc' := 25) (v := 0) cx dX8_isWord_24 iconst_0 rfl ?_
    obtain rfl := Option.some.inj hf
    exact sw_zret cx hr (by decide +kernel) hQ dX8_isWord_25
  · replace hf := it_p c1 hf
    refine sw_aload_n (pc' := 9) (i := 0) cx dX8_isWord_8 rfl 0 rfl rfl ?_
    refine sw_get (pc' := 12) cx in_X8 0 rfl rfl 5 (Nat.le_of_ble_eq_true rfl) fl_RX8_23 rfl dX8_isWord_9 rfl ?_
    refine sw_aload_n (pc' := 13) (i := 0) cx dX8_isWord_12 rfl 0 rfl rfl ?_
    refine sw_get (pc' := 16) cx in_X8 0 rfl rfl 4 (Nat.le_of_ble_eq_true rfl) fl_RX8_33 rfl dX8_isWord_13 rfl ?_
    refine sw_isub (pc' := 17) cx dX8_isWord_16 rfl ?_
    refine sw_aload_n (pc' := 18) (i := 1) cx dX8_isWord_17 rfl 1 rfl rfl ?_
    obtain ⟨h2, hf⟩ := gk_s hf
    refine sw_callT (pc' := 21) (As := []) (rest := [.int (tbeh - tsta)]) cx h2 (k_slen l D _ w0 h2) pk_yJ0_length_8abf5 rfl ml_RX8_103 ⟨rfl, rfl⟩ ⟨(Nat.le_of_ble_eq_true rfl), (Nat.le_of_ble_eq_true rfl)⟩ ⟨(Nat.le_of_ble_eq_true rfl), (Nat.le_of_ble_eq_true rfl)⟩ rfl (Nat.le_of_ble_eq_true rfl) rfl dX8_isWord_18 rfl ?_
    refine sw_icmp_eq (pc' := 24) (tgt := 26) cx dX8_isWord_21 (by decide) rfl (fun c3 => ?_) (fun c3 => ?_)
    · replace hf := it_p c3 hf
      refine sw_iconst (pc' := 27) (v := 0) cx dX8_isWord_26 iconst_0 rfl ?_
      refine sw_istore_n (pc' := 28) (i := 2) (lv' := [(2, .int (0 : Int32)), (0, .ref a), (1, .ref (D.2.1 w0))]) cx dX8_isWord_27 rfl (Nat.le_of_ble_eq_true rfl) rfl rfl ?_
      exact sw_lv [1, 2, 0] rfl (B28 1000 w0 (0 : Int32) hf)
    · replace hf := it_n c3 hf
      refine sw_iconst (pc' := 25) (v := 0) cx dX8_isWord_24 iconst_0 rfl ?_
      obtain rfl := Option.some.inj hf
      exact sw_zret cx hr (by decide +kernel) hQ dX8_isWord_25
abbrev rm_X8_take : Room := ({ frames := 2, cells := 0, slots := 0, locals := 42 } : Room)
set_option maxRecDepth 100000 in
set_option maxHeartbeats 4000000 in
theorem k_X8_take (l : Launch) (D : sf_D) (a b kA : Nat) (cI cJ cK cS : ClassId) (tby : Nat → Int32) (tlen : Int32) (ttok : Int32) (tsta : Int32) (tbeh : Int32) (tnum : Int32) (ttak : Int32) (a0 : Int32) (a1 : Int32) (res : Int32 × Int32 × Int32 × Int32 × Int32 × Int32) (hf : f_X8_take tby tlen ttok tsta tbeh tnum ttak a0 a1 = some res) : sf_Ct l yX8_take cX8_take 3 (some .boolean) rm_X8_take D (sf_ty cI cJ cK cS) [.ref a, .int a0, .int a1] (tp_W a b kA cI tby tlen ttok tsta tbeh tnum ttak) (some (.int res.1)) (tp_W a b kA cI tby tlen res.2.1 res.2.2.1 res.2.2.2.1 res.2.2.2.2.1 res.2.2.2.2.2) := by
  refine sf_met (lv := [(0, .ref a), (1, .int a0), (2, .int a1)]) (by decide) (Nat.le_of_ble_eq_true rfl) rfl ?_
  intro p e s m args below meth c A Q cx hr hQ
  have cx : sf_Cx p m meth c cX8_take 3 s args RX8 D (sf_ty cI cJ cK cS) A := cx
  unfold f_X8_take at hf
  refine sw_aload_n (pc' := 1) (i := 0) cx dX8_take_0 rfl 0 rfl rfl ?_
  refine sw_get (pc' := 4) cx in_X8 0 rfl rfl 3 (Nat.le_of_ble_eq_true rfl) fl_RX8_36 rfl dX8_take_1 rfl ?_
  refine sw_iconst (pc' := 5) (v := 2) cx dX8_take_4 iconst_2 rfl ?_
  refine sw_icmp_ne (pc' := 8) (tgt := 20) cx dX8_take_5 (by decide) rfl (fun c1 => ?_) (fun c1 => ?_)
  · replace hf := it_n c1 hf
    refine sw_iconst (pc' := 21) (v := 0) cx dX8_take_20 iconst_0 rfl ?_
    obtain rfl := Option.some.inj hf
    exact sw_zret cx hr (by decide +kernel) hQ dX8_take_21
  · replace hf := it_p c1 hf
    refine sw_aload_n (pc' := 9) (i := 0) cx dX8_take_8 rfl 0 rfl rfl ?_
    refine sw_get (pc' := 12) cx in_X8 0 rfl rfl 6 (Nat.le_of_ble_eq_true rfl) fl_RX8_96 rfl dX8_take_9 rfl ?_
    refine sw_iload_n (pc' := 13) (i := 1) cx dX8_take_12 rfl 1 rfl rfl ?_
    refine sw_iload_n (pc' := 14) (i := 2) cx dX8_take_13 rfl 2 rfl rfl ?_
    obtain ⟨r2, hr2, hf⟩ := bd_s hf
    refine sw_callSN (pc' := 17) (As := [.int tnum, .int a0, .int a1]) (rest := []) cx (k_X9_isWithin l D cI cJ cK cS tnum a0 a1 r2 hr2) pk_yX9_isWithin mn_RX8_99 ⟨rfl, rfl⟩ ⟨(Nat.le_of_ble_eq_true rfl), (Nat.le_of_ble_eq_true rfl)⟩ ⟨(Nat.le_of_ble_eq_true rfl), (Nat.le_of_ble_eq_true rfl)⟩ [] rfl rfl rfl (wn := (tp_W a b kA cI tby tlen ttok tsta tbeh tnum ttak)) rfl rfl (Nat.le_of_ble_eq_true rfl) rfl dX8_take_14 rfl ?_
    refine sw_if_ne (pc' := 20) (tgt := 22) cx dX8_take_17 (by decide) rfl (fun c3 => ?_) (fun c3 => ?_)
    · replace hf := it_n c3 hf
      refine sw_aload_n (pc' := 23) (i := 0) cx dX8_take_22 rfl 0 rfl rfl ?_
      refine sw_aload_n (pc' := 24) (i := 0) cx dX8_take_23 rfl 0 rfl rfl ?_
      refine sw_get (pc' := 27) cx in_X8 0 rfl rfl 6 (Nat.le_of_ble_eq_true rfl) fl_RX8_96 rfl dX8_take_24 rfl ?_
      refine sw_put (pc' := 30) (ws' := (tp_W a b kA cI tby tlen ttok tsta tbeh tnum tnum)) cx in_X8 tyX8 tyX8_ok nmX8 0 rfl rfl 7 (Nat.le_of_ble_eq_true rfl) fl_RX8_67 rfl rfl rfl (Nat.le_of_ble_eq_true rfl) dX8_take_27 rfl rfl ?_
      refine sw_aload_n (pc' := 31) (i := 0) cx dX8_take_30 rfl 0 rfl rfl ?_
      obtain ⟨r4, hr4, hf⟩ := bd_s hf
      refine sw_callVw (pc' := 34) (As := []) (rest := []) (w' := (tp_W a b kA cI tby tlen r4.1 r4.2.1 r4.2.2.1 r4.2.2.2 tnum)) cx (k_X8_advance l D a b kA cI cJ cK cS tby tlen ttok tsta tbeh tnum tnum  r4 hr4) pk_yX8_advance ml_RX8_26 ⟨rfl, rfl⟩ ⟨(Nat.le_of_ble_eq_true rfl), (Nat.le_of_ble_eq_true rfl)⟩ ⟨(Nat.le_of_ble_eq_true rfl), (Nat.le_of_ble_eq_true rfl)⟩ 0 rfl rfl rfl rfl (Nat.le_of_ble_eq_true rfl) rfl dX8_take_31 rfl ?_
      refine sw_iconst (pc' := 35) (v := 1) cx dX8_take_34 iconst_1 rfl ?_
      obtain rfl := Option.some.inj hf
      exact sw_zret cx hr (by decide +kernel) hQ dX8_take_35
    · replace hf := it_p c3 hf
      refine sw_iconst (pc' := 21) (v := 0) cx dX8_take_20 iconst_0 rfl ?_
      obtain rfl := Option.some.inj hf
      exact sw_zret cx hr (by decide +kernel) hQ dX8_take_21
abbrev rm_X8_takeWord : Room := ({ frames := 5, cells := 0, slots := 0, locals := 107 } : Room)
set_option maxRecDepth 100000 in
set_option maxHeartbeats 4000000 in
theorem k_X8_takeWord (l : Launch) (D : sf_D) (a b kA : Nat) (cI cJ cK cS : ClassId) (tby : Nat → Int32) (tlen : Int32) (ttok : Int32) (tsta : Int32) (tbeh : Int32) (tnum : Int32) (ttak : Int32) (w0 : Nat) (res : Int32 × Int32 × Int32 × Int32 × Int32) (hf : f_X8_takeWord tby tlen ttok tsta tbeh tnum w0 = some res) : sf_Ct l yX8_takeWord cX8_takeWord 2 (some .boolean) rm_X8_takeWord D (sf_ty cI cJ cK cS) [.ref a, .ref (D.2.1 w0)] (tp_W a b kA cI tby tlen ttok tsta tbeh tnum ttak) (some (.int res.1)) (tp_W a b kA cI tby tlen res.2.1 res.2.2.1 res.2.2.2.1 res.2.2.2.2 ttak) := by
  refine sf_met (lv := [(0, .ref a), (1, .ref (D.2.1 w0))]) (by decide) (Nat.le_of_ble_eq_true rfl) rfl ?_
  intro p e s m args below meth c A Q cx hr hQ
  have cx : sf_Cx p m meth c cX8_takeWord 2 s args RX8 D (sf_ty cI cJ cK cS) A := cx
  unfold f_X8_takeWord at hf
  refine sw_aload_n (pc' := 1) (i := 0) cx dX8_takeWord_0 rfl 0 rfl rfl ?_
  refine sw_aload_n (pc' := 2) (i := 1) cx dX8_takeWord_1 rfl 1 rfl rfl ?_
  obtain ⟨r1, hr1, hf⟩ := bd_s hf
  refine sw_callVw (pc' := 5) (As := [.ref (D.2.1 w0)]) (rest := []) (w' := (tp_W a b kA cI tby tlen ttok tsta tbeh tnum ttak)) cx (k_X8_isWord l D a b kA cI cJ cK cS tby tlen ttok tsta tbeh tnum ttak w0 r1 hr1) pk_yX8_isWord ml_RX8_45 ⟨rfl, rfl⟩ ⟨(Nat.le_of_ble_eq_true rfl), (Nat.le_of_ble_eq_true rfl)⟩ ⟨(Nat.le_of_ble_eq_true rfl), (Nat.le_of_ble_eq_true rfl)⟩ 0 rfl rfl rfl rfl (Nat.le_of_ble_eq_true rfl) rfl dX8_takeWord_2 rfl ?_
  refine sw_if_ne (pc' := 8) (tgt := 10) cx dX8_takeWord_5 (by decide) rfl (fun c2 => ?_) (fun c2 => ?_)
  · replace hf := it_n c2 hf
    refine sw_aload_n (pc' := 11) (i := 0) cx dX8_takeWord_10 rfl 0 rfl rfl ?_
    obtain ⟨r3, hr3, hf⟩ := bd_s hf
    refine sw_callVw (pc' := 14) (As := []) (rest := []) (w' := (tp_W a b kA cI tby tlen r3.1 r3.2.1 r3.2.2.1 r3.2.2.2 ttak)) cx (k_X8_advance l D a b kA cI cJ cK cS tby tlen ttok tsta tbeh tnum ttak  r3 hr3) pk_yX8_advance ml_RX8_26 ⟨rfl, rfl⟩ ⟨(Nat.le_of_ble_eq_true rfl), (Nat.le_of_ble_eq_true rfl)⟩ ⟨(Nat.le_of_ble_eq_true rfl), (Nat.le_of_ble_eq_true rfl)⟩ 0 rfl rfl rfl rfl (Nat.le_of_ble_eq_true rfl) rfl dX8_takeWord_11 rfl ?_
    refine sw_iconst (pc' := 15) (v := 1) cx dX8_takeWord_14 iconst_1 rfl ?_
    obtain rfl := Option.some.inj hf
    exact sw_zret cx hr (by decide +kernel) hQ dX8_takeWord_15
  · replace hf := it_p c2 hf
    refine sw_iconst (pc' := 9) (v := 0) cx dX8_takeWord_8 iconst_0 rfl ?_
    obtain rfl := Option.some.inj hf
    exact sw_zret cx hr (by decide +kernel) hQ dX8_takeWord_9
abbrev rm_X8_fineItem : Room := ({ frames := 6, cells := 0, slots := 0, locals := 128 } : Room)
set_option maxRecDepth 100000 in
set_option maxHeartbeats 4000000 in
theorem k_X8_fineItem (l : Launch) (D : sf_D) (a b : Nat) (hm : Nat → Nat) (kA : Nat) (ka : Nat → Nat) (cI cJ cK cS : ClassId) (tby : Nat → Int32) (tlen : Int32) (ttok : Int32) (tsta : Int32) (tbeh : Int32) (tnum : Int32) (ttak : Int32) (u : MtS) (a1 : Int32) (res : Int32 × Int32 × Int32 × Int32 × Int32 × Int32 × MtS) (hf : f_X8_fineItem tby tlen ttok tsta tbeh tnum ttak u a1 = some res) : sf_Ct l yX8_fineItem cX8_fineItem 6 (some .boolean) rm_X8_fineItem D (sf_ty cI cJ cK cS) [.ref a, .ref (hm 0), .int a1] (tm_W a b hm kA ka cI cK tby tlen ttok tsta tbeh tnum ttak u) (some (.int res.1)) (tm_W a b hm kA ka cI cK tby tlen res.2.1 res.2.2.1 res.2.2.2.1 res.2.2.2.2.1 res.2.2.2.2.2.1 res.2.2.2.2.2.2) := by
  refine sf_met (lv := [(0, .ref a), (1, .ref (hm 0)), (2, .int a1)]) (by decide) (Nat.le_of_ble_eq_true rfl) rfl ?_
  intro p e s m args below meth c A Q cx hr hQ
  have cx : sf_Cx p m meth c cX8_fineItem 6 s args RX8 D (sf_ty cI cJ cK cS) A := cx
  have B87 : ∀ (ttok : Int32) (tsta : Int32) (tbeh : Int32) (tnum : Int32) (ttak : Int32) (u : MtS) (x2 : Int32) (x3 : Int32) (x4 : Int32) (x5 : Int32), f_X8_fineItem_b87 tby tlen ttok tsta tbeh tnum ttak u x2 x3 x4 x5 = some res → sf_W p l e rm_X8_fineItem s m args below meth c 0 0 Q 6 D A (tm_W a b hm kA ka cI cK tby tlen ttok tsta tbeh tnum ttak u) [(1, .ref (hm 0)), (2, .int x2), (3, .int x3), (4, .int x4), (5, .int x5)] 87 [] := by
    intro ttok tsta tbeh tnum ttak u x2 x3 x4 x5 hf
    unfold f_X8_fineItem_b87 at hf
    refine sw_aload_n (pc' := 88) (i := 1) cx dX8_fineItem_87 rfl 0 rfl rfl ?_
    refine sw_iload_n (pc' := 89) (i := 2) cx dX8_fineItem_88 rfl 1 rfl rfl ?_
    refine sw_iload_n (pc' := 90) (i := 3) cx dX8_fineItem_89 rfl 2 rfl rfl ?_
    refine sw_iload (pc' := 92) (i := 4) cx dX8_fineItem_90 3 rfl rfl ?_
    refine sw_iload (pc' := 94) (i := 5) cx dX8_fineItem_92 4 rfl rfl ?_
    obtain ⟨r14, hr14, hf⟩ := bd_s hf
    refine sw_callV (pc' := 97) (As := [.int x2, .int x3, .int x4, .int x5]) (rest := []) cx (k_X4_addFine l D hm kA ka cI cJ cK cS u x2 x3 x4 x5 r14 hr14) pk_yX4_addFine ml_RX8_86 ⟨rfl, rfl⟩ ⟨(Nat.le_of_ble_eq_true rfl), (Nat.le_of_ble_eq_true rfl)⟩ ⟨(Nat.le_of_ble_eq_true rfl), (Nat.le_of_ble_eq_true rfl)⟩ [2, 3, 4, 5, 6, 7, 8, 9, 10, 11, 12, 13, 14, 15, 16, 17, 18] rfl rfl rfl (wn := (tm_W a b hm kA ka cI cK tby tlen ttok tsta tbeh tnum ttak r14)) rfl 0 rfl rfl rfl rfl (Nat.le_of_ble_eq_true rfl) rfl dX8_fineItem_94 rfl ?_
    refine sw_iconst (pc' := 98) (v := 1) cx dX8_fineItem_97 iconst_1 rfl ?_
    obtain rfl := Option.some.inj hf
    exact sw_zret cx hr (by decide +kernel) hQ dX8_fineItem_98
  unfold f_X8_fineItem at hf
  refine sw_aload_n (pc' := 1) (i := 1) cx dX8_fineItem_0 rfl 1 rfl rfl ?_
  obtain ⟨r1, hr1, hf⟩ := bd_s hf
  refine sw_callV (pc' := 4) (As := []) (rest := []) cx (k_X4_isFull l D hm kA ka cI cJ cK cS u  r1 hr1) pk_yX4_isFull ml_RX8_78 ⟨rfl, rfl⟩ ⟨(Nat.le_of_ble_eq_true rfl), (Nat.le_of_ble_eq_true rfl)⟩ ⟨(Nat.le_of_ble_eq_true rfl), (Nat.le_of_ble_eq_true rfl)⟩ [2, 3, 4, 5, 6, 7, 8, 9, 10, 11, 12, 13, 14, 15, 16, 17, 18] rfl rfl rfl (wn := (tm_W a b hm kA ka cI cK tby tlen ttok tsta tbeh tnum ttak u)) rfl 0 rfl rfl rfl rfl (Nat.le_of_ble_eq_true rfl) rfl dX8_fineItem_1 rfl ?_
  refine sw_if_eq (pc' := 7) (tgt := 9) cx dX8_fineItem_4 (by decide) rfl (fun c2 => ?_) (fun c2 => ?_)
  · replace hf := it_p c2 hf
    refine sw_aload_n (pc' := 10) (i := 0) cx dX8_fineItem_9 rfl 0 rfl rfl ?_
    obtain ⟨r3, hr3, hf⟩ := bd_s hf
    refine sw_callV (pc' := 13) (As := []) (rest := []) cx (k_X8_advance l D a b kA cI cJ cK cS tby tlen ttok tsta tbeh tnum ttak  r3 hr3) pk_yX8_advance ml_RX8_26 ⟨rfl, rfl⟩ ⟨(Nat.le_of_ble_eq_true rfl), (Nat.le_of_ble_eq_true rfl)⟩ ⟨(Nat.le_of_ble_eq_true rfl), (Nat.le_of_ble_eq_true rfl)⟩ [0, 1] rfl rfl rfl (wn := (tm_W a b hm kA ka cI cK tby tlen r3.1 r3.2.1 r3.2.2.1 r3.2.2.2 ttak u)) rfl 0 rfl rfl rfl rfl (Nat.le_of_ble_eq_true rfl) rfl dX8_fineItem_10 rfl ?_
    refine sw_aload_n (pc' := 14) (i := 0) cx dX8_fineItem_13 rfl 0 rfl rfl ?_
    refine sw_iconst (pc' := 15) (v := 1) cx dX8_fineItem_14 iconst_1 rfl ?_
    refine sw_bipush (pc' := 17) (v := 40) cx dX8_fineItem_15 bipush_40 rfl ?_
    obtain ⟨r4, hr4, hf⟩ := bd_s hf
    refine sw_callV (pc' := 20) (As := [.int (1 : Int32), .int (40 : Int32)]) (rest := []) cx (k_X8_take l D a b kA cI cJ cK cS tby tlen r3.1 r3.2.1 r3.2.2.1 r3.2.2.2 ttak (1 : Int32) (40 : Int32) r4 hr4) pk_yX8_take ml_RX8_63 ⟨rfl, rfl⟩ ⟨(Nat.le_of_ble_eq_true rfl), (Nat.le_of_ble_eq_true rfl)⟩ ⟨(Nat.le_of_ble_eq_true rfl), (Nat.le_of_ble_eq_true rfl)⟩ [0, 1] rfl rfl rfl (wn := (tm_W a b hm kA ka cI cK tby tlen r4.2.1 r4.2.2.1 r4.2.2.2.1 r4.2.2.2.2.1 r4.2.2.2.2.2 u)) rfl 0 rfl rfl rfl rfl (Nat.le_of_ble_eq_true rfl) rfl dX8_fineItem_17 rfl ?_
    refine sw_if_ne (pc' := 23) (tgt := 25) cx dX8_fineItem_20 (by decide) rfl (fun c5 => ?_) (fun c5 => ?_)
    · replace hf := it_n c5 hf
      refine sw_aload_n (pc' := 26) (i := 0) cx dX8_fineItem_25 rfl 0 rfl rfl ?_
      refine sw_get (pc' := 29) cx in_X8 0 rfl rfl 7 (Nat.le_of_ble_eq_true rfl) fl_RX8_67 rfl dX8_fineItem_26 rfl ?_
      refine sw_istore_n (pc' := 30) (i := 3) (lv' := [(3, .int r4.2.2.2.2.2), (0, .ref a), (1, .ref (hm 0)), (2, .int a1)]) cx dX8_fineItem_29 rfl (Nat.le_of_ble_eq_true rfl) rfl rfl ?_
      refine sw_aload_n (pc' := 31) (i := 0) cx dX8_fineItem_30 rfl 1 rfl rfl ?_
      refine sw_ldcS (pc' := 33) cx 6 rfl dX8_fineItem_31 rfl ?_
      obtain ⟨r6, hr6, hf⟩ := bd_s hf
      refine sw_callV (pc' := 36) (As := [.ref (D.2.1 6)]) (rest := []) cx (k_X8_takeWord l D a b kA cI cJ cK cS tby tlen r4.2.1 r4.2.2.1 r4.2.2.2.1 r4.2.2.2.2.1 r4.2.2.2.2.2 6 r6 hr6) pk_yX8_takeWord ml_RX8_55 ⟨rfl, rfl⟩ ⟨(Nat.le_of_ble_eq_true rfl), (Nat.le_of_ble_eq_true rfl)⟩ ⟨(Nat.le_of_ble_eq_true rfl), (Nat.le_of_ble_eq_true rfl)⟩ [0, 1] rfl rfl rfl (wn := (tm_W a b hm kA ka cI cK tby tlen r6.2.1 r6.2.2.1 r6.2.2.2.1 r6.2.2.2.2 r4.2.2.2.2.2 u)) rfl 0 rfl rfl rfl rfl (Nat.le_of_ble_eq_true rfl) rfl dX8_fineItem_33 rfl ?_
      refine sw_if_eq (pc' := 39) (tgt := 49) cx dX8_fineItem_36 (by decide) rfl (fun c7 => ?_) (fun c7 => ?_)
      · replace hf := it_p c7 hf
        refine sw_iconst (pc' := 50) (v := 0) cx dX8_fineItem_49 iconst_0 rfl ?_
        obtain rfl := Option.some.inj hf
        exact sw_zret cx hr (by decide +kernel) hQ dX8_fineItem_50
      · replace hf := it_n c7 hf
        refine sw_aload_n (pc' := 40) (i := 0) cx dX8_fineItem_39 rfl 1 rfl rfl ?_
        refine sw_iconst (pc' := 41) (v := 0) cx dX8_fineItem_40 iconst_0 rfl ?_
        refine sw_bipush (pc' := 43) (v := 39) cx dX8_fineItem_41 bipush_39 rfl ?_
        obtain ⟨r8, hr8, hf⟩ := bd_s hf
        refine sw_callV (pc' := 46) (As := [.int (0 : Int32), .int (39 : Int32)]) (rest := []) cx (k_X8_take l D a b kA cI cJ cK cS tby tlen r6.2.1 r6.2.2.1 r6.2.2.2.1 r6.2.2.2.2 r4.2.2.2.2.2 (0 : Int32) (39 : Int32) r8 hr8) pk_yX8_take ml_RX8_63 ⟨rfl, rfl⟩ ⟨(Nat.le_of_ble_eq_true rfl), (Nat.le_of_ble_eq_true rfl)⟩ ⟨(Nat.le_of_ble_eq_true rfl), (Nat.le_of_ble_eq_true rfl)⟩ [0, 1] rfl rfl rfl (wn := (tm_W a b hm kA ka cI cK tby tlen r8.2.1 r8.2.2.1 r8.2.2.2.1 r8.2.2.2.2.1 r8.2.2.2.2.2 u)) rfl 0 rfl rfl rfl rfl (Nat.le_of_ble_eq_true rfl) rfl dX8_fineItem_43 rfl ?_
        refine sw_if_ne (pc' := 49) (tgt := 51) cx dX8_fineItem_46 (by decide) rfl (fun c9 => ?_) (fun c9 => ?_)
        · replace hf := it_n c9 hf
          refine sw_aload_n (pc' := 52) (i := 0) cx dX8_fineItem_51 rfl 1 rfl rfl ?_
          refine sw_get (pc' := 55) cx in_X8 0 rfl rfl 7 (Nat.le_of_ble_eq_true rfl) fl_RX8_67 rfl dX8_fineItem_52 rfl ?_
          refine sw_istore (pc' := 57) (i := 4) (lv' := [(4, .int r8.2.2.2.2.2), (3, .int r4.2.2.2.2.2), (0, .ref a), (1, .ref (hm 0)), (2, .int a1)]) cx dX8_fineItem_55 (Nat.le_of_ble_eq_true rfl) rfl rfl ?_
          refine sw_iconst (pc' := 58) (v := 3) cx dX8_fineItem_57 iconst_3 rfl ?_
          refine sw_istore (pc' := 60) (i := 5) (lv' := [(5, .int (3 : Int32)), (4, .int r8.2.2.2.2.2), (3, .int r4.2.2.2.2.2), (0, .ref a), (1, .ref (hm 0)), (2, .int a1)]) cx dX8_fineItem_58 (Nat.le_of_ble_eq_true rfl) rfl rfl ?_
          refine sw_aload_n (pc' := 61) (i := 0) cx dX8_fineItem_60 rfl 3 rfl rfl ?_
          refine sw_ldcS (pc' := 63) cx 7 rfl dX8_fineItem_61 rfl ?_
          obtain ⟨r10, hr10, hf⟩ := bd_s hf
          refine sw_callV (pc' := 66) (As := [.ref (D.2.1 7)]) (rest := []) cx (k_X8_takeWord l D a b kA cI cJ cK cS tby tlen r8.2.1 r8.2.2.1 r8.2.2.2.1 r8.2.2.2.2.1 r8.2.2.2.2.2 7 r10 hr10) pk_yX8_takeWord ml_RX8_55 ⟨rfl, rfl⟩ ⟨(Nat.le_of_ble_eq_true rfl), (Nat.le_of_ble_eq_true rfl)⟩ ⟨(Nat.le_of_ble_eq_true rfl), (Nat.le_of_ble_eq_true rfl)⟩ [0, 1] rfl rfl rfl (wn := (tm_W a b hm kA ka cI cK tby tlen r10.2.1 r10.2.2.1 r10.2.2.2.1 r10.2.2.2.2 r8.2.2.2.2.2 u)) rfl 0 rfl rfl rfl rfl (Nat.le_of_ble_eq_true rfl) rfl dX8_fineItem_63 rfl ?_
          refine sw_if_eq (pc' := 69) (tgt := 87) cx dX8_fineItem_66 (by decide) rfl (fun c11 => ?_) (fun c11 => ?_)
          · replace hf := it_p c11 hf
            exact sw_lv [4, 5, 2, 1, 0] rfl (B87 r10.2.1 r10.2.2.1 r10.2.2.2.1 r10.2.2.2.2 r8.2.2.2.2.2 u a1 r4.2.2.2.2.2 r8.2.2.2.2.2 (3 : Int32) hf)
          · replace hf := it_n c11 hf
            refine sw_aload_n (pc' := 70) (i := 0) cx dX8_fineItem_69 rfl 3 rfl rfl ?_
            refine sw_iconst (pc' := 71) (v := 1) cx dX8_fineItem_70 iconst_1 rfl ?_
            refine sw_bipush (pc' := 73) (v := 9) cx dX8_fineItem_71 bipush_9 rfl ?_
            obtain ⟨r12, hr12, hf⟩ := bd_s hf
            refine sw_callV (pc' := 76) (As := [.int (1 : Int32), .int (9 : Int32)]) (rest := []) cx (k_X8_take l D a b kA cI cJ cK cS tby tlen r10.2.1 r10.2.2.1 r10.2.2.2.1 r10.2.2.2.2 r8.2.2.2.2.2 (1 : Int32) (9 : Int32) r12 hr12) pk_yX8_take ml_RX8_63 ⟨rfl, rfl⟩ ⟨(Nat.le_of_ble_eq_true rfl), (Nat.le_of_ble_eq_true rfl)⟩ ⟨(Nat.le_of_ble_eq_true rfl), (Nat.le_of_ble_eq_true rfl)⟩ [0, 1] rfl rfl rfl (wn := (tm_W a b hm kA ka cI cK tby tlen r12.2.1 r12.2.2.1 r12.2.2.2.1 r12.2.2.2.2.1 r12.2.2.2.2.2 u)) rfl 0 rfl rfl rfl rfl (Nat.le_of_ble_eq_true rfl) rfl dX8_fineItem_73 rfl ?_
            refine sw_if_ne (pc' := 79) (tgt := 81) cx dX8_fineItem_76 (by decide) rfl (fun c13 => ?_) (fun c13 => ?_)
            · replace hf := it_n c13 hf
              refine sw_aload_n (pc' := 82) (i := 0) cx dX8_fineItem_81 rfl 3 rfl rfl ?_
              refine sw_get (pc' := 85) cx in_X8 0 rfl rfl 7 (Nat.le_of_ble_eq_true rfl) fl_RX8_67 rfl dX8_fineItem_82 rfl ?_
              refine sw_istore (pc' := 87) (i := 5) (lv' := [(5, .int r12.2.2.2.2.2), (4, .int r8.2.2.2.2.2), (3, .int r4.2.2.2.2.2), (0, .ref a), (1, .ref (hm 0)), (2, .int a1)]) cx dX8_fineItem_85 (Nat.le_of_ble_eq_true rfl) rfl rfl ?_
              exact sw_lv [4, 5, 2, 1, 0] rfl (B87 r12.2.1 r12.2.2.1 r12.2.2.2.1 r12.2.2.2.2.1 r12.2.2.2.2.2 u a1 r4.2.2.2.2.2 r8.2.2.2.2.2 r12.2.2.2.2.2 hf)
            · replace hf := it_p c13 hf
              refine sw_iconst (pc' := 80) (v := 0) cx dX8_fineItem_79 iconst_0 rfl ?_
              obtain rfl := Option.some.inj hf
              exact sw_zret cx hr (by decide +kernel) hQ dX8_fineItem_80
        · replace hf := it_p c9 hf
          refine sw_iconst (pc' := 50) (v := 0) cx dX8_fineItem_49 iconst_0 rfl ?_
          obtain rfl := Option.some.inj hf
          exact sw_zret cx hr (by decide +kernel) hQ dX8_fineItem_50
    · replace hf := it_p c5 hf
      refine sw_iconst (pc' := 24) (v := 0) cx dX8_fineItem_23 iconst_0 rfl ?_
      obtain rfl := Option.some.inj hf
      exact sw_zret cx hr (by decide +kernel) hQ dX8_fineItem_24
  · replace hf := it_n c2 hf
    refine sw_iconst (pc' := 8) (v := 0) cx dX8_fineItem_7 iconst_0 rfl ?_
    obtain rfl := Option.some.inj hf
    exact sw_zret cx hr (by decide +kernel) hQ dX8_fineItem_8
abbrev rm_X8_rockItem : Room := ({ frames := 6, cells := 0, slots := 0, locals := 128 } : Room)
set_option maxRecDepth 100000 in
set_option maxHeartbeats 4000000 in
theorem k_X8_rockItem (l : Launch) (D : sf_D) (a b : Nat) (hm : Nat → Nat) (kA : Nat) (ka : Nat → Nat) (cI cJ cK cS : ClassId) (tby : Nat → Int32) (tlen : Int32) (ttok : Int32) (tsta : Int32) (tbeh : Int32) (tnum : Int32) (ttak : Int32) (u : MtS)  (res : Int32 × Int32 × Int32 × Int32 × Int32 × Int32 × MtS) (hf : f_X8_rockItem tby tlen ttok tsta tbeh tnum ttak u = some res) : sf_Ct l yX8_rockItem cX8_rockItem 5 (some .boolean) rm_X8_rockItem D (sf_ty cI cJ cK cS) [.ref a, .ref (hm 0)] (tm_W a b hm kA ka cI cK tby tlen ttok tsta tbeh tnum ttak u) (some (.int res.1)) (tm_W a b hm kA ka cI cK tby tlen res.2.1 res.2.2.1 res.2.2.2.1 res.2.2.2.2.1 res.2.2.2.2.2.1 res.2.2.2.2.2.2) := by
  refine sf_met (lv := [(0, .ref a), (1, .ref (hm 0))]) (by decide) (Nat.le_of_ble_eq_true rfl) rfl ?_
  intro p e s m args below meth c A Q cx hr hQ
  have cx : sf_Cx p m meth c cX8_rockItem 5 s args RX8 D (sf_ty cI cJ cK cS) A := cx
  have B69 : ∀ (n : Nat), ∀ (ttok : Int32) (tsta : Int32) (tbeh : Int32) (tnum : Int32) (ttak : Int32) (u : MtS) (x3 : Int32) (x4 : Int32), f_X8_rockItem_b69 tby tlen n ttok tsta tbeh tnum ttak u x3 x4 = some res → sf_W p l e rm_X8_rockItem s m args below meth c 0 0 Q 5 D A (tm_W a b hm kA ka cI cK tby tlen ttok tsta tbeh tnum ttak u) [(0, .ref a), (1, .ref (hm 0)), (3, .int x3), (4, .int x4)] 69 [] := by
    intro n
    induction n with
    | zero => intro ttok tsta tbeh tnum ttak u x3 x4 hf; rw [f_X8_rockItem_b69] at hf; cases hf
    | succ n ih =>
      intro ttok tsta tbeh tnum ttak u x3 x4 hf
      rw [f_X8_rockItem_b69] at hf
      refine sw_iload (pc' := 71) (i := 4) cx dX8_rockItem_69 3 rfl rfl ?_
      refine sw_iload_n (pc' := 72) (i := 3) cx dX8_rockItem_71 rfl 2 rfl rfl ?_
      refine sw_icmp_gt (pc' := 75) (tgt := 99) cx dX8_rockItem_72 (by decide) rfl (fun c11 => ?_) (fun c11 => ?_)
      · replace hf := it_p c11 hf
        refine sw_iconst (pc' := 100) (v := 1) cx dX8_rockItem_99 iconst_1 rfl ?_
        obtain rfl := Option.some.inj hf
        exact sw_zret cx hr (by decide +kernel) hQ dX8_rockItem_100
      · replace hf := it_n c11 hf
        refine sw_iload (pc' := 77) (i := 4) cx dX8_rockItem_75 3 rfl rfl ?_
        refine sw_bipush (pc' := 79) (v := 40) cx dX8_rockItem_77 bipush_40 rfl ?_
        refine sw_icmp_ge (pc' := 82) (tgt := 99) cx dX8_rockItem_79 (by decide) rfl (fun c12 => ?_) (fun c12 => ?_)
        · replace hf := it_p c12 hf
          refine sw_iconst (pc' := 100) (v := 1) cx dX8_rockItem_99 iconst_1 rfl ?_
          obtain rfl := Option.some.inj hf
          exact sw_zret cx hr (by decide +kernel) hQ dX8_rockItem_100
        · replace hf := it_n c12 hf
          refine sw_aload_n (pc' := 83) (i := 1) cx dX8_rockItem_82 rfl 1 rfl rfl ?_
          refine sw_getN (pc' := 86) cx in_X4 2 rfl rfl 1 (Nat.le_of_ble_eq_true rfl) fn_RX8_94 rfl dX8_rockItem_83 rfl ?_
          refine sw_iload (pc' := 88) (i := 4) cx dX8_rockItem_86 3 rfl rfl ?_
          refine sw_aload_n (pc' := 89) (i := 0) cx dX8_rockItem_88 rfl 0 rfl rfl ?_
          refine sw_get (pc' := 92) cx in_X8 0 rfl rfl 7 (Nat.le_of_ble_eq_true rfl) fl_RX8_67 rfl dX8_rockItem_89 rfl ?_
          obtain ⟨h13, hf⟩ := gx_s hf
          refine sw_iast (pc' := 93) (ws' := (tm_W a b hm kA ka cI cK tby tlen ttok tsta tbeh tnum ttak (mt_mk (u.1 0 0) (u.1 0 1) (u.1 0 2) (u.1 0 3) (u.1 0 4) (upd (u.1 1) (x4).toNatClampNeg ttak) (u.1 2) (u.1 3) (u.1 4) (u.1 5) (u.1 6) (u.1 7) (u.1 8) (u.1 9) u.2))) cx 3 0 rfl rfl h13 dX8_rockItem_92 rfl rfl ?_
          refine sw_iinc (pc' := 96) (v := (x4 + (1 : Int32))) (lv' := [(4, .int (x4 + (1 : Int32))), (0, .ref a), (1, .ref (hm 0)), (3, .int x3)]) cx dX8_rockItem_93 3 rfl rfl (Nat.le_of_ble_eq_true rfl) rfl rfl ?_
          refine sw_goto (tgt := 69) cx dX8_rockItem_96 (by decide) ?_
          exact sw_lv [1, 2, 3, 0] rfl (ih ttok tsta tbeh tnum ttak (mt_mk (u.1 0 0) (u.1 0 1) (u.1 0 2) (u.1 0 3) (u.1 0 4) (upd (u.1 1) (x4).toNatClampNeg ttak) (u.1 2) (u.1 3) (u.1 4) (u.1 5) (u.1 6) (u.1 7) (u.1 8) (u.1 9) u.2) x3 (x4 + (1 : Int32)) hf)
  have B45 : ∀ (ttok : Int32) (tsta : Int32) (tbeh : Int32) (tnum : Int32) (ttak : Int32) (u : MtS) (x2 : Int32) (x3 : Int32), f_X8_rockItem_b45 tby tlen ttok tsta tbeh tnum ttak u x2 x3 = some res → sf_W p l e rm_X8_rockItem s m args below meth c 0 0 Q 5 D A (tm_W a b hm kA ka cI cK tby tlen ttok tsta tbeh tnum ttak u) [(0, .ref a), (1, .ref (hm 0)), (2, .int x2), (3, .int x3)] 45 [] := by
    intro ttok tsta tbeh tnum ttak u x2 x3 hf
    unfold f_X8_rockItem_b45 at hf
    refine sw_aload_n (pc' := 46) (i := 0) cx dX8_rockItem_45 rfl 0 rfl rfl ?_
    refine sw_ldcS (pc' := 48) cx 10 rfl dX8_rockItem_46 rfl ?_
    obtain ⟨r7, hr7, hf⟩ := bd_s hf
    refine sw_callV (pc' := 51) (As := [.ref (D.2.1 10)]) (rest := []) cx (k_X8_takeWord l D a b kA cI cJ cK cS tby tlen ttok tsta tbeh tnum ttak 10 r7 hr7) pk_yX8_takeWord ml_RX8_55 ⟨rfl, rfl⟩ ⟨(Nat.le_of_ble_eq_true rfl), (Nat.le_of_ble_eq_true rfl)⟩ ⟨(Nat.le_of_ble_eq_true rfl), (Nat.le_of_ble_eq_true rfl)⟩ [0, 1] rfl rfl rfl (wn := (tm_W a b hm kA ka cI cK tby tlen r7.2.1 r7.2.2.1 r7.2.2.2.1 r7.2.2.2.2 ttak u)) rfl 0 rfl rfl rfl rfl (Nat.le_of_ble_eq_true rfl) rfl dX8_rockItem_48 rfl ?_
    refine sw_if_eq (pc' := 54) (tgt := 64) cx dX8_rockItem_51 (by decide) rfl (fun c8 => ?_) (fun c8 => ?_)
    · replace hf := it_p c8 hf
      refine sw_iconst (pc' := 65) (v := 0) cx dX8_rockItem_64 iconst_0 rfl ?_
      obtain rfl := Option.some.inj hf
      exact sw_zret cx hr (by decide +kernel) hQ dX8_rockItem_65
    · replace hf := it_n c8 hf
      refine sw_aload_n (pc' := 55) (i := 0) cx dX8_rockItem_54 rfl 0 rfl rfl ?_
      refine sw_iconst (pc' := 56) (v := 1) cx dX8_rockItem_55 iconst_1 rfl ?_
      refine sw_bipush (pc' := 58) (v := 9) cx dX8_rockItem_56 bipush_9 rfl ?_
      obtain ⟨r9, hr9, hf⟩ := bd_s hf
      refine sw_callV (pc' := 61) (As := [.int (1 : Int32), .int (9 : Int32)]) (rest := []) cx (k_X8_take l D a b kA cI cJ cK cS tby tlen r7.2.1 r7.2.2.1 r7.2.2.2.1 r7.2.2.2.2 ttak (1 : Int32) (9 : Int32) r9 hr9) pk_yX8_take ml_RX8_63 ⟨rfl, rfl⟩ ⟨(Nat.le_of_ble_eq_true rfl), (Nat.le_of_ble_eq_true rfl)⟩ ⟨(Nat.le_of_ble_eq_true rfl), (Nat.le_of_ble_eq_true rfl)⟩ [0, 1] rfl rfl rfl (wn := (tm_W a b hm kA ka cI cK tby tlen r9.2.1 r9.2.2.1 r9.2.2.2.1 r9.2.2.2.2.1 r9.2.2.2.2.2 u)) rfl 0 rfl rfl rfl rfl (Nat.le_of_ble_eq_true rfl) rfl dX8_rockItem_58 rfl ?_
      refine sw_if_ne (pc' := 64) (tgt := 66) cx dX8_rockItem_61 (by decide) rfl (fun c10 => ?_) (fun c10 => ?_)
      · replace hf := it_n c10 hf
        refine sw_iload_n (pc' := 67) (i := 2) cx dX8_rockItem_66 rfl 2 rfl rfl ?_
        refine sw_istore (pc' := 69) (i := 4) (lv' := [(4, .int x2), (0, .ref a), (1, .ref (hm 0)), (2, .int x2), (3, .int x3)]) cx dX8_rockItem_67 (Nat.le_of_ble_eq_true rfl) rfl rfl ?_
        exact sw_lv [1, 2, 4, 0] rfl (B69 1000 r9.2.1 r9.2.2.1 r9.2.2.2.1 r9.2.2.2.2.1 r9.2.2.2.2.2 u x3 x2 hf)
      · replace hf := it_p c10 hf
        refine sw_iconst (pc' := 65) (v := 0) cx dX8_rockItem_64 iconst_0 rfl ?_
        obtain rfl := Option.some.inj hf
        exact sw_zret cx hr (by decide +kernel) hQ dX8_rockItem_65
  unfold f_X8_rockItem at hf
  refine sw_aload_n (pc' := 1) (i := 0) cx dX8_rockItem_0 rfl 0 rfl rfl ?_
  refine sw_iconst (pc' := 2) (v := 0) cx dX8_rockItem_1 iconst_0 rfl ?_
  refine sw_bipush (pc' := 4) (v := 39) cx dX8_rockItem_2 bipush_39 rfl ?_
  obtain ⟨r1, hr1, hf⟩ := bd_s hf
  refine sw_callV (pc' := 7) (As := [.int (0 : Int32), .int (39 : Int32)]) (rest := []) cx (k_X8_take l D a b kA cI cJ cK cS tby tlen ttok tsta tbeh tnum ttak (0 : Int32) (39 : Int32) r1 hr1) pk_yX8_take ml_RX8_63 ⟨rfl, rfl⟩ ⟨(Nat.le_of_ble_eq_true rfl), (Nat.le_of_ble_eq_true rfl)⟩ ⟨(Nat.le_of_ble_eq_true rfl), (Nat.le_of_ble_eq_true rfl)⟩ [0, 1] rfl rfl rfl (wn := (tm_W a b hm kA ka cI cK tby tlen r1.2.1 r1.2.2.1 r1.2.2.2.1 r1.2.2.2.2.1 r1.2.2.2.2.2 u)) rfl 0 rfl rfl rfl rfl (Nat.le_of_ble_eq_true rfl) rfl dX8_rockItem_4 rfl ?_
  refine sw_if_ne (pc' := 10) (tgt := 12) cx dX8_rockItem_7 (by decide) rfl (fun c2 => ?_) (fun c2 => ?_)
  · replace hf := it_n c2 hf
    refine sw_aload_n (pc' := 13) (i := 0) cx dX8_rockItem_12 rfl 0 rfl rfl ?_
    refine sw_get (pc' := 16) cx in_X8 0 rfl rfl 7 (Nat.le_of_ble_eq_true rfl) fl_RX8_67 rfl dX8_rockItem_13 rfl ?_
    refine sw_istore_n (pc' := 17) (i := 2) (lv' := [(2, .int r1.2.2.2.2.2), (0, .ref a), (1, .ref (hm 0))]) cx dX8_rockItem_16 rfl (Nat.le_of_ble_eq_true rfl) rfl rfl ?_
    refine sw_iload_n (pc' := 18) (i := 2) cx dX8_rockItem_17 rfl 0 rfl rfl ?_
    refine sw_istore_n (pc' := 19) (i := 3) (lv' := [(3, .int r1.2.2.2.2.2), (2, .int r1.2.2.2.2.2), (0, .ref a), (1, .ref (hm 0))]) cx dX8_rockItem_18 rfl (Nat.le_of_ble_eq_true rfl) rfl rfl ?_
    refine sw_aload_n (pc' := 20) (i := 0) cx dX8_rockItem_19 rfl 2 rfl rfl ?_
    refine sw_ldcS (pc' := 22) cx 9 rfl dX8_rockItem_20 rfl ?_
    obtain ⟨r3, hr3, hf⟩ := bd_s hf
    refine sw_callV (pc' := 25) (As := [.ref (D.2.1 9)]) (rest := []) cx (k_X8_takeWord l D a b kA cI cJ cK cS tby tlen r1.2.1 r1.2.2.1 r1.2.2.2.1 r1.2.2.2.2.1 r1.2.2.2.2.2 9 r3 hr3) pk_yX8_takeWord ml_RX8_55 ⟨rfl, rfl⟩ ⟨(Nat.le_of_ble_eq_true rfl), (Nat.le_of_ble_eq_true rfl)⟩ ⟨(Nat.le_of_ble_eq_true rfl), (Nat.le_of_ble_eq_true rfl)⟩ [0, 1] rfl rfl rfl (wn := (tm_W a b hm kA ka cI cK tby tlen r3.2.1 r3.2.2.1 r3.2.2.2.1 r3.2.2.2.2 r1.2.2.2.2.2 u)) rfl 0 rfl rfl rfl rfl (Nat.le_of_ble_eq_true rfl) rfl dX8_rockItem_22 rfl ?_
    refine sw_if_eq (pc' := 28) (tgt := 45) cx dX8_rockItem_25 (by decide) rfl (fun c4 => ?_) (fun c4 => ?_)
    · replace hf := it_p c4 hf
      exact sw_lv [2, 3, 1, 0] rfl (B45 r3.2.1 r3.2.2.1 r3.2.2.2.1 r3.2.2.2.2 r1.2.2.2.2.2 u r1.2.2.2.2.2 r1.2.2.2.2.2 hf)
    · replace hf := it_n c4 hf
      refine sw_aload_n (pc' := 29) (i := 0) cx dX8_rockItem_28 rfl 2 rfl rfl ?_
      refine sw_iload_n (pc' := 30) (i := 2) cx dX8_rockItem_29 rfl 1 rfl rfl ?_
      refine sw_bipush (pc' := 32) (v := 39) cx dX8_rockItem_30 bipush_39 rfl ?_
      obtain ⟨r5, hr5, hf⟩ := bd_s hf
      refine sw_callV (pc' := 35) (As := [.int r1.2.2.2.2.2, .int (39 : Int32)]) (rest := []) cx (k_X8_take l D a b kA cI cJ cK cS tby tlen r3.2.1 r3.2.2.1 r3.2.2.2.1 r3.2.2.2.2 r1.2.2.2.2.2 r1.2.2.2.2.2 (39 : Int32) r5 hr5) pk_yX8_take ml_RX8_63 ⟨rfl, rfl⟩ ⟨(Nat.le_of_ble_eq_true rfl), (Nat.le_of_ble_eq_true rfl)⟩ ⟨(Nat.le_of_ble_eq_true rfl), (Nat.le_of_ble_eq_true rfl)⟩ [0, 1] rfl rfl rfl (wn := (tm_W a b hm kA ka cI cK tby tlen r5.2.1 r5.2.2.1 r5.2.2.2.1 r5.2.2.2.2.1 r5.2.2.2.2.2 u)) rfl 0 rfl rfl rfl rfl (Nat.le_of_ble_eq_true rfl) rfl dX8_rockItem_32 rfl ?_
      refine sw_if_ne (pc' := 38) (tgt := 40) cx dX8_rockItem_35 (by decide) rfl (fun c6 => ?_) (fun c6 => ?_)
      · replace hf := it_n c6 hf
        refine sw_aload_n (pc' := 41) (i := 0) cx dX8_rockItem_40 rfl 2 rfl rfl ?_
        refine sw_get (pc' := 44) cx in_X8 0 rfl rfl 7 (Nat.le_of_ble_eq_true rfl) fl_RX8_67 rfl dX8_rockItem_41 rfl ?_
        refine sw_istore_n (pc' := 45) (i := 3) (lv' := [(3, .int r5.2.2.2.2.2), (2, .int r1.2.2.2.2.2), (0, .ref a), (1, .ref (hm 0))]) cx dX8_rockItem_44 rfl (Nat.le_of_ble_eq_true rfl) rfl rfl ?_
        exact sw_lv [2, 3, 1, 0] rfl (B45 r5.2.1 r5.2.2.1 r5.2.2.2.1 r5.2.2.2.2.1 r5.2.2.2.2.2 u r1.2.2.2.2.2 r5.2.2.2.2.2 hf)
      · replace hf := it_p c6 hf
        refine sw_iconst (pc' := 39) (v := 0) cx dX8_rockItem_38 iconst_0 rfl ?_
        obtain rfl := Option.some.inj hf
        exact sw_zret cx hr (by decide +kernel) hQ dX8_rockItem_39
  · replace hf := it_p c2 hf
    refine sw_iconst (pc' := 11) (v := 0) cx dX8_rockItem_10 iconst_0 rfl ?_
    obtain rfl := Option.some.inj hf
    exact sw_zret cx hr (by decide +kernel) hQ dX8_rockItem_11
abbrev rm_X8_item : Room := ({ frames := 7, cells := 0, slots := 0, locals := 153 } : Room)
set_option maxRecDepth 100000 in
set_option maxHeartbeats 4000000 in
theorem k_X8_item (l : Launch) (D : sf_D) (a b : Nat) (hm : Nat → Nat) (kA : Nat) (ka : Nat → Nat) (cI cJ cK cS : ClassId) (tby : Nat → Int32) (tlen : Int32) (ttok : Int32) (tsta : Int32) (tbeh : Int32) (tnum : Int32) (ttak : Int32) (u : MtS)  (res : Int32 × Int32 × Int32 × Int32 × Int32 × Int32 × MtS) (hf : f_X8_item tby tlen ttok tsta tbeh tnum ttak u = some res) : sf_Ct l yX8_item cX8_item 3 (some .boolean) rm_X8_item D (sf_ty cI cJ cK cS) [.ref a, .ref (hm 0)] (tm_W a b hm kA ka cI cK tby tlen ttok tsta tbeh tnum ttak u) (some (.int res.1)) (tm_W a b hm kA ka cI cK tby tlen res.2.1 res.2.2.1 res.2.2.2.1 res.2.2.2.2.1 res.2.2.2.2.2.1 res.2.2.2.2.2.2) := by
  refine sf_met (lv := [(0, .ref a), (1, .ref (hm 0))]) (by decide) (Nat.le_of_ble_eq_true rfl) rfl ?_
  intro p e s m args below meth c A Q cx hr hQ
  have cx : sf_Cx p m meth c cX8_item 3 s args RX8 D (sf_ty cI cJ cK cS) A := cx
  have B2 : ∀ (n : Nat), ∀ (ttok : Int32) (tsta : Int32) (tbeh : Int32) (tnum : Int32) (ttak : Int32) (u : MtS) (x2 : Int32), f_X8_item_b2 tby tlen n ttok tsta tbeh tnum ttak u x2 = some res → sf_W p l e rm_X8_item s m args below meth c 0 0 Q 3 D A (tm_W a b hm kA ka cI cK tby tlen ttok tsta tbeh tnum ttak u) [(0, .ref a), (1, .ref (hm 0)), (2, .int x2)] 2 [] := by
    intro n
    induction n with
    | zero => intro ttok tsta tbeh tnum ttak u x2 hf; rw [f_X8_item_b2] at hf; cases hf
    | succ n ih =>
      intro ttok tsta tbeh tnum ttak u x2 hf
      rw [f_X8_item_b2] at hf
      refine sw_iload_n (pc' := 3) (i := 2) cx dX8_item_2 rfl 2 rfl rfl ?_
      refine sw_bipush (pc' := 5) (v := 6) cx dX8_item_3 bipush_6 rfl ?_
      refine sw_icmp_ge (pc' := 8) (tgt := 37) cx dX8_item_5 (by decide) rfl (fun c1 => ?_) (fun c1 => ?_)
      · replace hf := it_p c1 hf
        refine sw_aload_n (pc' := 38) (i := 0) cx dX8_item_37 rfl 0 rfl rfl ?_
        refine sw_ldcS (pc' := 40) cx 8 rfl dX8_item_38 rfl ?_
        obtain ⟨r2, hr2, hf⟩ := bd_s hf
        refine sw_callV (pc' := 43) (As := [.ref (D.2.1 8)]) (rest := []) cx (k_X8_takeWord l D a b kA cI cJ cK cS tby tlen ttok tsta tbeh tnum ttak 8 r2 hr2) pk_yX8_takeWord ml_RX8_55 ⟨rfl, rfl⟩ ⟨(Nat.le_of_ble_eq_true rfl), (Nat.le_of_ble_eq_true rfl)⟩ ⟨(Nat.le_of_ble_eq_true rfl), (Nat.le_of_ble_eq_true rfl)⟩ [0, 1] rfl rfl rfl (wn := (tm_W a b hm kA ka cI cK tby tlen r2.2.1 r2.2.2.1 r2.2.2.2.1 r2.2.2.2.2 ttak u)) rfl 0 rfl rfl rfl rfl (Nat.le_of_ble_eq_true rfl) rfl dX8_item_40 rfl ?_
        refine sw_if_eq (pc' := 46) (tgt := 52) cx dX8_item_43 (by decide) rfl (fun c3 => ?_) (fun c3 => ?_)
        · replace hf := it_p c3 hf
          refine sw_aload_n (pc' := 53) (i := 0) cx dX8_item_52 rfl 0 rfl rfl ?_
          refine sw_ldcS (pc' := 55) cx 11 rfl dX8_item_53 rfl ?_
          obtain ⟨r4, hr4, hf⟩ := bd_s hf
          refine sw_callV (pc' := 58) (As := [.ref (D.2.1 11)]) (rest := []) cx (k_X8_takeWord l D a b kA cI cJ cK cS tby tlen r2.2.1 r2.2.2.1 r2.2.2.2.1 r2.2.2.2.2 ttak 11 r4 hr4) pk_yX8_takeWord ml_RX8_55 ⟨rfl, rfl⟩ ⟨(Nat.le_of_ble_eq_true rfl), (Nat.le_of_ble_eq_true rfl)⟩ ⟨(Nat.le_of_ble_eq_true rfl), (Nat.le_of_ble_eq_true rfl)⟩ [0, 1] rfl rfl rfl (wn := (tm_W a b hm kA ka cI cK tby tlen r4.2.1 r4.2.2.1 r4.2.2.2.1 r4.2.2.2.2 ttak u)) rfl 0 rfl rfl rfl rfl (Nat.le_of_ble_eq_true rfl) rfl dX8_item_55 rfl ?_
          refine sw_if_eq (pc' := 61) (tgt := 83) cx dX8_item_58 (by decide) rfl (fun c5 => ?_) (fun c5 => ?_)
          · replace hf := it_p c5 hf
            refine sw_aload_n (pc' := 84) (i := 0) cx dX8_item_83 rfl 0 rfl rfl ?_
            refine sw_ldcS (pc' := 86) cx 12 rfl dX8_item_84 rfl ?_
            obtain ⟨r6, hr6, hf⟩ := bd_s hf
            refine sw_callV (pc' := 89) (As := [.ref (D.2.1 12)]) (rest := []) cx (k_X8_takeWord l D a b kA cI cJ cK cS tby tlen r4.2.1 r4.2.2.1 r4.2.2.2.1 r4.2.2.2.2 ttak 12 r6 hr6) pk_yX8_takeWord ml_RX8_55 ⟨rfl, rfl⟩ ⟨(Nat.le_of_ble_eq_true rfl), (Nat.le_of_ble_eq_true rfl)⟩ ⟨(Nat.le_of_ble_eq_true rfl), (Nat.le_of_ble_eq_true rfl)⟩ [0, 1] rfl rfl rfl (wn := (tm_W a b hm kA ka cI cK tby tlen r6.2.1 r6.2.2.1 r6.2.2.2.1 r6.2.2.2.2 ttak u)) rfl 0 rfl rfl rfl rfl (Nat.le_of_ble_eq_true rfl) rfl dX8_item_86 rfl ?_
            refine sw_if_eq (pc' := 92) (tgt := 114) cx dX8_item_89 (by decide) rfl (fun c7 => ?_) (fun c7 => ?_)
            · replace hf := it_p c7 hf
              refine sw_iconst (pc' := 115) (v := 0) cx dX8_item_114 iconst_0 rfl ?_
              obtain rfl := Option.some.inj hf
              exact sw_zret cx hr (by decide +kernel) hQ dX8_item_115
            · replace hf := it_n c7 hf
              refine sw_aload_n (pc' := 93) (i := 0) cx dX8_item_92 rfl 0 rfl rfl ?_
              refine sw_iconst (pc' := 94) (v := 0) cx dX8_item_93 iconst_0 rfl ?_
              refine sw_bipush (pc' := 96) (v := 20) cx dX8_item_94 bipush_20 rfl ?_
              obtain ⟨r8, hr8, hf⟩ := bd_s hf
              refine sw_callV (pc' := 99) (As := [.int (0 : Int32), .int (20 : Int32)]) (rest := []) cx (k_X8_take l D a b kA cI cJ cK cS tby tlen r6.2.1 r6.2.2.1 r6.2.2.2.1 r6.2.2.2.2 ttak (0 : Int32) (20 : Int32) r8 hr8) pk_yX8_take ml_RX8_63 ⟨rfl, rfl⟩ ⟨(Nat.le_of_ble_eq_true rfl), (Nat.le_of_ble_eq_true rfl)⟩ ⟨(Nat.le_of_ble_eq_true rfl), (Nat.le_of_ble_eq_true rfl)⟩ [0, 1] rfl rfl rfl (wn := (tm_W a b hm kA ka cI cK tby tlen r8.2.1 r8.2.2.1 r8.2.2.2.1 r8.2.2.2.2.1 r8.2.2.2.2.2 u)) rfl 0 rfl rfl rfl rfl (Nat.le_of_ble_eq_true rfl) rfl dX8_item_96 rfl ?_
              refine sw_if_ne (pc' := 102) (tgt := 104) cx dX8_item_99 (by decide) rfl (fun c9 => ?_) (fun c9 => ?_)
              · replace hf := it_n c9 hf
                refine sw_aload_n (pc' := 105) (i := 1) cx dX8_item_104 rfl 1 rfl rfl ?_
                refine sw_aload_n (pc' := 106) (i := 0) cx dX8_item_105 rfl 0 rfl rfl ?_
                refine sw_get (pc' := 109) cx in_X8 0 rfl rfl 7 (Nat.le_of_ble_eq_true rfl) fl_RX8_67 rfl dX8_item_106 rfl ?_
                refine sw_putN (pc' := 112) (ws' := (tm_W a b hm kA ka cI cK tby tlen r8.2.1 r8.2.2.1 r8.2.2.2.1 r8.2.2.2.2.1 r8.2.2.2.2.2 (mt_mk (u.1 0 0) (u.1 0 1) r8.2.2.2.2.2 (u.1 0 3) (u.1 0 4) (u.1 1) (u.1 2) (u.1 3) (u.1 4) (u.1 5) (u.1 6) (u.1 7) (u.1 8) (u.1 9) u.2))) cx in_X4 tyX4 tyX4_ok nmX4 2 rfl rfl 8 (Nat.le_of_ble_eq_true rfl) fn_RX8_76 rfl rfl rfl (Nat.le_of_ble_eq_true rfl) dX8_item_109 rfl rfl ?_
                refine sw_iconst (pc' := 113) (v := 1) cx dX8_item_112 iconst_1 rfl ?_
                obtain rfl := Option.some.inj hf
                exact sw_zret cx hr (by decide +kernel) hQ dX8_item_113
              · replace hf := it_p c9 hf
                refine sw_iconst (pc' := 103) (v := 0) cx dX8_item_102 iconst_0 rfl ?_
                obtain rfl := Option.some.inj hf
                exact sw_zret cx hr (by decide +kernel) hQ dX8_item_103
          · replace hf := it_n c5 hf
            refine sw_aload_n (pc' := 62) (i := 0) cx dX8_item_61 rfl 0 rfl rfl ?_
            refine sw_iconst (pc' := 63) (v := 0) cx dX8_item_62 iconst_0 rfl ?_
            refine sw_bipush (pc' := 65) (v := 9) cx dX8_item_63 bipush_9 rfl ?_
            obtain ⟨r10, hr10, hf⟩ := bd_s hf
            refine sw_callV (pc' := 68) (As := [.int (0 : Int32), .int (9 : Int32)]) (rest := []) cx (k_X8_take l D a b kA cI cJ cK cS tby tlen r4.2.1 r4.2.2.1 r4.2.2.2.1 r4.2.2.2.2 ttak (0 : Int32) (9 : Int32) r10 hr10) pk_yX8_take ml_RX8_63 ⟨rfl, rfl⟩ ⟨(Nat.le_of_ble_eq_true rfl), (Nat.le_of_ble_eq_true rfl)⟩ ⟨(Nat.le_of_ble_eq_true rfl), (Nat.le_of_ble_eq_true rfl)⟩ [0, 1] rfl rfl rfl (wn := (tm_W a b hm kA ka cI cK tby tlen r10.2.1 r10.2.2.1 r10.2.2.2.1 r10.2.2.2.2.1 r10.2.2.2.2.2 u)) rfl 0 rfl rfl rfl rfl (Nat.le_of_ble_eq_true rfl) rfl dX8_item_65 rfl ?_
            refine sw_if_ne (pc' := 71) (tgt := 73) cx dX8_item_68 (by decide) rfl (fun c11 => ?_) (fun c11 => ?_)
            · replace hf := it_n c11 hf
              refine sw_aload_n (pc' := 74) (i := 1) cx dX8_item_73 rfl 1 rfl rfl ?_
              refine sw_aload_n (pc' := 75) (i := 0) cx dX8_item_74 rfl 0 rfl rfl ?_
              refine sw_get (pc' := 78) cx in_X8 0 rfl rfl 7 (Nat.le_of_ble_eq_true rfl) fl_RX8_67 rfl dX8_item_75 rfl ?_
              refine sw_putN (pc' := 81) (ws' := (tm_W a b hm kA ka cI cK tby tlen r10.2.1 r10.2.2.1 r10.2.2.2.1 r10.2.2.2.2.1 r10.2.2.2.2.2 (mt_mk (u.1 0 0) r10.2.2.2.2.2 (u.1 0 2) (u.1 0 3) (u.1 0 4) (u.1 1) (u.1 2) (u.1 3) (u.1 4) (u.1 5) (u.1 6) (u.1 7) (u.1 8) (u.1 9) u.2))) cx in_X4 tyX4 tyX4_ok nmX4 2 rfl rfl 7 (Nat.le_of_ble_eq_true rfl) fn_RX8_70 rfl rfl rfl (Nat.le_of_ble_eq_true rfl) dX8_item_78 rfl rfl ?_
              refine sw_iconst (pc' := 82) (v := 1) cx dX8_item_81 iconst_1 rfl ?_
              obtain rfl := Option.some.inj hf
              exact sw_zret cx hr (by decide +kernel) hQ dX8_item_82
            · replace hf := it_p c11 hf
              refine sw_iconst (pc' := 72) (v := 0) cx dX8_item_71 iconst_0 rfl ?_
              obtain rfl := Option.some.inj hf
              exact sw_zret cx hr (by decide +kernel) hQ dX8_item_72
        · replace hf := it_n c3 hf
          refine sw_aload_n (pc' := 47) (i := 0) cx dX8_item_46 rfl 0 rfl rfl ?_
          refine sw_aload_n (pc' := 48) (i := 1) cx dX8_item_47 rfl 1 rfl rfl ?_
          obtain ⟨r12, hr12, hf⟩ := bd_s hf
          refine sw_callVw (pc' := 51) (As := [.ref (hm 0)]) (rest := []) (w' := (tm_W a b hm kA ka cI cK tby tlen r12.2.1 r12.2.2.1 r12.2.2.2.1 r12.2.2.2.2.1 r12.2.2.2.2.2.1 r12.2.2.2.2.2.2)) cx (k_X8_rockItem l D a b hm kA ka cI cJ cK cS tby tlen r2.2.1 r2.2.2.1 r2.2.2.2.1 r2.2.2.2.2 ttak u  r12 hr12) pk_yX8_rockItem ml_RX8_58 ⟨rfl, rfl⟩ ⟨(Nat.le_of_ble_eq_true rfl), (Nat.le_of_ble_eq_true rfl)⟩ ⟨(Nat.le_of_ble_eq_true rfl), (Nat.le_of_ble_eq_true rfl)⟩ 0 rfl rfl rfl rfl (Nat.le_of_ble_eq_true rfl) rfl dX8_item_48 rfl ?_
          obtain ⟨h13, hf⟩ := gb_s hf
          obtain rfl := Option.some.inj hf
          exact sw_zret cx hr h13.1 hQ dX8_item_51
      · replace hf := it_n c1 hf
        refine sw_aload_n (pc' := 9) (i := 0) cx dX8_item_8 rfl 0 rfl rfl ?_
        refine sw_aload_n (pc' := 10) (i := 0) cx dX8_item_9 rfl 0 rfl rfl ?_
        refine sw_get (pc' := 13) cx in_X8 0 rfl rfl 0 (Nat.le_of_ble_eq_true rfl) fl_RX8_15 rfl dX8_item_10 rfl ?_
        refine sw_iload_n (pc' := 14) (i := 2) cx dX8_item_13 rfl 2 rfl rfl ?_
        obtain ⟨h14, hf⟩ := gx_s hf
        refine sw_aaldS (pc' := 15) cx 12 2 rfl rfl h14 dX8_item_14 rfl ?_
        obtain ⟨h15, hf⟩ := gk_s hf
        obtain ⟨r16, hr16, hf⟩ := bd_s hf
        refine sw_kname (pc' := 18) (rest := [.ref a]) cx 13 (tm_kat _ _ _ _ _ _ _ _ _ _ _ _ _ _ _) (x2).toNatClampNeg h15 hr16 (Nat.le_of_ble_eq_true rfl) (Nat.le_of_ble_eq_true rfl) ⟨(Nat.le_of_ble_eq_true rfl), (Nat.le_of_ble_eq_true rfl)⟩ (Nat.le_of_ble_eq_true rfl) dX8_item_15 rfl ?_
        obtain ⟨r17, hr17, hf⟩ := bd_s hf
        refine sw_callV (pc' := 21) (As := [.ref (D.2.1 r16)]) (rest := []) cx (k_X8_isWord l D a b kA cI cJ cK cS tby tlen ttok tsta tbeh tnum ttak r16 r17 hr17) pk_yX8_isWord ml_RX8_45 ⟨rfl, rfl⟩ ⟨(Nat.le_of_ble_eq_true rfl), (Nat.le_of_ble_eq_true rfl)⟩ ⟨(Nat.le_of_ble_eq_true rfl), (Nat.le_of_ble_eq_true rfl)⟩ [0, 1] rfl rfl rfl (wn := (tm_W a b hm kA ka cI cK tby tlen ttok tsta tbeh tnum ttak u)) rfl 0 rfl rfl rfl rfl (Nat.le_of_ble_eq_true rfl) rfl dX8_item_18 rfl ?_
        refine sw_if_eq (pc' := 24) (tgt := 31) cx dX8_item_21 (by decide) rfl (fun c18 => ?_) (fun c18 => ?_)
        · replace hf := it_p c18 hf
          refine sw_iinc (pc' := 34) (v := (x2 + (1 : Int32))) (lv' := [(2, .int (x2 + (1 : Int32))), (0, .ref a), (1, .ref (hm 0))]) cx dX8_item_31 2 rfl rfl (Nat.le_of_ble_eq_true rfl) rfl rfl ?_
          refine sw_goto (tgt := 2) cx dX8_item_34 (by decide) ?_
          exact sw_lv [1, 2, 0] rfl (ih ttok tsta tbeh tnum ttak u (x2 + (1 : Int32)) hf)
        · replace hf := it_n c18 hf
          refine sw_aload_n (pc' := 25) (i := 0) cx dX8_item_24 rfl 0 rfl rfl ?_
          refine sw_aload_n (pc' := 26) (i := 1) cx dX8_item_25 rfl 1 rfl rfl ?_
          refine sw_iload_n (pc' := 27) (i := 2) cx dX8_item_26 rfl 2 rfl rfl ?_
          obtain ⟨r19, hr19, hf⟩ := bd_s hf
          refine sw_callVw (pc' := 30) (As := [.ref (hm 0), .int x2]) (rest := []) (w' := (tm_W a b hm kA ka cI cK tby tlen r19.2.1 r19.2.2.1 r19.2.2.2.1 r19.2.2.2.2.1 r19.2.2.2.2.2.1 r19.2.2.2.2.2.2)) cx (k_X8_fineItem l D a b hm kA ka cI cJ cK cS tby tlen ttok tsta tbeh tnum ttak u x2 r19 hr19) pk_yX8_fineItem ml_RX8_49 ⟨rfl, rfl⟩ ⟨(Nat.le_of_ble_eq_true rfl), (Nat.le_of_ble_eq_true rfl)⟩ ⟨(Nat.le_of_ble_eq_true rfl), (Nat.le_of_ble_eq_true rfl)⟩ 0 rfl rfl rfl rfl (Nat.le_of_ble_eq_true rfl) rfl dX8_item_27 rfl ?_
          obtain ⟨h20, hf⟩ := gb_s hf
          obtain rfl := Option.some.inj hf
          exact sw_zret cx hr h20.1 hQ dX8_item_30
  unfold f_X8_item at hf
  refine sw_iconst (pc' := 1) (v := 0) cx dX8_item_0 iconst_0 rfl ?_
  refine sw_istore_n (pc' := 2) (i := 2) (lv' := [(2, .int (0 : Int32)), (0, .ref a), (1, .ref (hm 0))]) cx dX8_item_1 rfl (Nat.le_of_ble_eq_true rfl) rfl rfl ?_
  exact sw_lv [1, 2, 0] rfl (B2 1000 ttok tsta tbeh tnum ttak u (0 : Int32) hf)
abbrev rm_X8_tell : Room := ({ frames := 8, cells := 0, slots := 0, locals := 175 } : Room)
set_option maxRecDepth 100000 in
set_option maxHeartbeats 4000000 in
theorem k_X8_tell (l : Launch) (D : sf_D) (a b : Nat) (hm : Nat → Nat) (kA : Nat) (ka : Nat → Nat) (cI cJ cK cS : ClassId) (tby : Nat → Int32) (tlen : Int32) (ttok : Int32) (tsta : Int32) (tbeh : Int32) (tnum : Int32) (ttak : Int32) (u : MtS)  (res : Int32 × Int32 × Int32 × Int32 × Int32 × Int32 × MtS) (hf : f_X8_tell tby tlen ttok tsta tbeh tnum ttak u = some res) : sf_Ct l yX8_tell cX8_tell 3 (some .int) rm_X8_tell D (sf_ty cI cJ cK cS) [.ref a, .ref (hm 0)] (tm_W a b hm kA ka cI cK tby tlen ttok tsta tbeh tnum ttak u) (some (.int res.1)) (tm_W a b hm kA ka cI cK tby tlen res.2.1 res.2.2.1 res.2.2.2.1 res.2.2.2.2.1 res.2.2.2.2.2.1 res.2.2.2.2.2.2) := by
  refine sf_met (lv := [(0, .ref a), (1, .ref (hm 0))]) (by decide) (Nat.le_of_ble_eq_true rfl) rfl ?_
  intro p e s m args below meth c A Q cx hr hQ
  have cx : sf_Cx p m meth c cX8_tell 3 s args RX8 D (sf_ty cI cJ cK cS) A := cx
  have B11 : ∀ (n : Nat), ∀ (ttok : Int32) (tsta : Int32) (tbeh : Int32) (tnum : Int32) (ttak : Int32) (u : MtS) (x2 : Int32), f_X8_tell_b11 tby tlen n ttok tsta tbeh tnum ttak u x2 = some res → sf_W p l e rm_X8_tell s m args below meth c 0 0 Q 3 D A (tm_W a b hm kA ka cI cK tby tlen ttok tsta tbeh tnum ttak u) [(0, .ref a), (1, .ref (hm 0)), (2, .int x2)] 11 [] := by
    intro n
    induction n with
    | zero => intro ttok tsta tbeh tnum ttak u x2 hf; rw [f_X8_tell_b11] at hf; cases hf
    | succ n ih =>
      intro ttok tsta tbeh tnum ttak u x2 hf
      rw [f_X8_tell_b11] at hf
      refine sw_iload_n (pc' := 12) (i := 2) cx dX8_tell_11 rfl 2 rfl rfl ?_
      refine sw_bipush (pc' := 14) (v := 120) cx dX8_tell_12 bipush_120 rfl ?_
      refine sw_icmp_gt (pc' := 17) (tgt := 66) cx dX8_tell_14 (by decide) rfl (fun c2 => ?_) (fun c2 => ?_)
      · replace hf := it_p c2 hf
        refine sw_iconst (pc' := 67) (v := -1) cx dX8_tell_66 iconst_m1 rfl ?_
        refine sw_aload_n (pc' := 68) (i := 0) cx dX8_tell_67 rfl 0 rfl rfl ?_
        refine sw_get (pc' := 71) cx in_X8 0 rfl rfl 4 (Nat.le_of_ble_eq_true rfl) fl_RX8_33 rfl dX8_tell_68 rfl ?_
        refine sw_isub (pc' := 72) cx dX8_tell_71 rfl ?_
        obtain rfl := Option.some.inj hf
        exact sw_iret cx hr hQ dX8_tell_72
      · replace hf := it_n c2 hf
        refine sw_aload_n (pc' := 18) (i := 0) cx dX8_tell_17 rfl 0 rfl rfl ?_
        refine sw_aload_n (pc' := 19) (i := 1) cx dX8_tell_18 rfl 1 rfl rfl ?_
        obtain ⟨r3, hr3, hf⟩ := bd_s hf
        refine sw_callVw (pc' := 22) (As := [.ref (hm 0)]) (rest := []) (w' := (tm_W a b hm kA ka cI cK tby tlen r3.2.1 r3.2.2.1 r3.2.2.2.1 r3.2.2.2.2.1 r3.2.2.2.2.2.1 r3.2.2.2.2.2.2)) cx (k_X8_item l D a b hm kA ka cI cJ cK cS tby tlen ttok tsta tbeh tnum ttak u  r3 hr3) pk_yX8_item ml_RX8_29 ⟨rfl, rfl⟩ ⟨(Nat.le_of_ble_eq_true rfl), (Nat.le_of_ble_eq_true rfl)⟩ ⟨(Nat.le_of_ble_eq_true rfl), (Nat.le_of_ble_eq_true rfl)⟩ 0 rfl rfl rfl rfl (Nat.le_of_ble_eq_true rfl) rfl dX8_tell_19 rfl ?_
        refine sw_if_ne (pc' := 25) (tgt := 32) cx dX8_tell_22 (by decide) rfl (fun c4 => ?_) (fun c4 => ?_)
        · replace hf := it_n c4 hf
          refine sw_aload_n (pc' := 33) (i := 0) cx dX8_tell_32 rfl 0 rfl rfl ?_
          refine sw_get (pc' := 36) cx in_X8 0 rfl rfl 3 (Nat.le_of_ble_eq_true rfl) fl_RX8_36 rfl dX8_tell_33 rfl ?_
          refine sw_if_ne (pc' := 39) (tgt := 41) cx dX8_tell_36 (by decide) rfl (fun c5 => ?_) (fun c5 => ?_)
          · replace hf := it_n c5 hf
            refine sw_aload_n (pc' := 42) (i := 0) cx dX8_tell_41 rfl 0 rfl rfl ?_
            refine sw_get (pc' := 45) cx in_X8 0 rfl rfl 3 (Nat.le_of_ble_eq_true rfl) fl_RX8_36 rfl dX8_tell_42 rfl ?_
            refine sw_iconst (pc' := 46) (v := 3) cx dX8_tell_45 iconst_3 rfl ?_
            refine sw_icmp_eq (pc' := 49) (tgt := 56) cx dX8_tell_46 (by decide) rfl (fun c6 => ?_) (fun c6 => ?_)
            · replace hf := it_p c6 hf
              refine sw_aload_n (pc' := 57) (i := 0) cx dX8_tell_56 rfl 0 rfl rfl ?_
              obtain ⟨r7, hr7, hf⟩ := bd_s hf
              refine sw_callV (pc' := 60) (As := []) (rest := []) cx (k_X8_advance l D a b kA cI cJ cK cS tby tlen r3.2.1 r3.2.2.1 r3.2.2.2.1 r3.2.2.2.2.1 r3.2.2.2.2.2.1  r7 hr7) pk_yX8_advance ml_RX8_26 ⟨rfl, rfl⟩ ⟨(Nat.le_of_ble_eq_true rfl), (Nat.le_of_ble_eq_true rfl)⟩ ⟨(Nat.le_of_ble_eq_true rfl), (Nat.le_of_ble_eq_true rfl)⟩ [0, 1] rfl rfl rfl (wn := (tm_W a b hm kA ka cI cK tby tlen r7.1 r7.2.1 r7.2.2.1 r7.2.2.2 r3.2.2.2.2.2.1 r3.2.2.2.2.2.2)) rfl 0 rfl rfl rfl rfl (Nat.le_of_ble_eq_true rfl) rfl dX8_tell_57 rfl ?_
              refine sw_iinc (pc' := 63) (v := (x2 + (1 : Int32))) (lv' := [(2, .int (x2 + (1 : Int32))), (0, .ref a), (1, .ref (hm 0))]) cx dX8_tell_60 2 rfl rfl (Nat.le_of_ble_eq_true rfl) rfl rfl ?_
              refine sw_goto (tgt := 11) cx dX8_tell_63 (by decide) ?_
              exact sw_lv [1, 2, 0] rfl (ih r7.1 r7.2.1 r7.2.2.1 r7.2.2.2 r3.2.2.2.2.2.1 r3.2.2.2.2.2.2 (x2 + (1 : Int32)) hf)
            · replace hf := it_n c6 hf
              refine sw_iconst (pc' := 50) (v := -1) cx dX8_tell_49 iconst_m1 rfl ?_
              refine sw_aload_n (pc' := 51) (i := 0) cx dX8_tell_50 rfl 0 rfl rfl ?_
              refine sw_get (pc' := 54) cx in_X8 0 rfl rfl 4 (Nat.le_of_ble_eq_true rfl) fl_RX8_33 rfl dX8_tell_51 rfl ?_
              refine sw_isub (pc' := 55) cx dX8_tell_54 rfl ?_
              obtain rfl := Option.some.inj hf
              exact sw_iret cx hr hQ dX8_tell_55
          · replace hf := it_p c5 hf
            refine sw_iload_n (pc' := 40) (i := 2) cx dX8_tell_39 rfl 2 rfl rfl ?_
            obtain rfl := Option.some.inj hf
            exact sw_iret cx hr hQ dX8_tell_40
        · replace hf := it_p c4 hf
          refine sw_iconst (pc' := 26) (v := -1) cx dX8_tell_25 iconst_m1 rfl ?_
          refine sw_aload_n (pc' := 27) (i := 0) cx dX8_tell_26 rfl 0 rfl rfl ?_
          refine sw_get (pc' := 30) cx in_X8 0 rfl rfl 4 (Nat.le_of_ble_eq_true rfl) fl_RX8_33 rfl dX8_tell_27 rfl ?_
          refine sw_isub (pc' := 31) cx dX8_tell_30 rfl ?_
          obtain rfl := Option.some.inj hf
          exact sw_iret cx hr hQ dX8_tell_31
  unfold f_X8_tell at hf
  refine sw_aload_n (pc' := 1) (i := 0) cx dX8_tell_0 rfl 0 rfl rfl ?_
  refine sw_iconst (pc' := 2) (v := 0) cx dX8_tell_1 iconst_0 rfl ?_
  refine sw_put (pc' := 5) (ws' := (tm_W a b hm kA ka cI cK tby tlen ttok tsta (0 : Int32) tnum ttak u)) cx in_X8 tyX8 tyX8_ok nmX8 0 rfl rfl 5 (Nat.le_of_ble_eq_true rfl) fl_RX8_23 rfl rfl rfl (Nat.le_of_ble_eq_true rfl) dX8_tell_2 rfl rfl ?_
  refine sw_aload_n (pc' := 6) (i := 0) cx dX8_tell_5 rfl 0 rfl rfl ?_
  obtain ⟨r1, hr1, hf⟩ := bd_s hf
  refine sw_callV (pc' := 9) (As := []) (rest := []) cx (k_X8_advance l D a b kA cI cJ cK cS tby tlen ttok tsta (0 : Int32) tnum ttak  r1 hr1) pk_yX8_advance ml_RX8_26 ⟨rfl, rfl⟩ ⟨(Nat.le_of_ble_eq_true rfl), (Nat.le_of_ble_eq_true rfl)⟩ ⟨(Nat.le_of_ble_eq_true rfl), (Nat.le_of_ble_eq_true rfl)⟩ [0, 1] rfl rfl rfl (wn := (tm_W a b hm kA ka cI cK tby tlen r1.1 r1.2.1 r1.2.2.1 r1.2.2.2 ttak u)) rfl 0 rfl rfl rfl rfl (Nat.le_of_ble_eq_true rfl) rfl dX8_tell_6 rfl ?_
  refine sw_iconst (pc' := 10) (v := 1) cx dX8_tell_9 iconst_1 rfl ?_
  refine sw_istore_n (pc' := 11) (i := 2) (lv' := [(2, .int (1 : Int32)), (0, .ref a), (1, .ref (hm 0))]) cx dX8_tell_10 rfl (Nat.le_of_ble_eq_true rfl) rfl rfl ?_
  exact sw_lv [1, 2, 0] rfl (B11 1000 r1.1 r1.2.1 r1.2.2.1 r1.2.2.2 ttak u (1 : Int32) hf)
abbrev rm_X9_isOfKind_0 : Room := ({ frames := 0, cells := 0, slots := 0, locals := 0 } : Room)
set_option maxRecDepth 100000 in
set_option maxHeartbeats 4000000 in
theorem k_X9_isOfKind_0 (l : Launch) (D : sf_D) (b : Nat) (cI cJ cK cS : ClassId)  (a1 : Int32) (res : Int32) (hf : f_X9_isOfKind_0 a1 = some res) : sf_Ct l yX9_isOfKind cX9_isOfKind 2 (some .boolean) rm_X9_isOfKind_0 D (sf_ty cI cJ cK cS) [.ref b, .int a1] [(b, .inr (3, []))] (some (.int res)) [(b, .inr (3, []))] := by
  refine sf_met (lv := [(0, .ref b), (1, .int a1)]) (by decide) (Nat.le_of_ble_eq_true rfl) rfl ?_
  intro p e s m args below meth c A Q cx hr hQ
  have cx : sf_Cx p m meth c cX9_isOfKind 2 s args RX9 D (sf_ty cI cJ cK cS) A := cx
  unfold f_X9_isOfKind_0 at hf
  refine sw_iload_n (pc' := 1) (i := 1) cx dX9_isOfKind_0 rfl 1 rfl rfl ?_
  by_cases c1 : a1 = (0 : Int32)
  · replace hf := it_p c1 hf
    refine sw_tableEq (tgt := 40) cx c1 dX9_isOfKind_1 (by decide +kernel) (by decide +kernel) rfl (by decide) ?_
    refine sw_iconst (pc' := 41) (v := 1) cx dX9_isOfKind_40 iconst_1 rfl ?_
    obtain rfl := Option.some.inj hf
    exact sw_zret cx hr (by decide +kernel) hQ dX9_isOfKind_41
  replace hf := it_n c1 hf
  by_cases c2 : a1 = (1 : Int32)
  · replace hf := it_p c2 hf
    refine sw_tableEq (tgt := 42) cx c2 dX9_isOfKind_1 (by decide +kernel) (by decide +kernel) rfl (by decide) ?_
    refine sw_aload_n (pc' := 43) (i := 0) cx dX9_isOfKind_42 rfl 0 rfl rfl ?_
    refine sw_instNo (pc' := 46) (C := RX3) cx cln_RX9_12 (by decide +kernel) 0 rfl rfl rfl dX9_isOfKind_43 rfl ?_
    obtain rfl := Option.some.inj hf
    exact sw_zret cx hr (by decide +kernel) hQ dX9_isOfKind_46
  replace hf := it_n c2 hf
  by_cases c3 : a1 = (2 : Int32)
  · replace hf := it_p c3 hf
    refine sw_tableEq (tgt := 47) cx c3 dX9_isOfKind_1 (by decide +kernel) (by decide +kernel) rfl (by decide) ?_
    refine sw_aload_n (pc' := 48) (i := 0) cx dX9_isOfKind_47 rfl 0 rfl rfl ?_
    refine sw_instNo (pc' := 51) (C := RX3) cx cln_RX9_15 (by decide +kernel) 0 rfl rfl rfl dX9_isOfKind_48 rfl ?_
    obtain rfl := Option.some.inj hf
    exact sw_zret cx hr (by decide +kernel) hQ dX9_isOfKind_51
  replace hf := it_n c3 hf
  by_cases c4 : a1 = (3 : Int32)
  · replace hf := it_p c4 hf
    refine sw_tableEq (tgt := 52) cx c4 dX9_isOfKind_1 (by decide +kernel) (by decide +kernel) rfl (by decide) ?_
    refine sw_aload_n (pc' := 53) (i := 0) cx dX9_isOfKind_52 rfl 0 rfl rfl ?_
    refine sw_instNo (pc' := 56) (C := RX3) cx cln_RX9_18 (by decide +kernel) 0 rfl rfl rfl dX9_isOfKind_53 rfl ?_
    obtain rfl := Option.some.inj hf
    exact sw_zret cx hr (by decide +kernel) hQ dX9_isOfKind_56
  replace hf := it_n c4 hf
  by_cases c5 : a1 = (4 : Int32)
  · replace hf := it_p c5 hf
    refine sw_tableEq (tgt := 57) cx c5 dX9_isOfKind_1 (by decide +kernel) (by decide +kernel) rfl (by decide) ?_
    refine sw_aload_n (pc' := 58) (i := 0) cx dX9_isOfKind_57 rfl 0 rfl rfl ?_
    refine sw_instNo (pc' := 61) (C := RX3) cx cln_RX9_21 (by decide +kernel) 0 rfl rfl rfl dX9_isOfKind_58 rfl ?_
    obtain rfl := Option.some.inj hf
    exact sw_zret cx hr (by decide +kernel) hQ dX9_isOfKind_61
  replace hf := it_n c5 hf
  by_cases c6 : a1 = (5 : Int32)
  · replace hf := it_p c6 hf
    refine sw_tableEq (tgt := 62) cx c6 dX9_isOfKind_1 (by decide +kernel) (by decide +kernel) rfl (by decide) ?_
    refine sw_aload_n (pc' := 63) (i := 0) cx dX9_isOfKind_62 rfl 0 rfl rfl ?_
    refine sw_instNo (pc' := 66) (C := RX3) cx cln_RX9_24 (by decide +kernel) 0 rfl rfl rfl dX9_isOfKind_63 rfl ?_
    obtain rfl := Option.some.inj hf
    exact sw_zret cx hr (by decide +kernel) hQ dX9_isOfKind_66
  replace hf := it_n c6 hf
  refine sw_tableOut (tgt := 67) cx dX9_isOfKind_1 (by have := sf_ne (k := 0) c1 (by decide +kernel); have := sf_ne (k := 1) c2 (by decide +kernel); have := sf_ne (k := 2) c3 (by decide +kernel); have := sf_ne (k := 3) c4 (by decide +kernel); have := sf_ne (k := 4) c5 (by decide +kernel); have := sf_ne (k := 5) c6 (by decide +kernel); omega) (by decide) ?_
  refine sw_iconst (pc' := 68) (v := 0) cx dX9_isOfKind_67 iconst_0 rfl ?_
  obtain rfl := Option.some.inj hf
  exact sw_zret cx hr (by decide +kernel) hQ dX9_isOfKind_68
abbrev rm_X9_isOfKind_1 : Room := ({ frames := 0, cells := 0, slots := 0, locals := 0 } : Room)
set_option maxRecDepth 100000 in
set_option maxHeartbeats 4000000 in
theorem k_X9_isOfKind_1 (l : Launch) (D : sf_D) (b : Nat) (cI cJ cK cS : ClassId)  (a1 : Int32) (res : Int32) (hf : f_X9_isOfKind_1 a1 = some res) : sf_Ct l yX9_isOfKind cX9_isOfKind 2 (some .boolean) rm_X9_isOfKind_1 D (sf_ty cI cJ cK cS) [.ref b, .int a1] [(b, .inr (6, []))] (some (.int res)) [(b, .inr (6, []))] := by
  refine sf_met (lv := [(0, .ref b), (1, .int a1)]) (by decide) (Nat.le_of_ble_eq_true rfl) rfl ?_
  intro p e s m args below meth c A Q cx hr hQ
  have cx : sf_Cx p m meth c cX9_isOfKind 2 s args RX9 D (sf_ty cI cJ cK cS) A := cx
  unfold f_X9_isOfKind_1 at hf
  refine sw_iload_n (pc' := 1) (i := 1) cx dX9_isOfKind_0 rfl 1 rfl rfl ?_
  by_cases c1 : a1 = (0 : Int32)
  · replace hf := it_p c1 hf
    refine sw_tableEq (tgt := 40) cx c1 dX9_isOfKind_1 (by decide +kernel) (by decide +kernel) rfl (by decide) ?_
    refine sw_iconst (pc' := 41) (v := 1) cx dX9_isOfKind_40 iconst_1 rfl ?_
    obtain rfl := Option.some.inj hf
    exact sw_zret cx hr (by decide +kernel) hQ dX9_isOfKind_41
  replace hf := it_n c1 hf
  by_cases c2 : a1 = (1 : Int32)
  · replace hf := it_p c2 hf
    refine sw_tableEq (tgt := 42) cx c2 dX9_isOfKind_1 (by decide +kernel) (by decide +kernel) rfl (by decide) ?_
    refine sw_aload_n (pc' := 43) (i := 0) cx dX9_isOfKind_42 rfl 0 rfl rfl ?_
    refine sw_instS (pc' := 46) cx cln_RX9_12 0 rfl rfl rfl dX9_isOfKind_43 rfl ?_
    obtain rfl := Option.some.inj hf
    exact sw_zret cx hr (by decide +kernel) hQ dX9_isOfKind_46
  replace hf := it_n c2 hf
  by_cases c3 : a1 = (2 : Int32)
  · replace hf := it_p c3 hf
    refine sw_tableEq (tgt := 47) cx c3 dX9_isOfKind_1 (by decide +kernel) (by decide +kernel) rfl (by decide) ?_
    refine sw_aload_n (pc' := 48) (i := 0) cx dX9_isOfKind_47 rfl 0 rfl rfl ?_
    refine sw_instNo (pc' := 51) (C := RX6) cx cln_RX9_15 (by decide +kernel) 0 rfl rfl rfl dX9_isOfKind_48 rfl ?_
    obtain rfl := Option.some.inj hf
    exact sw_zret cx hr (by decide +kernel) hQ dX9_isOfKind_51
  replace hf := it_n c3 hf
  by_cases c4 : a1 = (3 : Int32)
  · replace hf := it_p c4 hf
    refine sw_tableEq (tgt := 52) cx c4 dX9_isOfKind_1 (by decide +kernel) (by decide +kernel) rfl (by decide) ?_
    refine sw_aload_n (pc' := 53) (i := 0) cx dX9_isOfKind_52 rfl 0 rfl rfl ?_
    refine sw_instNo (pc' := 56) (C := RX6) cx cln_RX9_18 (by decide +kernel) 0 rfl rfl rfl dX9_isOfKind_53 rfl ?_
    obtain rfl := Option.some.inj hf
    exact sw_zret cx hr (by decide +kernel) hQ dX9_isOfKind_56
  replace hf := it_n c4 hf
  by_cases c5 : a1 = (4 : Int32)
  · replace hf := it_p c5 hf
    refine sw_tableEq (tgt := 57) cx c5 dX9_isOfKind_1 (by decide +kernel) (by decide +kernel) rfl (by decide) ?_
    refine sw_aload_n (pc' := 58) (i := 0) cx dX9_isOfKind_57 rfl 0 rfl rfl ?_
    refine sw_instNo (pc' := 61) (C := RX6) cx cln_RX9_21 (by decide +kernel) 0 rfl rfl rfl dX9_isOfKind_58 rfl ?_
    obtain rfl := Option.some.inj hf
    exact sw_zret cx hr (by decide +kernel) hQ dX9_isOfKind_61
  replace hf := it_n c5 hf
  by_cases c6 : a1 = (5 : Int32)
  · replace hf := it_p c6 hf
    refine sw_tableEq (tgt := 62) cx c6 dX9_isOfKind_1 (by decide +kernel) (by decide +kernel) rfl (by decide) ?_
    refine sw_aload_n (pc' := 63) (i := 0) cx dX9_isOfKind_62 rfl 0 rfl rfl ?_
    refine sw_instNo (pc' := 66) (C := RX6) cx cln_RX9_24 (by decide +kernel) 0 rfl rfl rfl dX9_isOfKind_63 rfl ?_
    obtain rfl := Option.some.inj hf
    exact sw_zret cx hr (by decide +kernel) hQ dX9_isOfKind_66
  replace hf := it_n c6 hf
  refine sw_tableOut (tgt := 67) cx dX9_isOfKind_1 (by have := sf_ne (k := 0) c1 (by decide +kernel); have := sf_ne (k := 1) c2 (by decide +kernel); have := sf_ne (k := 2) c3 (by decide +kernel); have := sf_ne (k := 3) c4 (by decide +kernel); have := sf_ne (k := 4) c5 (by decide +kernel); have := sf_ne (k := 5) c6 (by decide +kernel); omega) (by decide) ?_
  refine sw_iconst (pc' := 68) (v := 0) cx dX9_isOfKind_67 iconst_0 rfl ?_
  obtain rfl := Option.some.inj hf
  exact sw_zret cx hr (by decide +kernel) hQ dX9_isOfKind_68
abbrev rm_X9_isOfKind_2 : Room := ({ frames := 0, cells := 0, slots := 0, locals := 0 } : Room)
set_option maxRecDepth 100000 in
set_option maxHeartbeats 4000000 in
theorem k_X9_isOfKind_2 (l : Launch) (D : sf_D) (b : Nat) (cI cJ cK cS : ClassId)  (a1 : Int32) (res : Int32) (hf : f_X9_isOfKind_2 a1 = some res) : sf_Ct l yX9_isOfKind cX9_isOfKind 2 (some .boolean) rm_X9_isOfKind_2 D (sf_ty cI cJ cK cS) [.ref b, .int a1] [(b, .inr (0, []))] (some (.int res)) [(b, .inr (0, []))] := by
  refine sf_met (lv := [(0, .ref b), (1, .int a1)]) (by decide) (Nat.le_of_ble_eq_true rfl) rfl ?_
  intro p e s m args below meth c A Q cx hr hQ
  have cx : sf_Cx p m meth c cX9_isOfKind 2 s args RX9 D (sf_ty cI cJ cK cS) A := cx
  unfold f_X9_isOfKind_2 at hf
  refine sw_iload_n (pc' := 1) (i := 1) cx dX9_isOfKind_0 rfl 1 rfl rfl ?_
  by_cases c1 : a1 = (0 : Int32)
  · replace hf := it_p c1 hf
    refine sw_tableEq (tgt := 40) cx c1 dX9_isOfKind_1 (by decide +kernel) (by decide +kernel) rfl (by decide) ?_
    refine sw_iconst (pc' := 41) (v := 1) cx dX9_isOfKind_40 iconst_1 rfl ?_
    obtain rfl := Option.some.inj hf
    exact sw_zret cx hr (by decide +kernel) hQ dX9_isOfKind_41
  replace hf := it_n c1 hf
  by_cases c2 : a1 = (1 : Int32)
  · replace hf := it_p c2 hf
    refine sw_tableEq (tgt := 42) cx c2 dX9_isOfKind_1 (by decide +kernel) (by decide +kernel) rfl (by decide) ?_
    refine sw_aload_n (pc' := 43) (i := 0) cx dX9_isOfKind_42 rfl 0 rfl rfl ?_
    refine sw_instNo (pc' := 46) (C := RX0) cx cln_RX9_12 (by decide +kernel) 0 rfl rfl rfl dX9_isOfKind_43 rfl ?_
    obtain rfl := Option.some.inj hf
    exact sw_zret cx hr (by decide +kernel) hQ dX9_isOfKind_46
  replace hf := it_n c2 hf
  by_cases c3 : a1 = (2 : Int32)
  · replace hf := it_p c3 hf
    refine sw_tableEq (tgt := 47) cx c3 dX9_isOfKind_1 (by decide +kernel) (by decide +kernel) rfl (by decide) ?_
    refine sw_aload_n (pc' := 48) (i := 0) cx dX9_isOfKind_47 rfl 0 rfl rfl ?_
    refine sw_instS (pc' := 51) cx cln_RX9_15 0 rfl rfl rfl dX9_isOfKind_48 rfl ?_
    obtain rfl := Option.some.inj hf
    exact sw_zret cx hr (by decide +kernel) hQ dX9_isOfKind_51
  replace hf := it_n c3 hf
  by_cases c4 : a1 = (3 : Int32)
  · replace hf := it_p c4 hf
    refine sw_tableEq (tgt := 52) cx c4 dX9_isOfKind_1 (by decide +kernel) (by decide +kernel) rfl (by decide) ?_
    refine sw_aload_n (pc' := 53) (i := 0) cx dX9_isOfKind_52 rfl 0 rfl rfl ?_
    refine sw_instNo (pc' := 56) (C := RX0) cx cln_RX9_18 (by decide +kernel) 0 rfl rfl rfl dX9_isOfKind_53 rfl ?_
    obtain rfl := Option.some.inj hf
    exact sw_zret cx hr (by decide +kernel) hQ dX9_isOfKind_56
  replace hf := it_n c4 hf
  by_cases c5 : a1 = (4 : Int32)
  · replace hf := it_p c5 hf
    refine sw_tableEq (tgt := 57) cx c5 dX9_isOfKind_1 (by decide +kernel) (by decide +kernel) rfl (by decide) ?_
    refine sw_aload_n (pc' := 58) (i := 0) cx dX9_isOfKind_57 rfl 0 rfl rfl ?_
    refine sw_instNo (pc' := 61) (C := RX0) cx cln_RX9_21 (by decide +kernel) 0 rfl rfl rfl dX9_isOfKind_58 rfl ?_
    obtain rfl := Option.some.inj hf
    exact sw_zret cx hr (by decide +kernel) hQ dX9_isOfKind_61
  replace hf := it_n c5 hf
  by_cases c6 : a1 = (5 : Int32)
  · replace hf := it_p c6 hf
    refine sw_tableEq (tgt := 62) cx c6 dX9_isOfKind_1 (by decide +kernel) (by decide +kernel) rfl (by decide) ?_
    refine sw_aload_n (pc' := 63) (i := 0) cx dX9_isOfKind_62 rfl 0 rfl rfl ?_
    refine sw_instNo (pc' := 66) (C := RX0) cx cln_RX9_24 (by decide +kernel) 0 rfl rfl rfl dX9_isOfKind_63 rfl ?_
    obtain rfl := Option.some.inj hf
    exact sw_zret cx hr (by decide +kernel) hQ dX9_isOfKind_66
  replace hf := it_n c6 hf
  refine sw_tableOut (tgt := 67) cx dX9_isOfKind_1 (by have := sf_ne (k := 0) c1 (by decide +kernel); have := sf_ne (k := 1) c2 (by decide +kernel); have := sf_ne (k := 2) c3 (by decide +kernel); have := sf_ne (k := 3) c4 (by decide +kernel); have := sf_ne (k := 4) c5 (by decide +kernel); have := sf_ne (k := 5) c6 (by decide +kernel); omega) (by decide) ?_
  refine sw_iconst (pc' := 68) (v := 0) cx dX9_isOfKind_67 iconst_0 rfl ?_
  obtain rfl := Option.some.inj hf
  exact sw_zret cx hr (by decide +kernel) hQ dX9_isOfKind_68
abbrev rm_X9_isOfKind_3 : Room := ({ frames := 0, cells := 0, slots := 0, locals := 0 } : Room)
set_option maxRecDepth 100000 in
set_option maxHeartbeats 4000000 in
theorem k_X9_isOfKind_3 (l : Launch) (D : sf_D) (b : Nat) (cI cJ cK cS : ClassId)  (a1 : Int32) (res : Int32) (hf : f_X9_isOfKind_3 a1 = some res) : sf_Ct l yX9_isOfKind cX9_isOfKind 2 (some .boolean) rm_X9_isOfKind_3 D (sf_ty cI cJ cK cS) [.ref b, .int a1] [(b, .inr (2, []))] (some (.int res)) [(b, .inr (2, []))] := by
  refine sf_met (lv := [(0, .ref b), (1, .int a1)]) (by decide) (Nat.le_of_ble_eq_true rfl) rfl ?_
  intro p e s m args below meth c A Q cx hr hQ
  have cx : sf_Cx p m meth c cX9_isOfKind 2 s args RX9 D (sf_ty cI cJ cK cS) A := cx
  unfold f_X9_isOfKind_3 at hf
  refine sw_iload_n (pc' := 1) (i := 1) cx dX9_isOfKind_0 rfl 1 rfl rfl ?_
  by_cases c1 : a1 = (0 : Int32)
  · replace hf := it_p c1 hf
    refine sw_tableEq (tgt := 40) cx c1 dX9_isOfKind_1 (by decide +kernel) (by decide +kernel) rfl (by decide) ?_
    refine sw_iconst (pc' := 41) (v := 1) cx dX9_isOfKind_40 iconst_1 rfl ?_
    obtain rfl := Option.some.inj hf
    exact sw_zret cx hr (by decide +kernel) hQ dX9_isOfKind_41
  replace hf := it_n c1 hf
  by_cases c2 : a1 = (1 : Int32)
  · replace hf := it_p c2 hf
    refine sw_tableEq (tgt := 42) cx c2 dX9_isOfKind_1 (by decide +kernel) (by decide +kernel) rfl (by decide) ?_
    refine sw_aload_n (pc' := 43) (i := 0) cx dX9_isOfKind_42 rfl 0 rfl rfl ?_
    refine sw_instNo (pc' := 46) (C := RX2) cx cln_RX9_12 (by decide +kernel) 0 rfl rfl rfl dX9_isOfKind_43 rfl ?_
    obtain rfl := Option.some.inj hf
    exact sw_zret cx hr (by decide +kernel) hQ dX9_isOfKind_46
  replace hf := it_n c2 hf
  by_cases c3 : a1 = (2 : Int32)
  · replace hf := it_p c3 hf
    refine sw_tableEq (tgt := 47) cx c3 dX9_isOfKind_1 (by decide +kernel) (by decide +kernel) rfl (by decide) ?_
    refine sw_aload_n (pc' := 48) (i := 0) cx dX9_isOfKind_47 rfl 0 rfl rfl ?_
    refine sw_instNo (pc' := 51) (C := RX2) cx cln_RX9_15 (by decide +kernel) 0 rfl rfl rfl dX9_isOfKind_48 rfl ?_
    obtain rfl := Option.some.inj hf
    exact sw_zret cx hr (by decide +kernel) hQ dX9_isOfKind_51
  replace hf := it_n c3 hf
  by_cases c4 : a1 = (3 : Int32)
  · replace hf := it_p c4 hf
    refine sw_tableEq (tgt := 52) cx c4 dX9_isOfKind_1 (by decide +kernel) (by decide +kernel) rfl (by decide) ?_
    refine sw_aload_n (pc' := 53) (i := 0) cx dX9_isOfKind_52 rfl 0 rfl rfl ?_
    refine sw_instS (pc' := 56) cx cln_RX9_18 0 rfl rfl rfl dX9_isOfKind_53 rfl ?_
    obtain rfl := Option.some.inj hf
    exact sw_zret cx hr (by decide +kernel) hQ dX9_isOfKind_56
  replace hf := it_n c4 hf
  by_cases c5 : a1 = (4 : Int32)
  · replace hf := it_p c5 hf
    refine sw_tableEq (tgt := 57) cx c5 dX9_isOfKind_1 (by decide +kernel) (by decide +kernel) rfl (by decide) ?_
    refine sw_aload_n (pc' := 58) (i := 0) cx dX9_isOfKind_57 rfl 0 rfl rfl ?_
    refine sw_instNo (pc' := 61) (C := RX2) cx cln_RX9_21 (by decide +kernel) 0 rfl rfl rfl dX9_isOfKind_58 rfl ?_
    obtain rfl := Option.some.inj hf
    exact sw_zret cx hr (by decide +kernel) hQ dX9_isOfKind_61
  replace hf := it_n c5 hf
  by_cases c6 : a1 = (5 : Int32)
  · replace hf := it_p c6 hf
    refine sw_tableEq (tgt := 62) cx c6 dX9_isOfKind_1 (by decide +kernel) (by decide +kernel) rfl (by decide) ?_
    refine sw_aload_n (pc' := 63) (i := 0) cx dX9_isOfKind_62 rfl 0 rfl rfl ?_
    refine sw_instNo (pc' := 66) (C := RX2) cx cln_RX9_24 (by decide +kernel) 0 rfl rfl rfl dX9_isOfKind_63 rfl ?_
    obtain rfl := Option.some.inj hf
    exact sw_zret cx hr (by decide +kernel) hQ dX9_isOfKind_66
  replace hf := it_n c6 hf
  refine sw_tableOut (tgt := 67) cx dX9_isOfKind_1 (by have := sf_ne (k := 0) c1 (by decide +kernel); have := sf_ne (k := 1) c2 (by decide +kernel); have := sf_ne (k := 2) c3 (by decide +kernel); have := sf_ne (k := 3) c4 (by decide +kernel); have := sf_ne (k := 4) c5 (by decide +kernel); have := sf_ne (k := 5) c6 (by decide +kernel); omega) (by decide) ?_
  refine sw_iconst (pc' := 68) (v := 0) cx dX9_isOfKind_67 iconst_0 rfl ?_
  obtain rfl := Option.some.inj hf
  exact sw_zret cx hr (by decide +kernel) hQ dX9_isOfKind_68
abbrev rm_X9_isOfKind_4 : Room := ({ frames := 0, cells := 0, slots := 0, locals := 0 } : Room)
set_option maxRecDepth 100000 in
set_option maxHeartbeats 4000000 in
theorem k_X9_isOfKind_4 (l : Launch) (D : sf_D) (b : Nat) (cI cJ cK cS : ClassId)  (a1 : Int32) (res : Int32) (hf : f_X9_isOfKind_4 a1 = some res) : sf_Ct l yX9_isOfKind cX9_isOfKind 2 (some .boolean) rm_X9_isOfKind_4 D (sf_ty cI cJ cK cS) [.ref b, .int a1] [(b, .inr (1, []))] (some (.int res)) [(b, .inr (1, []))] := by
  refine sf_met (lv := [(0, .ref b), (1, .int a1)]) (by decide) (Nat.le_of_ble_eq_true rfl) rfl ?_
  intro p e s m args below meth c A Q cx hr hQ
  have cx : sf_Cx p m meth c cX9_isOfKind 2 s args RX9 D (sf_ty cI cJ cK cS) A := cx
  unfold f_X9_isOfKind_4 at hf
  refine sw_iload_n (pc' := 1) (i := 1) cx dX9_isOfKind_0 rfl 1 rfl rfl ?_
  by_cases c1 : a1 = (0 : Int32)
  · replace hf := it_p c1 hf
    refine sw_tableEq (tgt := 40) cx c1 dX9_isOfKind_1 (by decide +kernel) (by decide +kernel) rfl (by decide) ?_
    refine sw_iconst (pc' := 41) (v := 1) cx dX9_isOfKind_40 iconst_1 rfl ?_
    obtain rfl := Option.some.inj hf
    exact sw_zret cx hr (by decide +kernel) hQ dX9_isOfKind_41
  replace hf := it_n c1 hf
  by_cases c2 : a1 = (1 : Int32)
  · replace hf := it_p c2 hf
    refine sw_tableEq (tgt := 42) cx c2 dX9_isOfKind_1 (by decide +kernel) (by decide +kernel) rfl (by decide) ?_
    refine sw_aload_n (pc' := 43) (i := 0) cx dX9_isOfKind_42 rfl 0 rfl rfl ?_
    refine sw_instNo (pc' := 46) (C := RX1) cx cln_RX9_12 (by decide +kernel) 0 rfl rfl rfl dX9_isOfKind_43 rfl ?_
    obtain rfl := Option.some.inj hf
    exact sw_zret cx hr (by decide +kernel) hQ dX9_isOfKind_46
  replace hf := it_n c2 hf
  by_cases c3 : a1 = (2 : Int32)
  · replace hf := it_p c3 hf
    refine sw_tableEq (tgt := 47) cx c3 dX9_isOfKind_1 (by decide +kernel) (by decide +kernel) rfl (by decide) ?_
    refine sw_aload_n (pc' := 48) (i := 0) cx dX9_isOfKind_47 rfl 0 rfl rfl ?_
    refine sw_instNo (pc' := 51) (C := RX1) cx cln_RX9_15 (by decide +kernel) 0 rfl rfl rfl dX9_isOfKind_48 rfl ?_
    obtain rfl := Option.some.inj hf
    exact sw_zret cx hr (by decide +kernel) hQ dX9_isOfKind_51
  replace hf := it_n c3 hf
  by_cases c4 : a1 = (3 : Int32)
  · replace hf := it_p c4 hf
    refine sw_tableEq (tgt := 52) cx c4 dX9_isOfKind_1 (by decide +kernel) (by decide +kernel) rfl (by decide) ?_
    refine sw_aload_n (pc' := 53) (i := 0) cx dX9_isOfKind_52 rfl 0 rfl rfl ?_
    refine sw_instY (pc' := 56) (C := RX1) cx cln_RX9_18 (cx.2.2.2.2.2.1 _ cst_X1_X2) 0 rfl rfl rfl dX9_isOfKind_53 rfl ?_
    obtain rfl := Option.some.inj hf
    exact sw_zret cx hr (by decide +kernel) hQ dX9_isOfKind_56
  replace hf := it_n c4 hf
  by_cases c5 : a1 = (4 : Int32)
  · replace hf := it_p c5 hf
    refine sw_tableEq (tgt := 57) cx c5 dX9_isOfKind_1 (by decide +kernel) (by decide +kernel) rfl (by decide) ?_
    refine sw_aload_n (pc' := 58) (i := 0) cx dX9_isOfKind_57 rfl 0 rfl rfl ?_
    refine sw_instS (pc' := 61) cx cln_RX9_21 0 rfl rfl rfl dX9_isOfKind_58 rfl ?_
    obtain rfl := Option.some.inj hf
    exact sw_zret cx hr (by decide +kernel) hQ dX9_isOfKind_61
  replace hf := it_n c5 hf
  by_cases c6 : a1 = (5 : Int32)
  · replace hf := it_p c6 hf
    refine sw_tableEq (tgt := 62) cx c6 dX9_isOfKind_1 (by decide +kernel) (by decide +kernel) rfl (by decide) ?_
    refine sw_aload_n (pc' := 63) (i := 0) cx dX9_isOfKind_62 rfl 0 rfl rfl ?_
    refine sw_instNo (pc' := 66) (C := RX1) cx cln_RX9_24 (by decide +kernel) 0 rfl rfl rfl dX9_isOfKind_63 rfl ?_
    obtain rfl := Option.some.inj hf
    exact sw_zret cx hr (by decide +kernel) hQ dX9_isOfKind_66
  replace hf := it_n c6 hf
  refine sw_tableOut (tgt := 67) cx dX9_isOfKind_1 (by have := sf_ne (k := 0) c1 (by decide +kernel); have := sf_ne (k := 1) c2 (by decide +kernel); have := sf_ne (k := 2) c3 (by decide +kernel); have := sf_ne (k := 3) c4 (by decide +kernel); have := sf_ne (k := 4) c5 (by decide +kernel); have := sf_ne (k := 5) c6 (by decide +kernel); omega) (by decide) ?_
  refine sw_iconst (pc' := 68) (v := 0) cx dX9_isOfKind_67 iconst_0 rfl ?_
  obtain rfl := Option.some.inj hf
  exact sw_zret cx hr (by decide +kernel) hQ dX9_isOfKind_68
abbrev rm_X9_isOfKind_5 : Room := ({ frames := 0, cells := 0, slots := 0, locals := 0 } : Room)
set_option maxRecDepth 100000 in
set_option maxHeartbeats 4000000 in
theorem k_X9_isOfKind_5 (l : Launch) (D : sf_D) (b : Nat) (cI cJ cK cS : ClassId)  (a1 : Int32) (res : Int32) (hf : f_X9_isOfKind_5 a1 = some res) : sf_Ct l yX9_isOfKind cX9_isOfKind 2 (some .boolean) rm_X9_isOfKind_5 D (sf_ty cI cJ cK cS) [.ref b, .int a1] [(b, .inr (5, []))] (some (.int res)) [(b, .inr (5, []))] := by
  refine sf_met (lv := [(0, .ref b), (1, .int a1)]) (by decide) (Nat.le_of_ble_eq_true rfl) rfl ?_
  intro p e s m args below meth c A Q cx hr hQ
  have cx : sf_Cx p m meth c cX9_isOfKind 2 s args RX9 D (sf_ty cI cJ cK cS) A := cx
  unfold f_X9_isOfKind_5 at hf
  refine sw_iload_n (pc' := 1) (i := 1) cx dX9_isOfKind_0 rfl 1 rfl rfl ?_
  by_cases c1 : a1 = (0 : Int32)
  · replace hf := it_p c1 hf
    refine sw_tableEq (tgt := 40) cx c1 dX9_isOfKind_1 (by decide +kernel) (by decide +kernel) rfl (by decide) ?_
    refine sw_iconst (pc' := 41) (v := 1) cx dX9_isOfKind_40 iconst_1 rfl ?_
    obtain rfl := Option.some.inj hf
    exact sw_zret cx hr (by decide +kernel) hQ dX9_isOfKind_41
  replace hf := it_n c1 hf
  by_cases c2 : a1 = (1 : Int32)
  · replace hf := it_p c2 hf
    refine sw_tableEq (tgt := 42) cx c2 dX9_isOfKind_1 (by decide +kernel) (by decide +kernel) rfl (by decide) ?_
    refine sw_aload_n (pc' := 43) (i := 0) cx dX9_isOfKind_42 rfl 0 rfl rfl ?_
    refine sw_instNo (pc' := 46) (C := RX5) cx cln_RX9_12 (by decide +kernel) 0 rfl rfl rfl dX9_isOfKind_43 rfl ?_
    obtain rfl := Option.some.inj hf
    exact sw_zret cx hr (by decide +kernel) hQ dX9_isOfKind_46
  replace hf := it_n c2 hf
  by_cases c3 : a1 = (2 : Int32)
  · replace hf := it_p c3 hf
    refine sw_tableEq (tgt := 47) cx c3 dX9_isOfKind_1 (by decide +kernel) (by decide +kernel) rfl (by decide) ?_
    refine sw_aload_n (pc' := 48) (i := 0) cx dX9_isOfKind_47 rfl 0 rfl rfl ?_
    refine sw_instY (pc' := 51) (C := RX5) cx cln_RX9_15 (cx.2.2.2.2.2.1 _ cst_X5_X0) 0 rfl rfl rfl dX9_isOfKind_48 rfl ?_
    obtain rfl := Option.some.inj hf
    exact sw_zret cx hr (by decide +kernel) hQ dX9_isOfKind_51
  replace hf := it_n c3 hf
  by_cases c4 : a1 = (3 : Int32)
  · replace hf := it_p c4 hf
    refine sw_tableEq (tgt := 52) cx c4 dX9_isOfKind_1 (by decide +kernel) (by decide +kernel) rfl (by decide) ?_
    refine sw_aload_n (pc' := 53) (i := 0) cx dX9_isOfKind_52 rfl 0 rfl rfl ?_
    refine sw_instNo (pc' := 56) (C := RX5) cx cln_RX9_18 (by decide +kernel) 0 rfl rfl rfl dX9_isOfKind_53 rfl ?_
    obtain rfl := Option.some.inj hf
    exact sw_zret cx hr (by decide +kernel) hQ dX9_isOfKind_56
  replace hf := it_n c4 hf
  by_cases c5 : a1 = (4 : Int32)
  · replace hf := it_p c5 hf
    refine sw_tableEq (tgt := 57) cx c5 dX9_isOfKind_1 (by decide +kernel) (by decide +kernel) rfl (by decide) ?_
    refine sw_aload_n (pc' := 58) (i := 0) cx dX9_isOfKind_57 rfl 0 rfl rfl ?_
    refine sw_instNo (pc' := 61) (C := RX5) cx cln_RX9_21 (by decide +kernel) 0 rfl rfl rfl dX9_isOfKind_58 rfl ?_
    obtain rfl := Option.some.inj hf
    exact sw_zret cx hr (by decide +kernel) hQ dX9_isOfKind_61
  replace hf := it_n c5 hf
  by_cases c6 : a1 = (5 : Int32)
  · replace hf := it_p c6 hf
    refine sw_tableEq (tgt := 62) cx c6 dX9_isOfKind_1 (by decide +kernel) (by decide +kernel) rfl (by decide) ?_
    refine sw_aload_n (pc' := 63) (i := 0) cx dX9_isOfKind_62 rfl 0 rfl rfl ?_
    refine sw_instS (pc' := 66) cx cln_RX9_24 0 rfl rfl rfl dX9_isOfKind_63 rfl ?_
    obtain rfl := Option.some.inj hf
    exact sw_zret cx hr (by decide +kernel) hQ dX9_isOfKind_66
  replace hf := it_n c6 hf
  refine sw_tableOut (tgt := 67) cx dX9_isOfKind_1 (by have := sf_ne (k := 0) c1 (by decide +kernel); have := sf_ne (k := 1) c2 (by decide +kernel); have := sf_ne (k := 2) c3 (by decide +kernel); have := sf_ne (k := 3) c4 (by decide +kernel); have := sf_ne (k := 4) c5 (by decide +kernel); have := sf_ne (k := 5) c6 (by decide +kernel); omega) (by decide) ?_
  refine sw_iconst (pc' := 68) (v := 0) cx dX9_isOfKind_67 iconst_0 rfl ?_
  obtain rfl := Option.some.inj hf
  exact sw_zret cx hr (by decide +kernel) hQ dX9_isOfKind_68
def kd_isOf : Nat → Int32 → Option Int32
  | 0, a => f_X9_isOfKind_0 a
  | 1, a => f_X9_isOfKind_1 a
  | 2, a => f_X9_isOfKind_2 a
  | 3, a => f_X9_isOfKind_3 a
  | 4, a => f_X9_isOfKind_4 a
  | _, a => f_X9_isOfKind_5 a
set_option maxRecDepth 100000 in
set_option maxHeartbeats 4000000 in
theorem sw_kisOf {p : Program} {l : Launch} {e : Env} {R : Room} {s : State} {m : MethodId} {args : Array Value} {below : List Frame} {meth : Method} {c : Code} {cells slots : Nat} {Q : State → Prop} {cc : ByteArray} {nL : Nat} {D : sf_D} {cI cJ cK cS : ClassId} {A : Nat → Prop} {ws : va_W} {lv : List (Nat × Value)} {pc pc' : Nat} {rest : List Value} {ka : Nat → Nat} (cx : sf_Cx p m meth c cc nL s args RX9 D (sf_ty cI cJ cK cS) A) (base : Nat) (hk : ∀ j, j < 6 → ws[base + j]? = some (ka j, .inr (kd_ci j, []))) (j : Nat) (hj : j < 6) {a0 : Int32} {r : Int32} (hf : kd_isOf j a0 = some r) (hF : 1 ≤ R.frames) (hL : 21 ≤ R.locals) (hcs : cells ≤ R.cells ∧ slots ≤ R.slots) (hW : (rest.map fun v => v.category).sum ≤ 8) (hdg : decode cc pc = .ok (.invokestatic 132, 3)) (hn : pc + 3 = pc') (k : sf_W p l e R s m args below meth c cells slots Q nL D A ws lv pc' (.int r :: rest)) : sf_W p l e R s m args below meth c cells slots Q nL D A ws lv pc ([.int a0, .ref (ka j)] ++ rest) := by
  match j, hj with
  | 0, _ => exact sw_callS (As := [.ref (ka 0), .int a0]) (rest := rest) cx (k_X9_isOfKind_0 l D (ka 0) cI cJ cK cS a0 r hf) pk_yX9_isOfKind ml_RX9_132 ⟨rfl, rfl⟩ ⟨Nat.le_trans (Nat.le_of_ble_eq_true rfl) hF, Nat.le_trans (Nat.le_of_ble_eq_true rfl) hL⟩ hcs [base + 0] (congrArg (fun x => [x]) (hk 0 (Nat.le_of_ble_eq_true rfl))) rfl rfl (sf_rp1 (hk 0 (Nat.le_of_ble_eq_true rfl))) rfl hW rfl hdg hn k
  | 1, _ => exact sw_callS (As := [.ref (ka 1), .int a0]) (rest := rest) cx (k_X9_isOfKind_1 l D (ka 1) cI cJ cK cS a0 r hf) pk_yX9_isOfKind ml_RX9_132 ⟨rfl, rfl⟩ ⟨Nat.le_trans (Nat.le_of_ble_eq_true rfl) hF, Nat.le_trans (Nat.le_of_ble_eq_true rfl) hL⟩ hcs [base + 1] (congrArg (fun x => [x]) (hk 1 (Nat.le_of_ble_eq_true rfl))) rfl rfl (sf_rp1 (hk 1 (Nat.le_of_ble_eq_true rfl))) rfl hW rfl hdg hn k
  | 2, _ => exact sw_callS (As := [.ref (ka 2), .int a0]) (rest := rest) cx (k_X9_isOfKind_2 l D (ka 2) cI cJ cK cS a0 r hf) pk_yX9_isOfKind ml_RX9_132 ⟨rfl, rfl⟩ ⟨Nat.le_trans (Nat.le_of_ble_eq_true rfl) hF, Nat.le_trans (Nat.le_of_ble_eq_true rfl) hL⟩ hcs [base + 2] (congrArg (fun x => [x]) (hk 2 (Nat.le_of_ble_eq_true rfl))) rfl rfl (sf_rp1 (hk 2 (Nat.le_of_ble_eq_true rfl))) rfl hW rfl hdg hn k
  | 3, _ => exact sw_callS (As := [.ref (ka 3), .int a0]) (rest := rest) cx (k_X9_isOfKind_3 l D (ka 3) cI cJ cK cS a0 r hf) pk_yX9_isOfKind ml_RX9_132 ⟨rfl, rfl⟩ ⟨Nat.le_trans (Nat.le_of_ble_eq_true rfl) hF, Nat.le_trans (Nat.le_of_ble_eq_true rfl) hL⟩ hcs [base + 3] (congrArg (fun x => [x]) (hk 3 (Nat.le_of_ble_eq_true rfl))) rfl rfl (sf_rp1 (hk 3 (Nat.le_of_ble_eq_true rfl))) rfl hW rfl hdg hn k
  | 4, _ => exact sw_callS (As := [.ref (ka 4), .int a0]) (rest := rest) cx (k_X9_isOfKind_4 l D (ka 4) cI cJ cK cS a0 r hf) pk_yX9_isOfKind ml_RX9_132 ⟨rfl, rfl⟩ ⟨Nat.le_trans (Nat.le_of_ble_eq_true rfl) hF, Nat.le_trans (Nat.le_of_ble_eq_true rfl) hL⟩ hcs [base + 4] (congrArg (fun x => [x]) (hk 4 (Nat.le_of_ble_eq_true rfl))) rfl rfl (sf_rp1 (hk 4 (Nat.le_of_ble_eq_true rfl))) rfl hW rfl hdg hn k
  | 5, _ => exact sw_callS (As := [.ref (ka 5), .int a0]) (rest := rest) cx (k_X9_isOfKind_5 l D (ka 5) cI cJ cK cS a0 r hf) pk_yX9_isOfKind ml_RX9_132 ⟨rfl, rfl⟩ ⟨Nat.le_trans (Nat.le_of_ble_eq_true rfl) hF, Nat.le_trans (Nat.le_of_ble_eq_true rfl) hL⟩ hcs [base + 5] (congrArg (fun x => [x]) (hk 5 (Nat.le_of_ble_eq_true rfl))) rfl rfl (sf_rp1 (hk 5 (Nat.le_of_ble_eq_true rfl))) rfl hW rfl hdg hn k
