/-! the texts: String.length, charAt on the class's own constants -/
theorem fl_RJ0_9 : Cond.fieldLink RJ0 9 "java/lang/String" "value" "[B" ∈ sf_gtbl := sf_mem 1286 (by decide +kernel) rfl
theorem fl_RJ0_15 : Cond.fieldLink RJ0 15 "java/lang/String" "coder" "B" ∈ sf_gtbl := sf_mem 1287 (by decide +kernel) rfl
theorem fl_RJ0_38 : Cond.fieldLink RJ0 38 "java/lang/String" "COMPACT_STRINGS" "Z" ∈ sf_gtbl := sf_mem 688 (by decide +kernel) rfl
theorem fl_RJ0_1053 : Cond.fieldLink RJ0 1053 "jdk/internal/util/Preconditions" "SIOOBE_FORMATTER" "Ljava/util/function/BiFunction;" ∈ sf_gtbl := sf_mem 704 (by decide +kernel) rfl
section SS
variable {p : Program} {l : Launch} {e : Env} {R : Room} {s : State} {m : MethodId} {args : Array Value} {below : List Frame} {meth : Method} {c : Code} {cells slots : Nat} {Q : State → Prop} {cc : ByteArray} {nL : Nat} {own : String} {D : sf_D} {tys : List (ClassId × FieldType)} {A : Nat → Prop} {ws : va_W} {lv lv' : List (Nat × Value)} {pc pc' : Nat} {st rest : List Value}
theorem sf_S (cx : sf_Cx p m meth c cc nL s args own D tys A) : sf_St D A s s.heap := cx.2.2.2.2.2.2.2.2.2
theorem sw_getsC (cx : sf_Cx p m meth c cc nL s args RJ0 D tys A) (hdg : decode cc pc = .ok (.getstatic 38, 3)) (hn : pc + 3 = pc') (k : sf_W p l e R s m args below meth c cells slots Q nL D A ws lv pc' (.int 1 :: st)) : sf_W p l e R s m args below meth c cells slots Q nL D A ws lv pc st :=
  fun H locs ls hP hD hS hl => va_gets cx.1 cx.2.1 (sf_S cx).2.2.1 hS cx.2.2.2.1 (cx.2.2.2.2.1 _ fl_RJ0_38) (fun _ h => h) hdg (hn ▸ k H locs ls hP hD hS hl)
theorem sw_getsF (cx : sf_Cx p m meth c cc nL s args RJ0 D tys A) (hdg : decode cc pc = .ok (.getstatic 1053, 3)) (hn : pc + 3 = pc') (k : ∀ v : Value, v = .null ∨ (∃ t, v = .ref t) → sf_W p l e R s m args below meth c cells slots Q nL D A ws lv pc' (v :: st)) : sf_W p l e R s m args below meth c cells slots Q nL D A ws lv pc st := by
  intro H locs ls hP hD hS hl
  rcases (sf_S cx).2.2.2.1 with h | ⟨t, h⟩
  · exact va_gets cx.1 cx.2.1 h hS cx.2.2.2.1 (cx.2.2.2.2.1 _ fl_RJ0_1053) (fun _ h => h) hdg (hn ▸ k .null (Or.inl rfl) H locs ls hP hD hS hl)
  · exact va_gets cx.1 cx.2.1 h hS cx.2.2.2.1 (cx.2.2.2.2.1 _ fl_RJ0_1053) (fun _ h => h) hdg (hn ▸ k (.ref t) (Or.inr ⟨t, rfl⟩) H locs ls hP hD hS hl)
theorem sw_coder (cx : sf_Cx p m meth c cc nL s args RJ0 D tys A) {w : Nat} (hw : w < 13) (hdg : decode cc pc = .ok (.getfield 15, 3)) (hn : pc + 3 = pc') (k : sf_W p l e R s m args below meth c cells slots Q nL D A ws lv pc' (.int 0 :: st)) : sf_W p l e R s m args below meth c cells slots Q nL D A ws lv pc (.ref (D.2.1 w) :: st) :=
  fun H locs ls hP hD hS hl => vk_getf cx.1 cx.2.1 ((sf_S cx).1.1 w hw).2.1 hS cx.2.2.2.1 (cx.2.2.2.2.1 _ fl_RJ0_15) (fun _ h => h) hdg (hn ▸ k H locs ls hP hD hS hl)
theorem sw_value (cx : sf_Cx p m meth c cc nL s args RJ0 D tys A) {w : Nat} (hw : w < 13) (hdg : decode cc pc = .ok (.getfield 9, 3)) (hn : pc + 3 = pc') (k : sf_W p l e R s m args below meth c cells slots Q nL D A ws lv pc' (.ref (D.2.2 w) :: st)) : sf_W p l e R s m args below meth c cells slots Q nL D A ws lv pc (.ref (D.2.1 w) :: st) :=
  fun H locs ls hP hD hS hl => vk_getf cx.1 cx.2.1 ((sf_S cx).1.1 w hw).2.2.1 hS cx.2.2.2.1 (cx.2.2.2.2.1 _ fl_RJ0_9) (fun _ h => h) hdg (hn ▸ k H locs ls hP hD hS hl)
theorem sw_vlen (cx : sf_Cx p m meth c cc nL s args own D tys A) {w : Nat} (hw : w < 13) (hdg : decode cc pc = .ok (.arraylength, 1)) (hn : pc + 1 = pc') (k : sf_W p l e R s m args below meth c cells slots Q nL D A ws lv pc' (.int (Int32.ofNat (sf_len.getD w 0)) :: st)) : sf_W p l e R s m args below meth c cells slots Q nL D A ws lv pc (.ref (D.2.2 w) :: st) :=
  fun H locs ls hP hD hS hl => va_tlen cx.1 cx.2.1 ((sf_S cx).1.1 w hw).2.2.2 hS rfl hdg (hn ▸ k H locs ls hP hD hS hl)
theorem sw_vb (cx : sf_Cx p m meth c cc nL s args own D tys A) {w : Nat} (hw : w < 13) {i : Int32} (hi : vp_in i (sf_len.getD w 0)) (hdg : decode cc pc = .ok (.baload, 1)) (hn : pc + 1 = pc') (k : sf_W p l e R s m args below meth c cells slots Q nL D A ws lv pc' (.int ((sf_byt.getD w []).getD i.toNatClampNeg 0) :: st)) : sf_W p l e R s m args below meth c cells slots Q nL D A ws lv pc (.int i :: .ref (D.2.2 w) :: st) :=
  fun H locs ls hP hD hS hl => va_tb cx.1 cx.2.1 ((sf_S cx).1.1 w hw).2.2.2 hS hi rfl hdg (hn ▸ k H locs ls hP hD hS hl)
theorem sw_callT (cx : sf_Cx p m meth c cc nL s args own D tys A) {y : MethodName} {bytes : ByteArray} {maxL n index : Nat} {ret : Option FieldType} {rm : Room} {o : Option Value} {As : List Value} {w : Nat} (hw : w < 13) (hc : sf_Ct l y bytes maxL ret rm D tys (.ref (D.2.1 w) :: As) [] o []) (pk : sf_PkV y bytes maxL ret n) (hyc : y.cls = "java/lang/String") (hlink : Cond.methodLink own index y ∈ sf_gtbl) (hrm : rm.cells = 0 ∧ rm.slots = 0) (hR : rm.frames + 1 ≤ R.frames ∧ 8 + (maxL + 11) + rm.locals ≤ R.locals) (hcs : cells ≤ R.cells ∧ slots ≤ R.slots) (hnA : As.length = n) (hW : (rest.map fun v => v.category).sum ≤ 8) (hst : st = As.reverse ++ .ref (D.2.1 w) :: rest) (hdg : decode cc pc = .ok (.invokevirtual index, 3)) (hn : pc + 3 = pc') (k : sf_W p l e R s m args below meth c cells slots Q nL D A ws lv pc' (o.toList ++ rest)) : sf_W p l e R s m args below meth c cells slots Q nL D A ws lv pc st := by
  intro H locs ls hP hD hS hl
  refine sf_go cx (va_runV ⟨cx.1, cx.2.1, cx.2.2.1, cx.2.2.2.1, cx.2.2.2.2.1⟩ (hc H.size) ⟨sf_callB cx pk.1 hlink hrm hR, cx.2.2.2.2.1 _ pk.2.1, cx.2.2.2.2.1 _ pk.2.2⟩ ⟨sf_Pc_blind, hyc ▸ vk_recv (sf_S cx).1 hw hS, sf_pre cx hP hD hS [] rfl rfl⟩ rfl hnA hl.1 hst (lv_room hW) hdg hcs) hP hD hS hl [] rfl rfl rfl rfl hn k
theorem sw_aloadV (cx : sf_Cx p m meth c cc nL s args own D tys A) {j : Fin 4} {i : Nat} {v : Value} (hv : v = .null ∨ ∃ t, v = .ref t) (hdg : decode cc pc = .ok (.aload_n j, 1)) (hi : (j : Nat) = i) (k0 : Nat) (hk : lv[k0]? = some (i, v)) (hn : pc + 1 = pc') (k : sf_W p l e R s m args below meth c cells slots Q nL D A ws lv pc' (v :: st)) : sf_W p l e R s m args below meth c cells slots Q nL D A ws lv pc st := by
  rcases hv with rfl | ⟨t, rfl⟩
  · exact fun H locs ls hP hD hS hl => lv_aload_nN cx.1 cx.2.1 hdg hi (lv_at hl k0 hk) (hn ▸ k H locs ls hP hD hS hl)
  · exact sw_aload_n cx hdg hi k0 hk hn k
end SS
abbrev rm_s0 : Room := ({ frames := 0, cells := 0, slots := 0, locals := 0 } : Room)
abbrev rm_s1 : Room := ({ frames := 1, cells := 0, slots := 0, locals := 22 } : Room)
abbrev rm_s2 : Room := ({ frames := 2, cells := 0, slots := 0, locals := 43 } : Room)
abbrev rm_s3 : Room := ({ frames := 3, cells := 0, slots := 0, locals := 64 } : Room)
set_option maxRecDepth 100000 in
set_option maxHeartbeats 4000000 in
theorem k_coder (l : Launch) (D : sf_D) (tys : List (ClassId × FieldType)) (w : Nat) (hw : w < 13) : sf_Ct l yJ0_coder_7d493 cJ0_coder_7d493 1 (some .byte) rm_s0 D tys [.ref (D.2.1 w)] [] (some (.int 0)) [] := by
  refine sf_met (lv := [(0, .ref (D.2.1 w))]) (by decide) (Nat.le_of_ble_eq_true rfl) rfl ?_
  intro p e s m args below meth c A Q cx hr hQ
  have cx : sf_Cx p m meth c cJ0_coder_7d493 1 s args RJ0 D tys A := cx
  refine sw_getsC (pc' := 3) cx dJ0_coder_7d493_0 rfl ?_
  refine sw_if_eq (pc' := 6) (tgt := 13) cx dJ0_coder_7d493_3 (by decide) rfl (fun c1 => absurd c1 (by decide)) (fun c1 => ?_)
  refine sw_aload_n (pc' := 7) (i := 0) cx dJ0_coder_7d493_6 rfl 0 rfl rfl ?_
  refine sw_coder (pc' := 10) cx hw dJ0_coder_7d493_7 rfl ?_
  refine sw_goto (tgt := 14) cx dJ0_coder_7d493_10 (by decide) ?_
  exact sw_zret cx hr (by decide +kernel) hQ dJ0_coder_7d493_14
set_option maxRecDepth 100000 in
set_option maxHeartbeats 4000000 in
theorem k_isLatin1 (l : Launch) (D : sf_D) (tys : List (ClassId × FieldType)) (w : Nat) (hw : w < 13) : sf_Ct l yJ0_isLatin1_aae02 cJ0_isLatin1_aae02 1 (some .boolean) rm_s0 D tys [.ref (D.2.1 w)] [] (some (.int 1)) [] := by
  refine sf_met (lv := [(0, .ref (D.2.1 w))]) (by decide) (Nat.le_of_ble_eq_true rfl) rfl ?_
  intro p e s m args below meth c A Q cx hr hQ
  have cx : sf_Cx p m meth c cJ0_isLatin1_aae02 1 s args RJ0 D tys A := cx
  refine sw_getsC (pc' := 3) cx dJ0_isLatin1_aae02_0 rfl ?_
  refine sw_if_eq (pc' := 6) (tgt := 17) cx dJ0_isLatin1_aae02_3 (by decide) rfl (fun c1 => absurd c1 (by decide)) (fun c1 => ?_)
  refine sw_aload_n (pc' := 7) (i := 0) cx dJ0_isLatin1_aae02_6 rfl 0 rfl rfl ?_
  refine sw_coder (pc' := 10) cx hw dJ0_isLatin1_aae02_7 rfl ?_
  refine sw_if_ne (pc' := 13) (tgt := 17) cx dJ0_isLatin1_aae02_10 (by decide) rfl (fun c1 => absurd rfl c1) (fun c1 => ?_)
  refine sw_iconst (pc' := 14) (v := 1) cx dJ0_isLatin1_aae02_13 iconst_1 rfl ?_
  refine sw_goto (tgt := 18) cx dJ0_isLatin1_aae02_14 (by decide) ?_
  exact sw_zret cx hr (by decide +kernel) hQ dJ0_isLatin1_aae02_18
theorem sf_shr0 : ∀ i, i < 13 → Int32.ofNat (sf_len.getD i 0) >>> ((0 : Int32) &&& 31) = Int32.ofNat (sf_len.getD i 0) := by decide +kernel
set_option maxRecDepth 100000 in
set_option maxHeartbeats 4000000 in
theorem k_slen (l : Launch) (D : sf_D) (tys : List (ClassId × FieldType)) (w : Nat) (hw : w < 13) : sf_Ct l yJ0_length_8abf5 cJ0_length_8abf5 1 (some .int) rm_s1 D tys [.ref (D.2.1 w)] [] (some (.int (Int32.ofNat (sf_len.getD w 0)))) [] := by
  refine sf_met (lv := [(0, .ref (D.2.1 w))]) (by decide) (Nat.le_of_ble_eq_true rfl) rfl ?_
  intro p e s m args below meth c A Q cx hr hQ
  have cx : sf_Cx p m meth c cJ0_length_8abf5 1 s args RJ0 D tys A := cx
  refine sw_aload_n (pc' := 1) (i := 0) cx dJ0_length_8abf5_0 rfl 0 rfl rfl ?_
  refine sw_value (pc' := 4) cx hw dJ0_length_8abf5_1 rfl ?_
  refine sw_vlen (pc' := 5) cx hw dJ0_length_8abf5_4 rfl ?_
  refine sw_aload_n (pc' := 6) (i := 0) cx dJ0_length_8abf5_5 rfl 0 rfl rfl ?_
  refine sw_callT (pc' := 9) (As := []) (rest := [.int (Int32.ofNat (sf_len.getD w 0))]) cx hw (k_coder l D tys w hw) pk_yJ0_coder_7d493 rfl ml_RJ0_335 ⟨rfl, rfl⟩ ⟨Nat.le_of_ble_eq_true rfl, Nat.le_of_ble_eq_true rfl⟩ ⟨Nat.le_of_ble_eq_true rfl, Nat.le_of_ble_eq_true rfl⟩ rfl (Nat.le_of_ble_eq_true rfl) rfl dJ0_length_8abf5_6 rfl ?_
  refine sw_ishr (pc' := 10) cx dJ0_length_8abf5_9 rfl ?_
  refine sw_eq (st2 := [.int (Int32.ofNat (sf_len.getD w 0))]) rfl rfl rfl (congrArg (fun x => [Value.int x]) (sf_shr0 w hw)) ?_
  exact sw_iret cx hr hQ dJ0_length_8abf5_10
set_option maxRecDepth 100000 in
set_option maxHeartbeats 4000000 in
theorem k_check3 (l : Launch) (D : sf_D) (tys : List (ClassId × FieldType)) (i n : Int32) (v : Value) (hv : v = .null ∨ ∃ t, v = .ref t) (h0 : ¬ i < 0) (h1 : i < n) : sf_Ct l yJ3_checkIndex_8e157 cJ3_checkIndex_8e157 3 (some .int) rm_s0 D tys [.int i, .int n, v] [] (some (.int i)) [] := by
  refine sf_met (lv := [(0, .int i), (1, .int n), (2, v)]) (by decide) ?_ rfl ?_
  · rcases hv with rfl | ⟨t, rfl⟩ <;> exact Nat.le_of_ble_eq_true rfl
  intro p e s m args below meth c A Q cx hr hQ
  have cx : sf_Cx p m meth c cJ3_checkIndex_8e157 3 s args RJ3 D tys A := cx
  refine sw_iload_n (pc' := 1) (i := 0) cx dJ3_checkIndex_8e157_0 rfl 0 rfl rfl ?_
  refine sw_if_lt (pc' := 4) (tgt := 9) cx dJ3_checkIndex_8e157_1 (by decide) rfl (fun c1 => absurd c1 h0) (fun c1 => ?_)
  refine sw_iload_n (pc' := 5) (i := 0) cx dJ3_checkIndex_8e157_4 rfl 0 rfl rfl ?_
  refine sw_iload_n (pc' := 6) (i := 1) cx dJ3_checkIndex_8e157_5 rfl 1 rfl rfl ?_
  refine sw_icmp_lt (pc' := 9) (tgt := 16) cx dJ3_checkIndex_8e157_6 (by decide) rfl (fun c2 => ?_) (fun c2 => absurd h1 c2)
  refine sw_iload_n (pc' := 17) (i := 0) cx dJ3_checkIndex_8e157_16 rfl 0 rfl rfl ?_
  exact sw_iret cx hr hQ dJ3_checkIndex_8e157_17
set_option maxRecDepth 100000 in
set_option maxHeartbeats 4000000 in
theorem k_check0 (l : Launch) (D : sf_D) (tys : List (ClassId × FieldType)) (i n : Int32) (h0 : ¬ i < 0) (h1 : i < n) : sf_Ct l yJ0_checkIndex_df160 cJ0_checkIndex_df160 2 none rm_s1 D tys [.int i, .int n] [] none [] := by
  refine sf_met (lv := [(0, .int i), (1, .int n)]) (by decide) (Nat.le_of_ble_eq_true rfl) rfl ?_
  intro p e s m args below meth c A Q cx hr hQ
  have cx : sf_Cx p m meth c cJ0_checkIndex_df160 2 s args RJ0 D tys A := cx
  refine sw_iload_n (pc' := 1) (i := 0) cx dJ0_checkIndex_df160_0 rfl 0 rfl rfl ?_
  refine sw_iload_n (pc' := 2) (i := 1) cx dJ0_checkIndex_df160_1 rfl 1 rfl rfl ?_
  refine sw_getsF (pc' := 5) cx dJ0_checkIndex_df160_2 rfl (fun v hv => ?_)
  refine sw_callS (pc' := 8) (As := [.int i, .int n, v]) (rest := []) cx (k_check3 l D tys i n v hv h0 h1) pk_yJ3_checkIndex_8e157 ml_RJ0_1059 ⟨rfl, rfl⟩ ⟨Nat.le_of_ble_eq_true rfl, Nat.le_of_ble_eq_true rfl⟩ ⟨Nat.le_of_ble_eq_true rfl, Nat.le_of_ble_eq_true rfl⟩ [] rfl rfl rfl (wn := []) rfl rfl (Nat.le_of_ble_eq_true rfl) rfl dJ0_checkIndex_df160_5 rfl ?_
  refine sw_pop (pc' := 9) cx dJ0_checkIndex_df160_8 rfl rfl ?_
  exact sw_vret cx hr hQ dJ0_checkIndex_df160_9
def sf_chr (w : Nat) (i : Int32) : Int32 := (((sf_byt.getD w []).getD i.toNatClampNeg 0 &&& 255).toUInt32 % 65536).toInt32
theorem sf_len31 : ∀ w, w < 13 → sf_len.getD w 0 < 2 ^ 31 := by decide +kernel
theorem sf_lenlt {w : Nat} {i : Int32} (h : vp_in i (sf_len.getD w 0)) (hw : w < 13) : ¬ i < 0 ∧ i < Int32.ofNat (sf_len.getD w 0) := by
  have hb : sf_len.getD w 0 < 2 ^ 31 := sf_len31 w hw
  obtain ⟨j, hj, rfl⟩ := vp_in_of h hb
  exact ⟨nI_pos (by omega), nI_lt hj hb⟩
set_option maxRecDepth 100000 in
set_option maxHeartbeats 4000000 in
theorem k_lchar (l : Launch) (D : sf_D) (tys : List (ClassId × FieldType)) (w : Nat) (hw : w < 13) (i : Int32) (hi : vp_in i (sf_len.getD w 0)) : sf_Ct l yJ1_charAt_3b067 cJ1_charAt_3b067 2 (some .char) rm_s2 D tys [.ref (D.2.2 w), .int i] [] (some (.int (sf_chr w i))) [] := by
  refine sf_met (lv := [(0, .ref (D.2.2 w)), (1, .int i)]) (by decide) (Nat.le_of_ble_eq_true rfl) rfl ?_
  intro p e s m args below meth c A Q cx hr hQ
  have cx : sf_Cx p m meth c cJ1_charAt_3b067 2 s args RJ1 D tys A := cx
  obtain ⟨h0, h1⟩ := sf_lenlt hi hw
  refine sw_iload_n (pc' := 1) (i := 1) cx dJ1_charAt_3b067_0 rfl 1 rfl rfl ?_
  refine sw_aload_n (pc' := 2) (i := 0) cx dJ1_charAt_3b067_1 rfl 0 rfl rfl ?_
  refine sw_vlen (pc' := 3) cx hw dJ1_charAt_3b067_2 rfl ?_
  refine sw_callS (pc' := 6) (As := [.int i, .int (Int32.ofNat (sf_len.getD w 0))]) (rest := []) cx (k_check0 l D tys i _ h0 h1) pk_yJ0_checkIndex_df160 ml_RJ1_9 ⟨rfl, rfl⟩ ⟨Nat.le_of_ble_eq_true rfl, Nat.le_of_ble_eq_true rfl⟩ ⟨Nat.le_of_ble_eq_true rfl, Nat.le_of_ble_eq_true rfl⟩ [] rfl rfl rfl (wn := []) rfl rfl (Nat.le_of_ble_eq_true rfl) rfl dJ1_charAt_3b067_3 rfl ?_
  refine sw_aload_n (pc' := 7) (i := 0) cx dJ1_charAt_3b067_6 rfl 0 rfl rfl ?_
  refine sw_iload_n (pc' := 8) (i := 1) cx dJ1_charAt_3b067_7 rfl 1 rfl rfl ?_
  refine sw_vb (pc' := 9) cx hw hi dJ1_charAt_3b067_8 rfl ?_
  refine sw_sipush (pc' := 12) (v := 255) cx dJ1_charAt_3b067_9 (by decide +kernel) rfl ?_
  refine sw_iand (pc' := 13) cx dJ1_charAt_3b067_12 rfl ?_
  refine sw_i2c (pc' := 14) cx dJ1_charAt_3b067_13 rfl ?_
  exact sw_zret cx hr (pk_nc _) hQ dJ1_charAt_3b067_14
set_option maxRecDepth 100000 in
set_option maxHeartbeats 4000000 in
theorem k_schar (l : Launch) (D : sf_D) (tys : List (ClassId × FieldType)) (w : Nat) (hw : w < 13) (i : Int32) (hi : vp_in i (sf_len.getD w 0)) : sf_Ct l yJ0_charAt_5068e cJ0_charAt_5068e 2 (some .char) rm_s3 D tys [.ref (D.2.1 w), .int i] [] (some (.int (sf_chr w i))) [] := by
  refine sf_met (lv := [(0, .ref (D.2.1 w)), (1, .int i)]) (by decide) (Nat.le_of_ble_eq_true rfl) rfl ?_
  intro p e s m args below meth c A Q cx hr hQ
  have cx : sf_Cx p m meth c cJ0_charAt_5068e 2 s args RJ0 D tys A := cx
  refine sw_aload_n (pc' := 1) (i := 0) cx dJ0_charAt_5068e_0 rfl 0 rfl rfl ?_
  refine sw_callT (pc' := 4) (As := []) (rest := []) cx hw (k_isLatin1 l D tys w hw) pk_yJ0_isLatin1_aae02 rfl ml_RJ0_492 ⟨rfl, rfl⟩ ⟨Nat.le_of_ble_eq_true rfl, Nat.le_of_ble_eq_true rfl⟩ ⟨Nat.le_of_ble_eq_true rfl, Nat.le_of_ble_eq_true rfl⟩ rfl (Nat.le_of_ble_eq_true rfl) rfl dJ0_charAt_5068e_1 rfl ?_
  refine sw_if_eq (pc' := 7) (tgt := 16) cx dJ0_charAt_5068e_4 (by decide) rfl (fun c1 => absurd c1 (by decide)) (fun c1 => ?_)
  refine sw_aload_n (pc' := 8) (i := 0) cx dJ0_charAt_5068e_7 rfl 0 rfl rfl ?_
  refine sw_value (pc' := 11) cx hw dJ0_charAt_5068e_8 rfl ?_
  refine sw_iload_n (pc' := 12) (i := 1) cx dJ0_charAt_5068e_11 rfl 1 rfl rfl ?_
  refine sw_callS (pc' := 15) (As := [.ref (D.2.2 w), .int i]) (rest := []) cx (k_lchar l D tys w hw i hi) pk_yJ1_charAt_3b067 ml_RJ0_495 ⟨rfl, rfl⟩ ⟨Nat.le_of_ble_eq_true rfl, Nat.le_of_ble_eq_true rfl⟩ ⟨Nat.le_of_ble_eq_true rfl, Nat.le_of_ble_eq_true rfl⟩ [] rfl rfl rfl (wn := []) rfl rfl (Nat.le_of_ble_eq_true rfl) rfl dJ0_charAt_5068e_12 rfl ?_
  exact sw_zret cx hr (pk_nc _) hQ dJ0_charAt_5068e_15
