/-! the law: its calls, one by one -/
section LC
variable {p : Program} {l : Launch} {e : Env} {s : State} {m : MethodId} {args : Array Value} {below : List Frame} {meth : Method} {c : Code} {Q : State → Prop} {D : sf_D} {A : Nat → Prop} {g m0 m1 m2 ka sa sn h : Nat → Nat} {cI cJ cK cS : ClassId} {b i L : Nat} {xs : Nat → Int32}
theorem cs_wipe (cx : sf_Cx p m meth c cL_law 4 s args RL D (sf_ty cI cJ cK cS) A) (X : LX s A b L xs i) (K : LG p l e s m args below meth c Q D A g m0 m1 m2 ka sa sn h cI cJ cK cS b i 1399) : LG p l e s m args below meth c Q D A g m0 m1 m2 ka sa sn h cI cJ cK cS b i 1029 := by
  intro mu tr ke kp tby tlen ttok tsta tbeh tnum ttak sh fi row fnd tape tmany sort begs tends word valu good bits size shts lent imag befo kept hR
  obtain ⟨r, hc, hm, xRT⟩ := op_wipe hR.2.2.2.1
  refine sw_aload_n (pc' := 1030) cx dL_law_1029 rfl 2 rfl rfl ?_
  refine sw_callA (As := []) (rest := []) (pc' := 1033) cx (k_X9_wipe l D g m0 m1 m2 ka sa sn cI cJ cK cS mu tr ke kp tby tlen ttok tsta tbeh tnum ttak sh fi  _ hc) pk_yX9_wipe ml_RL_140 ⟨rfl, rfl⟩ ⟨Nat.le_of_ble_eq_true rfl, Nat.le_of_ble_eq_true rfl⟩ ⟨Nat.le_of_ble_eq_true rfl, Nat.le_of_ble_eq_true rfl⟩ sx_adr sx_0 rfl rfl rfl (Nat.le_of_ble_eq_true rfl) rfl dL_law_1030 rfl ?_
  refine sw_aload_n (pc' := 1034) cx dL_law_1033 rfl 1 rfl rfl ?_
  refine sw_callB (As := []) (rest := [.int r]) (pc' := 1037) cx (k_X10_wipe l D h cI cJ cK cS row (nI 0) fnd tape tmany sort begs tends word valu good bits size shts lent imag befo kept  _ hm) pk_yX10_wipe ml_RL_143 ⟨rfl, rfl⟩ ⟨Nat.le_of_ble_eq_true rfl, Nat.le_of_ble_eq_true rfl⟩ ⟨Nat.le_of_ble_eq_true rfl, Nat.le_of_ble_eq_true rfl⟩ rfl rfl rfl rfl rfl (Nat.le_of_ble_eq_true rfl) rfl dL_law_1034 rfl ?_
  refine sw_icmp_eq (tgt := 1399) (pc' := 1040) cx dL_law_1037 (by decide) rfl (fun _ => ?_) (fun hne => absurd rfl hne)
  exact K _ _ _ _ _ _ _ _ _ _ _ _ _ _ _ _ _ _ _ _ _ _ _ _ _ _ _ _ _ _ ⟨hR.1, hR.2.1, hR.2.2.1, xRT, hR.2.2.2.2⟩
theorem cs_court (cx : sf_Cx p m meth c cL_law 4 s args RL D (sf_ty cI cJ cK cS) A) (X : LX s A b L xs i) (K : LG p l e s m args below meth c Q D A g m0 m1 m2 ka sa sn h cI cJ cK cS b i 1399) : LG p l e s m args below meth c Q D A g m0 m1 m2 ka sa sn h cI cJ cK cS b i 1042 := by
  intro mu tr ke kp tby tlen ttok tsta tbeh tnum ttak sh fi row fnd tape tmany sort begs tends word valu good bits size shts lent imag befo kept hR
  obtain ⟨r, muq_n, trq_n, c1_n, c2_n, c3_n, c4_n, c5_n, rowq_n, m1_n, m2_n, m3_n, m4_n, m5_n, m6_n, befoq_n, hc, hm, xRA⟩ := op_court hR.1 hR.2.2.2.1 tr ttok tsta tbeh tnum ttak sort begs tends word valu good befo
  refine sw_aload_n (pc' := 1043) cx dL_law_1042 rfl 2 rfl rfl ?_
  refine sw_callA (As := []) (rest := []) (pc' := 1046) cx (k_X9_court l D g m0 m1 m2 ka sa sn cI cJ cK cS mu tr ke kp tby tlen ttok tsta tbeh tnum ttak sh fi  _ hc) pk_yX9_court ml_RL_144 ⟨rfl, rfl⟩ ⟨Nat.le_of_ble_eq_true rfl, Nat.le_of_ble_eq_true rfl⟩ ⟨Nat.le_of_ble_eq_true rfl, Nat.le_of_ble_eq_true rfl⟩ sx_adr sx_0 rfl rfl rfl (Nat.le_of_ble_eq_true rfl) rfl dL_law_1043 rfl ?_
  refine sw_aload_n (pc' := 1047) cx dL_law_1046 rfl 1 rfl rfl ?_
  refine sw_callB (As := []) (rest := [.int r]) (pc' := 1050) cx (k_X10_court l D h cI cJ cK cS row (nI 0) fnd tape tmany sort begs tends word valu good bits size shts lent imag befo kept  _ hm) pk_yX10_court ml_RL_147 ⟨rfl, rfl⟩ ⟨Nat.le_of_ble_eq_true rfl, Nat.le_of_ble_eq_true rfl⟩ ⟨Nat.le_of_ble_eq_true rfl, Nat.le_of_ble_eq_true rfl⟩ rfl rfl rfl rfl rfl (Nat.le_of_ble_eq_true rfl) rfl dL_law_1047 rfl ?_
  refine sw_icmp_eq (tgt := 1399) (pc' := 1053) cx dL_law_1050 (by decide) rfl (fun _ => ?_) (fun hne => absurd rfl hne)
  exact K _ _ _ _ _ _ _ _ _ _ _ _ _ _ _ _ _ _ _ _ _ _ _ _ _ _ _ _ _ _ ⟨xRA, hR.2.1, hR.2.2.1, RT_0, hR.2.2.2.2⟩
theorem cs_sheet (cx : sf_Cx p m meth c cL_law 4 s args RL D (sf_ty cI cJ cK cS) A) (X : LX s A b L xs i) (K : LG p l e s m args below meth c Q D A g m0 m1 m2 ka sa sn h cI cJ cK cS b i 1399) : LG p l e s m args below meth c Q D A g m0 m1 m2 ka sa sn h cI cJ cK cS b i 1055 := by
  intro mu tr ke kp tby tlen ttok tsta tbeh tnum ttak sh fi row fnd tape tmany sort begs tends word valu good bits size shts lent imag befo kept hR
  obtain ⟨r, shq_n, fiq_n, fndq_n, bitsq_n, sizeq_n, shtsq_n, hc, hm, xRH, xRF⟩ := op_sheet hR.2.1 hR.2.2.2.2 (xs (i + 1)) (xs (i + 2)) (xs (i + 3))
  refine sw_aload_n (pc' := 1056) cx dL_law_1055 rfl 2 rfl rfl ?_
  refine sw_scr (pc' := 1061) cx X 1 (by decide) (by decide) dL_law_1056 dL_law_1057 dL_law_1058 dL_law_1059 dL_law_1060 rfl ?_
  refine sw_scr (pc' := 1066) cx X 2 (by decide) (by decide) dL_law_1061 dL_law_1062 dL_law_1063 dL_law_1064 dL_law_1065 rfl ?_
  refine sw_scr (pc' := 1071) cx X 3 (by decide) (by decide) dL_law_1066 dL_law_1067 dL_law_1068 dL_law_1069 dL_law_1070 rfl ?_
  refine sw_callA (As := [.int (xs (i + 1)), .int (xs (i + 2)), .int (xs (i + 3))]) (rest := []) (pc' := 1074) cx (k_X9_sheet l D g m0 m1 m2 ka sa sn cI cJ cK cS mu tr ke kp tby tlen ttok tsta tbeh tnum ttak sh fi (xs (i + 1)) (xs (i + 2)) (xs (i + 3)) _ hc) pk_yX9_sheet ml_RL_148 ⟨rfl, rfl⟩ ⟨Nat.le_of_ble_eq_true rfl, Nat.le_of_ble_eq_true rfl⟩ ⟨Nat.le_of_ble_eq_true rfl, Nat.le_of_ble_eq_true rfl⟩ sx_adr sx_0 rfl rfl rfl (Nat.le_of_ble_eq_true rfl) rfl dL_law_1071 rfl ?_
  refine sw_aload_n (pc' := 1075) cx dL_law_1074 rfl 1 rfl rfl ?_
  refine sw_scr (pc' := 1080) cx X 1 (by decide) (by decide) dL_law_1075 dL_law_1076 dL_law_1077 dL_law_1078 dL_law_1079 rfl ?_
  refine sw_scr (pc' := 1085) cx X 2 (by decide) (by decide) dL_law_1080 dL_law_1081 dL_law_1082 dL_law_1083 dL_law_1084 rfl ?_
  refine sw_scr (pc' := 1090) cx X 3 (by decide) (by decide) dL_law_1085 dL_law_1086 dL_law_1087 dL_law_1088 dL_law_1089 rfl ?_
  refine sw_callB (As := [.int (xs (i + 1)), .int (xs (i + 2)), .int (xs (i + 3))]) (rest := [.int r]) (pc' := 1093) cx (k_X10_sheet l D h cI cJ cK cS row (nI 0) fnd tape tmany sort begs tends word valu good bits size shts lent imag befo kept (xs (i + 1)) (xs (i + 2)) (xs (i + 3)) _ hm) pk_yX10_sheet ml_RL_151 ⟨rfl, rfl⟩ ⟨Nat.le_of_ble_eq_true rfl, Nat.le_of_ble_eq_true rfl⟩ ⟨Nat.le_of_ble_eq_true rfl, Nat.le_of_ble_eq_true rfl⟩ rfl rfl rfl rfl rfl (Nat.le_of_ble_eq_true rfl) rfl dL_law_1090 rfl ?_
  refine sw_icmp_eq (tgt := 1399) (pc' := 1096) cx dL_law_1093 (by decide) rfl (fun _ => ?_) (fun hne => absurd rfl hne)
  exact K _ _ _ _ _ _ _ _ _ _ _ _ _ _ _ _ _ _ _ _ _ _ _ _ _ _ _ _ _ _ ⟨hR.1, xRF, hR.2.2.1, hR.2.2.2.1, xRH⟩
theorem cs_write (cx : sf_Cx p m meth c cL_law 4 s args RL D (sf_ty cI cJ cK cS) A) (X : LX s A b L xs i) (K : LG p l e s m args below meth c Q D A g m0 m1 m2 ka sa sn h cI cJ cK cS b i 1399) : LG p l e s m args below meth c Q D A g m0 m1 m2 ka sa sn h cI cJ cK cS b i 1098 := by
  intro mu tr ke kp tby tlen ttok tsta tbeh tnum ttak sh fi row fnd tape tmany sort begs tends word valu good bits size shts lent imag befo kept hR
  obtain ⟨r, shq_n, fiq_n, fndq_n, shtsq_n, hc, hm, xRH, xRF⟩ := op_write hR.2.1 hR.2.2.2.2 (xs (i + 1)) (xs (i + 2)) ((((xs (i + 3))).toInt64 <<< (((32 : Int32)).toInt64 &&& 63)) ||| (((xs (i + 4))).toInt64 &&& (4294967295 : Int64)))
  refine sw_aload_n (pc' := 1099) cx dL_law_1098 rfl 2 rfl rfl ?_
  refine sw_scr (pc' := 1104) cx X 1 (by decide) (by decide) dL_law_1099 dL_law_1100 dL_law_1101 dL_law_1102 dL_law_1103 rfl ?_
  refine sw_scr (pc' := 1109) cx X 2 (by decide) (by decide) dL_law_1104 dL_law_1105 dL_law_1106 dL_law_1107 dL_law_1108 rfl ?_
  refine sw_scr (pc' := 1114) cx X 3 (by decide) (by decide) dL_law_1109 dL_law_1110 dL_law_1111 dL_law_1112 dL_law_1113 rfl ?_
  refine sw_i2l (pc' := 1115) cx dL_law_1114 rfl ?_
  refine sw_bipush (pc' := 1117) (v := 32) cx dL_law_1115 (by decide) rfl ?_
  refine sw_lshl (pc' := 1118) cx dL_law_1117 rfl ?_
  refine sw_scr (pc' := 1123) cx X 4 (by decide) (by decide) dL_law_1118 dL_law_1119 dL_law_1120 dL_law_1121 dL_law_1122 rfl ?_
  refine sw_i2l (pc' := 1124) cx dL_law_1123 rfl ?_
  refine sw_ldc2_w (pc' := 1127) cx cl_RL_152 dL_law_1124 rfl ?_
  refine sw_land (pc' := 1128) cx dL_law_1127 rfl ?_
  refine sw_lor (pc' := 1129) cx dL_law_1128 rfl ?_
  refine sw_callA (As := [.int (xs (i + 1)), .int (xs (i + 2)), .long ((((xs (i + 3))).toInt64 <<< (((32 : Int32)).toInt64 &&& 63)) ||| (((xs (i + 4))).toInt64 &&& (4294967295 : Int64)))]) (rest := []) (pc' := 1132) cx (k_X9_write l D g m0 m1 m2 ka sa sn cI cJ cK cS mu tr ke kp tby tlen ttok tsta tbeh tnum ttak sh fi (xs (i + 1)) (xs (i + 2)) ((((xs (i + 3))).toInt64 <<< (((32 : Int32)).toInt64 &&& 63)) ||| (((xs (i + 4))).toInt64 &&& (4294967295 : Int64))) _ hc) pk_yX9_write ml_RL_154 ⟨rfl, rfl⟩ ⟨Nat.le_of_ble_eq_true rfl, Nat.le_of_ble_eq_true rfl⟩ ⟨Nat.le_of_ble_eq_true rfl, Nat.le_of_ble_eq_true rfl⟩ sx_adr sx_0 rfl rfl rfl (Nat.le_of_ble_eq_true rfl) rfl dL_law_1129 rfl ?_
  refine sw_aload_n (pc' := 1133) cx dL_law_1132 rfl 1 rfl rfl ?_
  refine sw_scr (pc' := 1138) cx X 1 (by decide) (by decide) dL_law_1133 dL_law_1134 dL_law_1135 dL_law_1136 dL_law_1137 rfl ?_
  refine sw_scr (pc' := 1143) cx X 2 (by decide) (by decide) dL_law_1138 dL_law_1139 dL_law_1140 dL_law_1141 dL_law_1142 rfl ?_
  refine sw_scr (pc' := 1148) cx X 3 (by decide) (by decide) dL_law_1143 dL_law_1144 dL_law_1145 dL_law_1146 dL_law_1147 rfl ?_
  refine sw_i2l (pc' := 1149) cx dL_law_1148 rfl ?_
  refine sw_bipush (pc' := 1151) (v := 32) cx dL_law_1149 (by decide) rfl ?_
  refine sw_lshl (pc' := 1152) cx dL_law_1151 rfl ?_
  refine sw_scr (pc' := 1157) cx X 4 (by decide) (by decide) dL_law_1152 dL_law_1153 dL_law_1154 dL_law_1155 dL_law_1156 rfl ?_
  refine sw_i2l (pc' := 1158) cx dL_law_1157 rfl ?_
  refine sw_ldc2_w (pc' := 1161) cx cl_RL_152 dL_law_1158 rfl ?_
  refine sw_land (pc' := 1162) cx dL_law_1161 rfl ?_
  refine sw_lor (pc' := 1163) cx dL_law_1162 rfl ?_
  refine sw_callB (As := [.int (xs (i + 1)), .int (xs (i + 2)), .long ((((xs (i + 3))).toInt64 <<< (((32 : Int32)).toInt64 &&& 63)) ||| (((xs (i + 4))).toInt64 &&& (4294967295 : Int64)))]) (rest := [.long r]) (pc' := 1166) cx (k_X10_write l D h cI cJ cK cS row (nI 0) fnd tape tmany sort begs tends word valu good bits size shts lent imag befo kept (xs (i + 1)) (xs (i + 2)) ((((xs (i + 3))).toInt64 <<< (((32 : Int32)).toInt64 &&& 63)) ||| (((xs (i + 4))).toInt64 &&& (4294967295 : Int64))) _ hm) pk_yX10_write ml_RL_158 ⟨rfl, rfl⟩ ⟨Nat.le_of_ble_eq_true rfl, Nat.le_of_ble_eq_true rfl⟩ ⟨Nat.le_of_ble_eq_true rfl, Nat.le_of_ble_eq_true rfl⟩ rfl rfl rfl rfl rfl (Nat.le_of_ble_eq_true rfl) rfl dL_law_1163 rfl ?_
  refine sw_lcmp (pc' := 1167) cx dL_law_1166 rfl ?_
  refine sw_if_eq (tgt := 1399) (pc' := 1170) cx dL_law_1167 (by decide) rfl (fun _ => ?_) (fun hne => absurd ((lg_cmp_eq r r).mpr rfl) hne)
  exact K _ _ _ _ _ _ _ _ _ _ _ _ _ _ _ _ _ _ _ _ _ _ _ _ _ _ _ _ _ _ ⟨hR.1, xRF, hR.2.2.1, hR.2.2.2.1, xRH⟩
theorem cs_copy (cx : sf_Cx p m meth c cL_law 4 s args RL D (sf_ty cI cJ cK cS) A) (X : LX s A b L xs i) (K : LG p l e s m args below meth c Q D A g m0 m1 m2 ka sa sn h cI cJ cK cS b i 1399) : LG p l e s m args below meth c Q D A g m0 m1 m2 ka sa sn h cI cJ cK cS b i 1172 := by
  intro mu tr ke kp tby tlen ttok tsta tbeh tnum ttak sh fi row fnd tape tmany sort begs tends word valu good bits size shts lent imag befo kept hR
  obtain ⟨r, shq_n, fiq_n, fndq_n, shtsq_n, lentq_n, hc, hm, xRH, xRF⟩ := op_copy hR.2.1 hR.2.2.2.2 lent (xs (i + 1)) (xs (i + 2)) (xs (i + 3)) (xs (i + 4)) (xs (i + 5))
  refine sw_aload_n (pc' := 1173) cx dL_law_1172 rfl 2 rfl rfl ?_
  refine sw_scr (pc' := 1178) cx X 1 (by decide) (by decide) dL_law_1173 dL_law_1174 dL_law_1175 dL_law_1176 dL_law_1177 rfl ?_
  refine sw_scr (pc' := 1183) cx X 2 (by decide) (by decide) dL_law_1178 dL_law_1179 dL_law_1180 dL_law_1181 dL_law_1182 rfl ?_
  refine sw_scr (pc' := 1188) cx X 3 (by decide) (by decide) dL_law_1183 dL_law_1184 dL_law_1185 dL_law_1186 dL_law_1187 rfl ?_
  refine sw_scr (pc' := 1193) cx X 4 (by decide) (by decide) dL_law_1188 dL_law_1189 dL_law_1190 dL_law_1191 dL_law_1192 rfl ?_
  refine sw_scr (pc' := 1198) cx X 5 (by decide) (by decide) dL_law_1193 dL_law_1194 dL_law_1195 dL_law_1196 dL_law_1197 rfl ?_
  refine sw_callA (As := [.int (xs (i + 1)), .int (xs (i + 2)), .int (xs (i + 3)), .int (xs (i + 4)), .int (xs (i + 5))]) (rest := []) (pc' := 1201) cx (k_X9_copy l D g m0 m1 m2 ka sa sn cI cJ cK cS mu tr ke kp tby tlen ttok tsta tbeh tnum ttak sh fi (xs (i + 1)) (xs (i + 2)) (xs (i + 3)) (xs (i + 4)) (xs (i + 5)) _ hc) pk_yX9_copy ml_RL_159 ⟨rfl, rfl⟩ ⟨Nat.le_of_ble_eq_true rfl, Nat.le_of_ble_eq_true rfl⟩ ⟨Nat.le_of_ble_eq_true rfl, Nat.le_of_ble_eq_true rfl⟩ sx_adr sx_0 rfl rfl rfl (Nat.le_of_ble_eq_true rfl) rfl dL_law_1198 rfl ?_
  refine sw_aload_n (pc' := 1202) cx dL_law_1201 rfl 1 rfl rfl ?_
  refine sw_scr (pc' := 1207) cx X 1 (by decide) (by decide) dL_law_1202 dL_law_1203 dL_law_1204 dL_law_1205 dL_law_1206 rfl ?_
  refine sw_scr (pc' := 1212) cx X 2 (by decide) (by decide) dL_law_1207 dL_law_1208 dL_law_1209 dL_law_1210 dL_law_1211 rfl ?_
  refine sw_scr (pc' := 1217) cx X 3 (by decide) (by decide) dL_law_1212 dL_law_1213 dL_law_1214 dL_law_1215 dL_law_1216 rfl ?_
  refine sw_scr (pc' := 1222) cx X 4 (by decide) (by decide) dL_law_1217 dL_law_1218 dL_law_1219 dL_law_1220 dL_law_1221 rfl ?_
  refine sw_scr (pc' := 1227) cx X 5 (by decide) (by decide) dL_law_1222 dL_law_1223 dL_law_1224 dL_law_1225 dL_law_1226 rfl ?_
  refine sw_callB (As := [.int (xs (i + 1)), .int (xs (i + 2)), .int (xs (i + 3)), .int (xs (i + 4)), .int (xs (i + 5))]) (rest := [.int r]) (pc' := 1230) cx (k_X10_copy l D h cI cJ cK cS row (nI 0) fnd tape tmany sort begs tends word valu good bits size shts lent imag befo kept (xs (i + 1)) (xs (i + 2)) (xs (i + 3)) (xs (i + 4)) (xs (i + 5)) _ hm) pk_yX10_copy ml_RL_163 ⟨rfl, rfl⟩ ⟨Nat.le_of_ble_eq_true rfl, Nat.le_of_ble_eq_true rfl⟩ ⟨Nat.le_of_ble_eq_true rfl, Nat.le_of_ble_eq_true rfl⟩ rfl rfl rfl rfl rfl (Nat.le_of_ble_eq_true rfl) rfl dL_law_1227 rfl ?_
  refine sw_icmp_eq (tgt := 1399) (pc' := 1233) cx dL_law_1230 (by decide) rfl (fun _ => ?_) (fun hne => absurd rfl hne)
  exact K _ _ _ _ _ _ _ _ _ _ _ _ _ _ _ _ _ _ _ _ _ _ _ _ _ _ _ _ _ _ ⟨hR.1, xRF, hR.2.2.1, hR.2.2.2.1, xRH⟩
theorem cs_lays (cx : sf_Cx p m meth c cL_law 4 s args RL D (sf_ty cI cJ cK cS) A) (X : LX s A b L xs i) (K : LG p l e s m args below meth c Q D A g m0 m1 m2 ka sa sn h cI cJ cK cS b i 1399) : LG p l e s m args below meth c Q D A g m0 m1 m2 ka sa sn h cI cJ cK cS b i 1235 := by
  intro mu tr ke kp tby tlen ttok tsta tbeh tnum ttak sh fi row fnd tape tmany sort begs tends word valu good bits size shts lent imag befo kept hR
  obtain ⟨r, muq_n, fiq_n, rowq_n, fndq_n, hc, hm, xRA, xRF⟩ := op_lays hR.1 hR.2.1 hR.2.2.2.2 (xs (i + 1))
  refine sw_aload_n (pc' := 1236) cx dL_law_1235 rfl 2 rfl rfl ?_
  refine sw_scr (pc' := 1241) cx X 1 (by decide) (by decide) dL_law_1236 dL_law_1237 dL_law_1238 dL_law_1239 dL_law_1240 rfl ?_
  refine sw_callA (As := [.int (xs (i + 1))]) (rest := []) (pc' := 1244) cx (k_X9_lays l D g m0 m1 m2 ka sa sn cI cJ cK cS mu tr ke kp tby tlen ttok tsta tbeh tnum ttak sh fi (xs (i + 1)) _ hc) pk_yX9_lays ml_RL_164 ⟨rfl, rfl⟩ ⟨Nat.le_of_ble_eq_true rfl, Nat.le_of_ble_eq_true rfl⟩ ⟨Nat.le_of_ble_eq_true rfl, Nat.le_of_ble_eq_true rfl⟩ sx_adr sx_0 rfl rfl rfl (Nat.le_of_ble_eq_true rfl) rfl dL_law_1241 rfl ?_
  refine sw_aload_n (pc' := 1245) cx dL_law_1244 rfl 1 rfl rfl ?_
  refine sw_scr (pc' := 1250) cx X 1 (by decide) (by decide) dL_law_1245 dL_law_1246 dL_law_1247 dL_law_1248 dL_law_1249 rfl ?_
  refine sw_callB (As := [.int (xs (i + 1))]) (rest := [.int r]) (pc' := 1253) cx (k_X10_lays l D h cI cJ cK cS row (nI 0) fnd tape tmany sort begs tends word valu good bits size shts lent imag befo kept (xs (i + 1)) _ hm) pk_yX10_lays ml_RL_167 ⟨rfl, rfl⟩ ⟨Nat.le_of_ble_eq_true rfl, Nat.le_of_ble_eq_true rfl⟩ ⟨Nat.le_of_ble_eq_true rfl, Nat.le_of_ble_eq_true rfl⟩ rfl rfl rfl rfl rfl (Nat.le_of_ble_eq_true rfl) rfl dL_law_1250 rfl ?_
  refine sw_icmp_eq (tgt := 1399) (pc' := 1256) cx dL_law_1253 (by decide) rfl (fun _ => ?_) (fun hne => absurd rfl hne)
  exact K _ _ _ _ _ _ _ _ _ _ _ _ _ _ _ _ _ _ _ _ _ _ _ _ _ _ _ _ _ _ ⟨xRA, xRF, hR.2.2.1, hR.2.2.2.1, hR.2.2.2.2⟩
theorem cs_stair (cx : sf_Cx p m meth c cL_law 4 s args RL D (sf_ty cI cJ cK cS) A) (X : LX s A b L xs i) (K : LG p l e s m args below meth c Q D A g m0 m1 m2 ka sa sn h cI cJ cK cS b i 1399) : LG p l e s m args below meth c Q D A g m0 m1 m2 ka sa sn h cI cJ cK cS b i 1258 := by
  intro mu tr ke kp tby tlen ttok tsta tbeh tnum ttak sh fi row fnd tape tmany sort begs tends word valu good bits size shts lent imag befo kept hR
  obtain ⟨r, trq_n, shq_n, fiq_n, rowq_n, fndq_n, shtsq_n, hc, hm, xRA, xRF, xRH⟩ := op_stair hR.1 hR.2.1 hR.2.2.2.2 tr (xs (i + 1)) (xs (i + 2))
  refine sw_aload_n (pc' := 1259) cx dL_law_1258 rfl 2 rfl rfl ?_
  refine sw_scr (pc' := 1264) cx X 1 (by decide) (by decide) dL_law_1259 dL_law_1260 dL_law_1261 dL_law_1262 dL_law_1263 rfl ?_
  refine sw_scr (pc' := 1269) cx X 2 (by decide) (by decide) dL_law_1264 dL_law_1265 dL_law_1266 dL_law_1267 dL_law_1268 rfl ?_
  refine sw_callA (As := [.int (xs (i + 1)), .int (xs (i + 2))]) (rest := []) (pc' := 1272) cx (k_X9_stair l D g m0 m1 m2 ka sa sn cI cJ cK cS mu tr ke kp tby tlen ttok tsta tbeh tnum ttak sh fi (xs (i + 1)) (xs (i + 2)) _ hc) pk_yX9_stair ml_RL_168 ⟨rfl, rfl⟩ ⟨Nat.le_of_ble_eq_true rfl, Nat.le_of_ble_eq_true rfl⟩ ⟨Nat.le_of_ble_eq_true rfl, Nat.le_of_ble_eq_true rfl⟩ sx_adr sx_0 rfl rfl rfl (Nat.le_of_ble_eq_true rfl) rfl dL_law_1269 rfl ?_
  refine sw_aload_n (pc' := 1273) cx dL_law_1272 rfl 1 rfl rfl ?_
  refine sw_scr (pc' := 1278) cx X 1 (by decide) (by decide) dL_law_1273 dL_law_1274 dL_law_1275 dL_law_1276 dL_law_1277 rfl ?_
  refine sw_scr (pc' := 1283) cx X 2 (by decide) (by decide) dL_law_1278 dL_law_1279 dL_law_1280 dL_law_1281 dL_law_1282 rfl ?_
  refine sw_callB (As := [.int (xs (i + 1)), .int (xs (i + 2))]) (rest := [.int r]) (pc' := 1286) cx (k_X10_stair l D h cI cJ cK cS row (nI 0) fnd tape tmany sort begs tends word valu good bits size shts lent imag befo kept (xs (i + 1)) (xs (i + 2)) _ hm) pk_yX10_stair ml_RL_171 ⟨rfl, rfl⟩ ⟨Nat.le_of_ble_eq_true rfl, Nat.le_of_ble_eq_true rfl⟩ ⟨Nat.le_of_ble_eq_true rfl, Nat.le_of_ble_eq_true rfl⟩ rfl rfl rfl rfl rfl (Nat.le_of_ble_eq_true rfl) rfl dL_law_1283 rfl ?_
  refine sw_icmp_eq (tgt := 1399) (pc' := 1289) cx dL_law_1286 (by decide) rfl (fun _ => ?_) (fun hne => absurd rfl hne)
  exact K _ _ _ _ _ _ _ _ _ _ _ _ _ _ _ _ _ _ _ _ _ _ _ _ _ _ _ _ _ _ ⟨xRA, xRF, hR.2.2.1, hR.2.2.2.1, xRH⟩
theorem cs_read (cx : sf_Cx p m meth c cL_law 4 s args RL D (sf_ty cI cJ cK cS) A) (X : LX s A b L xs i) (K : LG p l e s m args below meth c Q D A g m0 m1 m2 ka sa sn h cI cJ cK cS b i 1399) : LG p l e s m args below meth c Q D A g m0 m1 m2 ka sa sn h cI cJ cK cS b i 1291 := by
  intro mu tr ke kp tby tlen ttok tsta tbeh tnum ttak sh fi row fnd tape tmany sort begs tends word valu good bits size shts lent imag befo kept hR
  obtain ⟨r, trq_n, fiq_n, rowq_n, fndq_n, hc, hm, xRA, xRF⟩ := op_read hR.1 hR.2.1 hR.2.2.2.2 tr (xs (i + 1))
  refine sw_aload_n (pc' := 1292) cx dL_law_1291 rfl 2 rfl rfl ?_
  refine sw_scr (pc' := 1297) cx X 1 (by decide) (by decide) dL_law_1292 dL_law_1293 dL_law_1294 dL_law_1295 dL_law_1296 rfl ?_
  refine sw_callA (As := [.int (xs (i + 1))]) (rest := []) (pc' := 1300) cx (k_X9_read l D g m0 m1 m2 ka sa sn cI cJ cK cS mu tr ke kp tby tlen ttok tsta tbeh tnum ttak sh fi (xs (i + 1)) _ hc) pk_yX9_read ml_RL_172 ⟨rfl, rfl⟩ ⟨Nat.le_of_ble_eq_true rfl, Nat.le_of_ble_eq_true rfl⟩ ⟨Nat.le_of_ble_eq_true rfl, Nat.le_of_ble_eq_true rfl⟩ sx_adr sx_0 rfl rfl rfl (Nat.le_of_ble_eq_true rfl) rfl dL_law_1297 rfl ?_
  refine sw_aload_n (pc' := 1301) cx dL_law_1300 rfl 1 rfl rfl ?_
  refine sw_scr (pc' := 1306) cx X 1 (by decide) (by decide) dL_law_1301 dL_law_1302 dL_law_1303 dL_law_1304 dL_law_1305 rfl ?_
  refine sw_callB (As := [.int (xs (i + 1))]) (rest := [.int r]) (pc' := 1309) cx (k_X10_read l D h cI cJ cK cS row (nI 0) fnd tape tmany sort begs tends word valu good bits size shts lent imag befo kept (xs (i + 1)) _ hm) pk_yX10_read ml_RL_175 ⟨rfl, rfl⟩ ⟨Nat.le_of_ble_eq_true rfl, Nat.le_of_ble_eq_true rfl⟩ ⟨Nat.le_of_ble_eq_true rfl, Nat.le_of_ble_eq_true rfl⟩ rfl rfl rfl rfl rfl (Nat.le_of_ble_eq_true rfl) rfl dL_law_1306 rfl ?_
  refine sw_icmp_eq (tgt := 1399) (pc' := 1312) cx dL_law_1309 (by decide) rfl (fun _ => ?_) (fun hne => absurd rfl hne)
  exact K _ _ _ _ _ _ _ _ _ _ _ _ _ _ _ _ _ _ _ _ _ _ _ _ _ _ _ _ _ _ ⟨xRA, xRF, hR.2.2.1, hR.2.2.2.1, hR.2.2.2.2⟩
theorem cs_image (cx : sf_Cx p m meth c cL_law 4 s args RL D (sf_ty cI cJ cK cS) A) (X : LX s A b L xs i) (K : LG p l e s m args below meth c Q D A g m0 m1 m2 ka sa sn h cI cJ cK cS b i 1399) : LG p l e s m args below meth c Q D A g m0 m1 m2 ka sa sn h cI cJ cK cS b i 1314 := by
  intro mu tr ke kp tby tlen ttok tsta tbeh tnum ttak sh fi row fnd tape tmany sort begs tends word valu good bits size shts lent imag befo kept hR
  obtain ⟨r, keq_n, kpq_n, imagq_n, keptq_n, hc, hm, xRK⟩ := op_image hR.1 ke imag kp kept
  refine sw_aload_n (pc' := 1315) cx dL_law_1314 rfl 2 rfl rfl ?_
  refine sw_callA (As := []) (rest := []) (pc' := 1318) cx (k_X9_image l D g m0 m1 m2 ka sa sn cI cJ cK cS mu tr ke kp tby tlen ttok tsta tbeh tnum ttak sh fi  _ hc) pk_yX9_image ml_RL_176 ⟨rfl, rfl⟩ ⟨Nat.le_of_ble_eq_true rfl, Nat.le_of_ble_eq_true rfl⟩ ⟨Nat.le_of_ble_eq_true rfl, Nat.le_of_ble_eq_true rfl⟩ sx_adr sx_0 rfl rfl rfl (Nat.le_of_ble_eq_true rfl) rfl dL_law_1315 rfl ?_
  refine sw_aload_n (pc' := 1319) cx dL_law_1318 rfl 1 rfl rfl ?_
  refine sw_callB (As := []) (rest := [.int r]) (pc' := 1322) cx (k_X10_image l D h cI cJ cK cS row (nI 0) fnd tape tmany sort begs tends word valu good bits size shts lent imag befo kept  _ hm) pk_yX10_image ml_RL_179 ⟨rfl, rfl⟩ ⟨Nat.le_of_ble_eq_true rfl, Nat.le_of_ble_eq_true rfl⟩ ⟨Nat.le_of_ble_eq_true rfl, Nat.le_of_ble_eq_true rfl⟩ rfl rfl rfl rfl rfl (Nat.le_of_ble_eq_true rfl) rfl dL_law_1319 rfl ?_
  refine sw_icmp_eq (tgt := 1399) (pc' := 1325) cx dL_law_1322 (by decide) rfl (fun _ => ?_) (fun hne => absurd rfl hne)
  exact K _ _ _ _ _ _ _ _ _ _ _ _ _ _ _ _ _ _ _ _ _ _ _ _ _ _ _ _ _ _ ⟨hR.1, hR.2.1, xRK, hR.2.2.2.1, hR.2.2.2.2⟩
theorem cs_undo (cx : sf_Cx p m meth c cL_law 4 s args RL D (sf_ty cI cJ cK cS) A) (X : LX s A b L xs i) (K : LG p l e s m args below meth c Q D A g m0 m1 m2 ka sa sn h cI cJ cK cS b i 1399) : LG p l e s m args below meth c Q D A g m0 m1 m2 ka sa sn h cI cJ cK cS b i 1327 := by
  intro mu tr ke kp tby tlen ttok tsta tbeh tnum ttak sh fi row fnd tape tmany sort begs tends word valu good bits size shts lent imag befo kept hR
  obtain ⟨r, muq_n, fiq_n, rowq_n, fndq_n, hc, hm, xRA, xRF⟩ := op_undo hR.1 hR.2.1 hR.2.2.1
  refine sw_aload_n (pc' := 1328) cx dL_law_1327 rfl 2 rfl rfl ?_
  refine sw_callA (As := []) (rest := []) (pc' := 1331) cx (k_X9_undo l D g m0 m1 m2 ka sa sn cI cJ cK cS mu tr ke kp tby tlen ttok tsta tbeh tnum ttak sh fi  _ hc) pk_yX9_undo ml_RL_180 ⟨rfl, rfl⟩ ⟨Nat.le_of_ble_eq_true rfl, Nat.le_of_ble_eq_true rfl⟩ ⟨Nat.le_of_ble_eq_true rfl, Nat.le_of_ble_eq_true rfl⟩ sx_adr sx_0 rfl rfl rfl (Nat.le_of_ble_eq_true rfl) rfl dL_law_1328 rfl ?_
  refine sw_aload_n (pc' := 1332) cx dL_law_1331 rfl 1 rfl rfl ?_
  refine sw_callB (As := []) (rest := [.int r]) (pc' := 1335) cx (k_X10_undo l D h cI cJ cK cS row (nI 0) fnd tape tmany sort begs tends word valu good bits size shts lent imag befo kept  _ hm) pk_yX10_undo ml_RL_183 ⟨rfl, rfl⟩ ⟨Nat.le_of_ble_eq_true rfl, Nat.le_of_ble_eq_true rfl⟩ ⟨Nat.le_of_ble_eq_true rfl, Nat.le_of_ble_eq_true rfl⟩ rfl rfl rfl rfl rfl (Nat.le_of_ble_eq_true rfl) rfl dL_law_1332 rfl ?_
  refine sw_icmp_eq (tgt := 1399) (pc' := 1338) cx dL_law_1335 (by decide) rfl (fun _ => ?_) (fun hne => absurd rfl hne)
  exact K _ _ _ _ _ _ _ _ _ _ _ _ _ _ _ _ _ _ _ _ _ _ _ _ _ _ _ _ _ _ ⟨xRA, xRF, hR.2.2.1, hR.2.2.2.1, hR.2.2.2.2⟩
theorem cs_tear (cx : sf_Cx p m meth c cL_law 4 s args RL D (sf_ty cI cJ cK cS) A) (X : LX s A b L xs i) (K : LG p l e s m args below meth c Q D A g m0 m1 m2 ka sa sn h cI cJ cK cS b i 1399) : LG p l e s m args below meth c Q D A g m0 m1 m2 ka sa sn h cI cJ cK cS b i 1340 := by
  intro mu tr ke kp tby tlen ttok tsta tbeh tnum ttak sh fi row fnd tape tmany sort begs tends word valu good bits size shts lent imag befo kept hR
  obtain ⟨r, hc, hm, xRK⟩ := op_tear hR.2.2.1
  refine sw_aload_n (pc' := 1341) cx dL_law_1340 rfl 2 rfl rfl ?_
  refine sw_callA (As := []) (rest := []) (pc' := 1344) cx (k_X9_tear l D g m0 m1 m2 ka sa sn cI cJ cK cS mu tr ke kp tby tlen ttok tsta tbeh tnum ttak sh fi  _ hc) pk_yX9_tear ml_RL_184 ⟨rfl, rfl⟩ ⟨Nat.le_of_ble_eq_true rfl, Nat.le_of_ble_eq_true rfl⟩ ⟨Nat.le_of_ble_eq_true rfl, Nat.le_of_ble_eq_true rfl⟩ sx_adr sx_0 rfl rfl rfl (Nat.le_of_ble_eq_true rfl) rfl dL_law_1341 rfl ?_
  refine sw_aload_n (pc' := 1345) cx dL_law_1344 rfl 1 rfl rfl ?_
  refine sw_callB (As := []) (rest := [.int r]) (pc' := 1348) cx (k_X10_tear l D h cI cJ cK cS row (nI 0) fnd tape tmany sort begs tends word valu good bits size shts lent imag befo kept  _ hm) pk_yX10_tear ml_RL_187 ⟨rfl, rfl⟩ ⟨Nat.le_of_ble_eq_true rfl, Nat.le_of_ble_eq_true rfl⟩ ⟨Nat.le_of_ble_eq_true rfl, Nat.le_of_ble_eq_true rfl⟩ rfl rfl rfl rfl rfl (Nat.le_of_ble_eq_true rfl) rfl dL_law_1345 rfl ?_
  refine sw_icmp_eq (tgt := 1399) (pc' := 1351) cx dL_law_1348 (by decide) rfl (fun _ => ?_) (fun hne => absurd rfl hne)
  exact K _ _ _ _ _ _ _ _ _ _ _ _ _ _ _ _ _ _ _ _ _ _ _ _ _ _ _ _ _ _ ⟨hR.1, hR.2.1, xRK, hR.2.2.2.1, hR.2.2.2.2⟩
theorem cs_count (cx : sf_Cx p m meth c cL_law 4 s args RL D (sf_ty cI cJ cK cS) A) (X : LX s A b L xs i) (K : LG p l e s m args below meth c Q D A g m0 m1 m2 ka sa sn h cI cJ cK cS b i 1399) : LG p l e s m args below meth c Q D A g m0 m1 m2 ka sa sn h cI cJ cK cS b i 1353 := by
  intro mu tr ke kp tby tlen ttok tsta tbeh tnum ttak sh fi row fnd tape tmany sort begs tends word valu good bits size shts lent imag befo kept hR
  obtain ⟨r, fiq_n, fndq_n, hc, hm, xRF⟩ := op_count hR.1 hR.2.1 (RT_len hR.2.2.2.1) (xs (i + 1))
  refine sw_aload_n (pc' := 1354) cx dL_law_1353 rfl 2 rfl rfl ?_
  refine sw_scr (pc' := 1359) cx X 1 (by decide) (by decide) dL_law_1354 dL_law_1355 dL_law_1356 dL_law_1357 dL_law_1358 rfl ?_
  refine sw_callA (As := [.int (xs (i + 1))]) (rest := []) (pc' := 1362) cx (k_X9_count l D g m0 m1 m2 ka sa sn cI cJ cK cS mu tr ke kp tby tlen ttok tsta tbeh tnum ttak sh fi (xs (i + 1)) _ hc) pk_yX9_count ml_RL_188 ⟨rfl, rfl⟩ ⟨Nat.le_of_ble_eq_true rfl, Nat.le_of_ble_eq_true rfl⟩ ⟨Nat.le_of_ble_eq_true rfl, Nat.le_of_ble_eq_true rfl⟩ sx_adr sx_0 rfl rfl rfl (Nat.le_of_ble_eq_true rfl) rfl dL_law_1359 rfl ?_
  refine sw_aload_n (pc' := 1363) cx dL_law_1362 rfl 1 rfl rfl ?_
  refine sw_scr (pc' := 1368) cx X 1 (by decide) (by decide) dL_law_1363 dL_law_1364 dL_law_1365 dL_law_1366 dL_law_1367 rfl ?_
  refine sw_callB (As := [.int (xs (i + 1))]) (rest := [.int r]) (pc' := 1371) cx (k_X10_count l D h cI cJ cK cS row (nI 0) fnd tape tmany sort begs tends word valu good bits size shts lent imag befo kept (xs (i + 1)) _ hm) pk_yX10_count ml_RL_191 ⟨rfl, rfl⟩ ⟨Nat.le_of_ble_eq_true rfl, Nat.le_of_ble_eq_true rfl⟩ ⟨Nat.le_of_ble_eq_true rfl, Nat.le_of_ble_eq_true rfl⟩ rfl rfl rfl rfl rfl (Nat.le_of_ble_eq_true rfl) rfl dL_law_1368 rfl ?_
  refine sw_icmp_eq (tgt := 1399) (pc' := 1374) cx dL_law_1371 (by decide) rfl (fun _ => ?_) (fun hne => absurd rfl hne)
  exact K _ _ _ _ _ _ _ _ _ _ _ _ _ _ _ _ _ _ _ _ _ _ _ _ _ _ _ _ _ _ ⟨hR.1, xRF, hR.2.2.1, hR.2.2.2.1, hR.2.2.2.2⟩
theorem cs_status (cx : sf_Cx p m meth c cL_law 4 s args RL D (sf_ty cI cJ cK cS) A) (X : LX s A b L xs i) (K : LG p l e s m args below meth c Q D A g m0 m1 m2 ka sa sn h cI cJ cK cS b i 1399) : LG p l e s m args below meth c Q D A g m0 m1 m2 ka sa sn h cI cJ cK cS b i 1376 := by
  intro mu tr ke kp tby tlen ttok tsta tbeh tnum ttak sh fi row fnd tape tmany sort begs tends word valu good bits size shts lent imag befo kept hR
  obtain ⟨r, fiq_n, fndq_n, hc, hm, xRF⟩ := op_status hR.2.1 (xs (i + 1))
  refine sw_aload_n (pc' := 1377) cx dL_law_1376 rfl 2 rfl rfl ?_
  refine sw_scr (pc' := 1382) cx X 1 (by decide) (by decide) dL_law_1377 dL_law_1378 dL_law_1379 dL_law_1380 dL_law_1381 rfl ?_
  refine sw_callA (As := [.int (xs (i + 1))]) (rest := []) (pc' := 1385) cx (k_X9_status l D g m0 m1 m2 ka sa sn cI cJ cK cS mu tr ke kp tby tlen ttok tsta tbeh tnum ttak sh fi (xs (i + 1)) _ hc) pk_yX9_status ml_RL_192 ⟨rfl, rfl⟩ ⟨Nat.le_of_ble_eq_true rfl, Nat.le_of_ble_eq_true rfl⟩ ⟨Nat.le_of_ble_eq_true rfl, Nat.le_of_ble_eq_true rfl⟩ sx_adr sx_0 rfl rfl rfl (Nat.le_of_ble_eq_true rfl) rfl dL_law_1382 rfl ?_
  refine sw_aload_n (pc' := 1386) cx dL_law_1385 rfl 1 rfl rfl ?_
  refine sw_scr (pc' := 1391) cx X 1 (by decide) (by decide) dL_law_1386 dL_law_1387 dL_law_1388 dL_law_1389 dL_law_1390 rfl ?_
  refine sw_callB (As := [.int (xs (i + 1))]) (rest := [.int r]) (pc' := 1394) cx (k_X10_status l D h cI cJ cK cS row (nI 0) fnd tape tmany sort begs tends word valu good bits size shts lent imag befo kept (xs (i + 1)) _ hm) pk_yX10_status ml_RL_195 ⟨rfl, rfl⟩ ⟨Nat.le_of_ble_eq_true rfl, Nat.le_of_ble_eq_true rfl⟩ ⟨Nat.le_of_ble_eq_true rfl, Nat.le_of_ble_eq_true rfl⟩ rfl rfl rfl rfl rfl (Nat.le_of_ble_eq_true rfl) rfl dL_law_1391 rfl ?_
  refine sw_icmp_eq (tgt := 1399) (pc' := 1397) cx dL_law_1394 (by decide) rfl (fun _ => ?_) (fun hne => absurd rfl hne)
  exact K _ _ _ _ _ _ _ _ _ _ _ _ _ _ _ _ _ _ _ _ _ _ _ _ _ _ _ _ _ _ ⟨hR.1, xRF, hR.2.2.1, hR.2.2.2.1, hR.2.2.2.2⟩
end LC
