abbrev rm_J13_bitCount_95d88 : Room := ({ frames := 0, cells := 0, slots := 0, locals := 0 } : Room)
set_option maxRecDepth 100000 in
set_option maxHeartbeats 4000000 in
theorem k_J13_bitCount_95d88 (l : Launch) (D : sf_D) (cI cJ cK cS : ClassId)  (a0 : Int64) (res : Int32) (hf : f_J13_bitCount_95d88 a0 = some res) : sf_Ct l yJ13_bitCount_95d88 cJ13_bitCount_95d88 2 (some .int) rm_J13_bitCount_95d88 D (sf_ty cI cJ cK cS) [.long a0] [] (some (.int res)) [] := by
  refine sf_met (lv := [(0, .long a0)]) (by decide) (Nat.le_of_ble_eq_true rfl) rfl ?_
  intro p e s m args below meth c A Q cx hr hQ
  have cx : sf_Cx p m meth c cJ13_bitCount_95d88 2 s args RJ13 D (sf_ty cI cJ cK cS) A := cx
  unfold f_J13_bitCount_95d88 at hf
  refine sw_lload_n (pc' := 1) (i := 0) cx dJ13_bitCount_95d88_0 rfl 0 rfl rfl ?_
  refine sw_lload_n (pc' := 2) (i := 0) cx dJ13_bitCount_95d88_1 rfl 0 rfl rfl ?_
  refine sw_iconst (pc' := 3) (v := 1) cx dJ13_bitCount_95d88_2 iconst_1 rfl ?_
  refine sw_lushr (pc' := 4) cx dJ13_bitCount_95d88_3 rfl ?_
  refine sw_ldc2_w (pc' := 7) cx cl_RJ13_314 dJ13_bitCount_95d88_4 rfl ?_
  refine sw_land (pc' := 8) cx dJ13_bitCount_95d88_7 rfl ?_
  refine sw_lsub (pc' := 9) cx dJ13_bitCount_95d88_8 rfl ?_
  refine sw_lstore_n (pc' := 10) (i := 0) (lv' := [(0, .long (a0 - ((((a0).toUInt64 >>> (((1 : Int32)).toInt64.toUInt64 &&& Int64.toUInt64 63)).toInt64) &&& (6148914691236517205 : Int64))))]) cx dJ13_bitCount_95d88_9 rfl (Nat.le_of_ble_eq_true rfl) rfl rfl ?_
  refine sw_lload_n (pc' := 11) (i := 0) cx dJ13_bitCount_95d88_10 rfl 0 rfl rfl ?_
  refine sw_ldc2_w (pc' := 14) cx cl_RJ13_316 dJ13_bitCount_95d88_11 rfl ?_
  refine sw_land (pc' := 15) cx dJ13_bitCount_95d88_14 rfl ?_
  refine sw_lload_n (pc' := 16) (i := 0) cx dJ13_bitCount_95d88_15 rfl 0 rfl rfl ?_
  refine sw_iconst (pc' := 17) (v := 2) cx dJ13_bitCount_95d88_16 iconst_2 rfl ?_
  refine sw_lushr (pc' := 18) cx dJ13_bitCount_95d88_17 rfl ?_
  refine sw_ldc2_w (pc' := 21) cx cl_RJ13_316 dJ13_bitCount_95d88_18 rfl ?_
  refine sw_land (pc' := 22) cx dJ13_bitCount_95d88_21 rfl ?_
  refine sw_ladd (pc' := 23) cx dJ13_bitCount_95d88_22 rfl ?_
  refine sw_lstore_n (pc' := 24) (i := 0) (lv' := [(0, .long (((a0 - ((((a0).toUInt64 >>> (((1 : Int32)).toInt64.toUInt64 &&& Int64.toUInt64 63)).toInt64) &&& (6148914691236517205 : Int64))) &&& (3689348814741910323 : Int64)) + (((((a0 - ((((a0).toUInt64 >>> (((1 : Int32)).toInt64.toUInt64 &&& Int64.toUInt64 63)).toInt64) &&& (6148914691236517205 : Int64)))).toUInt64 >>> (((2 : Int32)).toInt64.toUInt64 &&& Int64.toUInt64 63)).toInt64) &&& (3689348814741910323 : Int64))))]) cx dJ13_bitCount_95d88_23 rfl (Nat.le_of_ble_eq_true rfl) rfl rfl ?_
  refine sw_lload_n (pc' := 25) (i := 0) cx dJ13_bitCount_95d88_24 rfl 0 rfl rfl ?_
  refine sw_lload_n (pc' := 26) (i := 0) cx dJ13_bitCount_95d88_25 rfl 0 rfl rfl ?_
  refine sw_iconst (pc' := 27) (v := 4) cx dJ13_bitCount_95d88_26 iconst_4 rfl ?_
  refine sw_lushr (pc' := 28) cx dJ13_bitCount_95d88_27 rfl ?_
  refine sw_ladd (pc' := 29) cx dJ13_bitCount_95d88_28 rfl ?_
  refine sw_ldc2_w (pc' := 32) cx cl_RJ13_318 dJ13_bitCount_95d88_29 rfl ?_
  refine sw_land (pc' := 33) cx dJ13_bitCount_95d88_32 rfl ?_
  refine sw_lstore_n (pc' := 34) (i := 0) (lv' := [(0, .long (((((a0 - ((((a0).toUInt64 >>> (((1 : Int32)).toInt64.toUInt64 &&& Int64.toUInt64 63)).toInt64) &&& (6148914691236517205 : Int64))) &&& (3689348814741910323 : Int64)) + (((((a0 - ((((a0).toUInt64 >>> (((1 : Int32)).toInt64.toUInt64 &&& Int64.toUInt64 63)).toInt64) &&& (6148914691236517205 : Int64)))).toUInt64 >>> (((2 : Int32)).toInt64.toUInt64 &&& Int64.toUInt64 63)).toInt64) &&& (3689348814741910323 : Int64))) + ((((((a0 - ((((a0).toUInt64 >>> (((1 : Int32)).toInt64.toUInt64 &&& Int64.toUInt64 63)).toInt64) &&& (6148914691236517205 : Int64))) &&& (3689348814741910323 : Int64)) + (((((a0 - ((((a0).toUInt64 >>> (((1 : Int32)).toInt64.toUInt64 &&& Int64.toUInt64 63)).toInt64) &&& (6148914691236517205 : Int64)))).toUInt64 >>> (((2 : Int32)).toInt64.toUInt64 &&& Int64.toUInt64 63)).toInt64) &&& (3689348814741910323 : Int64)))).toUInt64 >>> (((4 : Int32)).toInt64.toUInt64 &&& Int64.toUInt64 63)).toInt64)) &&& (1085102592571150095 : Int64)))]) cx dJ13_bitCount_95d88_33 rfl (Nat.le_of_ble_eq_true rfl) rfl rfl ?_
  refine sw_lload_n (pc' := 35) (i := 0) cx dJ13_bitCount_95d88_34 rfl 0 rfl rfl ?_
  refine sw_lload_n (pc' := 36) (i := 0) cx dJ13_bitCount_95d88_35 rfl 0 rfl rfl ?_
  refine sw_bipush (pc' := 38) (v := 8) cx dJ13_bitCount_95d88_36 bipush_8 rfl ?_
  refine sw_lushr (pc' := 39) cx dJ13_bitCount_95d88_38 rfl ?_
  refine sw_ladd (pc' := 40) cx dJ13_bitCount_95d88_39 rfl ?_
  refine sw_lstore_n (pc' := 41) (i := 0) (lv' := [(0, .long ((((((a0 - ((((a0).toUInt64 >>> (((1 : Int32)).toInt64.toUInt64 &&& Int64.toUInt64 63)).toInt64) &&& (6148914691236517205 : Int64))) &&& (3689348814741910323 : Int64)) + (((((a0 - ((((a0).toUInt64 >>> (((1 : Int32)).toInt64.toUInt64 &&& Int64.toUInt64 63)).toInt64) &&& (6148914691236517205 : Int64)))).toUInt64 >>> (((2 : Int32)).toInt64.toUInt64 &&& Int64.toUInt64 63)).toInt64) &&& (3689348814741910323 : Int64))) + ((((((a0 - ((((a0).toUInt64 >>> (((1 : Int32)).toInt64.toUInt64 &&& Int64.toUInt64 63)).toInt64) &&& (6148914691236517205 : Int64))) &&& (3689348814741910323 : Int64)) + (((((a0 - ((((a0).toUInt64 >>> (((1 : Int32)).toInt64.toUInt64 &&& Int64.toUInt64 63)).toInt64) &&& (6148914691236517205 : Int64)))).toUInt64 >>> (((2 : Int32)).toInt64.toUInt64 &&& Int64.toUInt64 63)).toInt64) &&& (3689348814741910323 : Int64)))).toUInt64 >>> (((4 : Int32)).toInt64.toUInt64 &&& Int64.toUInt64 63)).toInt64)) &&& (1085102592571150095 : Int64)) + ((((((((a0 - ((((a0).toUInt64 >>> (((1 : Int32)).toInt64.toUInt64 &&& Int64.toUInt64 63)).toInt64) &&& (6148914691236517205 : Int64))) &&& (3689348814741910323 : Int64)) + (((((a0 - ((((a0).toUInt64 >>> (((1 : Int32)).toInt64.toUInt64 &&& Int64.toUInt64 63)).toInt64) &&& (6148914691236517205 : Int64)))).toUInt64 >>> (((2 : Int32)).toInt64.toUInt64 &&& Int64.toUInt64 63)).toInt64) &&& (3689348814741910323 : Int64))) + ((((((a0 - ((((a0).toUInt64 >>> (((1 : Int32)).toInt64.toUInt64 &&& Int64.toUInt64 63)).toInt64) &&& (6148914691236517205 : Int64))) &&& (3689348814741910323 : Int64)) + (((((a0 - ((((a0).toUInt64 >>> (((1 : Int32)).toInt64.toUInt64 &&& Int64.toUInt64 63)).toInt64) &&& (6148914691236517205 : Int64)))).toUInt64 >>> (((2 : Int32)).toInt64.toUInt64 &&& Int64.toUInt64 63)).toInt64) &&& (3689348814741910323 : Int64)))).toUInt64 >>> (((4 : Int32)).toInt64.toUInt64 &&& Int64.toUInt64 63)).toInt64)) &&& (1085102592571150095 : Int64))).toUInt64 >>> (((8 : Int32)).toInt64.toUInt64 &&& Int64.toUInt64 63)).toInt64)))]) cx dJ13_bitCount_95d88_40 rfl (Nat.le_of_ble_eq_true rfl) rfl rfl ?_
  refine sw_lload_n (pc' := 42) (i := 0) cx dJ13_bitCount_95d88_41 rfl 0 rfl rfl ?_
  refine sw_lload_n (pc' := 43) (i := 0) cx dJ13_bitCount_95d88_42 rfl 0 rfl rfl ?_
  refine sw_bipush (pc' := 45) (v := 16) cx dJ13_bitCount_95d88_43 bipush_16 rfl ?_
  refine sw_lushr (pc' := 46) cx dJ13_bitCount_95d88_45 rfl ?_
  refine sw_ladd (pc' := 47) cx dJ13_bitCount_95d88_46 rfl ?_
  refine sw_lstore_n (pc' := 48) (i := 0) (lv' := [(0, .long (((((((a0 - ((((a0).toUInt64 >>> (((1 : Int32)).toInt64.toUInt64 &&& Int64.toUInt64 63)).toInt64) &&& (6148914691236517205 : Int64))) &&& (3689348814741910323 : Int64)) + (((((a0 - ((((a0).toUInt64 >>> (((1 : Int32)).toInt64.toUInt64 &&& Int64.toUInt64 63)).toInt64) &&& (6148914691236517205 : Int64)))).toUInt64 >>> (((2 : Int32)).toInt64.toUInt64 &&& Int64.toUInt64 63)).toInt64) &&& (3689348814741910323 : Int64))) + ((((((a0 - ((((a0).toUInt64 >>> (((1 : Int32)).toInt64.toUInt64 &&& Int64.toUInt64 63)).toInt64) &&& (6148914691236517205 : Int64))) &&& (3689348814741910323 : Int64)) + (((((a0 - ((((a0).toUInt64 >>> (((1 : Int32)).toInt64.toUInt64 &&& Int64.toUInt64 63)).toInt64) &&& (6148914691236517205 : Int64)))).toUInt64 >>> (((2 : Int32)).toInt64.toUInt64 &&& Int64.toUInt64 63)).toInt64) &&& (3689348814741910323 : Int64)))).toUInt64 >>> (((4 : Int32)).toInt64.toUInt64 &&& Int64.toUInt64 63)).toInt64)) &&& (1085102592571150095 : Int64)) + ((((((((a0 - ((((a0).toUInt64 >>> (((1 : Int32)).toInt64.toUInt64 &&& Int64.toUInt64 63)).toInt64) &&& (6148914691236517205 : Int64))) &&& (3689348814741910323 : Int64)) + (((((a0 - ((((a0).toUInt64 >>> (((1 : Int32)).toInt64.toUInt64 &&& Int64.toUInt64 63)).toInt64) &&& (6148914691236517205 : Int64)))).toUInt64 >>> (((2 : Int32)).toInt64.toUInt64 &&& Int64.toUInt64 63)).toInt64) &&& (3689348814741910323 : Int64))) + ((((((a0 - ((((a0).toUInt64 >>> (((1 : Int32)).toInt64.toUInt64 &&& Int64.toUInt64 63)).toInt64) &&& (6148914691236517205 : Int64))) &&& (3689348814741910323 : Int64)) + (((((a0 - ((((a0).toUInt64 >>> (((1 : Int32)).toInt64.toUInt64 &&& Int64.toUInt64 63)).toInt64) &&& (6148914691236517205 : Int64)))).toUInt64 >>> (((2 : Int32)).toInt64.toUInt64 &&& Int64.toUInt64 63)).toInt64) &&& (3689348814741910323 : Int64)))).toUInt64 >>> (((4 : Int32)).toInt64.toUInt64 &&& Int64.toUInt64 63)).toInt64)) &&& (1085102592571150095 : Int64))).toUInt64 >>> (((8 : Int32)).toInt64.toUInt64 &&& Int64.toUInt64 63)).toInt64)) + (((((((((a0 - ((((a0).toUInt64 >>> (((1 : Int32)).toInt64.toUInt64 &&& Int64.toUInt64 63)).toInt64) &&& (6148914691236517205 : Int64))) &&& (3689348814741910323 : Int64)) + (((((a0 - ((((a0).toUInt64 >>> (((1 : Int32)).toInt64.toUInt64 &&& Int64.toUInt64 63)).toInt64) &&& (6148914691236517205 : Int64)))).toUInt64 >>> (((2 : Int32)).toInt64.toUInt64 &&& Int64.toUInt64 63)).toInt64) &&& (3689348814741910323 : Int64))) + ((((((a0 - ((((a0).toUInt64 >>> (((1 : Int32)).toInt64.toUInt64 &&& Int64.toUInt64 63)).toInt64) &&& (6148914691236517205 : Int64))) &&& (3689348814741910323 : Int64)) + (((((a0 - ((((a0).toUInt64 >>> (((1 : Int32)).toInt64.toUInt64 &&& Int64.toUInt64 63)).toInt64) &&& (6148914691236517205 : Int64)))).toUInt64 >>> (((2 : Int32)).toInt64.toUInt64 &&& Int64.toUInt64 63)).toInt64) &&& (3689348814741910323 : Int64)))).toUInt64 >>> (((4 : Int32)).toInt64.toUInt64 &&& Int64.toUInt64 63)).toInt64)) &&& (1085102592571150095 : Int64)) + ((((((((a0 - ((((a0).toUInt64 >>> (((1 : Int32)).toInt64.toUInt64 &&& Int64.toUInt64 63)).toInt64) &&& (6148914691236517205 : Int64))) &&& (3689348814741910323 : Int64)) + (((((a0 - ((((a0).toUInt64 >>> (((1 : Int32)).toInt64.toUInt64 &&& Int64.toUInt64 63)).toInt64) &&& (6148914691236517205 : Int64)))).toUInt64 >>> (((2 : Int32)).toInt64.toUInt64 &&& Int64.toUInt64 63)).toInt64) &&& (3689348814741910323 : Int64))) + ((((((a0 - ((((a0).toUInt64 >>> (((1 : Int32)).toInt64.toUInt64 &&& Int64.toUInt64 63)).toInt64) &&& (6148914691236517205 : Int64))) &&& (3689348814741910323 : Int64)) + (((((a0 - ((((a0).toUInt64 >>> (((1 : Int32)).toInt64.toUInt64 &&& Int64.toUInt64 63)).toInt64) &&& (6148914691236517205 : Int64)))).toUInt64 >>> (((2 : Int32)).toInt64.toUInt64 &&& Int64.toUInt64 63)).toInt64) &&& (3689348814741910323 : Int64)))).toUInt64 >>> (((4 : Int32)).toInt64.toUInt64 &&& Int64.toUInt64 63)).toInt64)) &&& (1085102592571150095 : Int64))).toUInt64 >>> (((8 : Int32)).toInt64.toUInt64 &&& Int64.toUInt64 63)).toInt64))).toUInt64 >>> (((16 : Int32)).toInt64.toUInt64 &&& Int64.toUInt64 63)).toInt64)))]) cx dJ13_bitCount_95d88_47 rfl (Nat.le_of_ble_eq_true rfl) rfl rfl ?_
  refine sw_lload_n (pc' := 49) (i := 0) cx dJ13_bitCount_95d88_48 rfl 0 rfl rfl ?_
  refine sw_lload_n (pc' := 50) (i := 0) cx dJ13_bitCount_95d88_49 rfl 0 rfl rfl ?_
  refine sw_bipush (pc' := 52) (v := 32) cx dJ13_bitCount_95d88_50 bipush_32 rfl ?_
  refine sw_lushr (pc' := 53) cx dJ13_bitCount_95d88_52 rfl ?_
  refine sw_ladd (pc' := 54) cx dJ13_bitCount_95d88_53 rfl ?_
  refine sw_lstore_n (pc' := 55) (i := 0) (lv' := [(0, .long ((((((((a0 - ((((a0).toUInt64 >>> (((1 : Int32)).toInt64.toUInt64 &&& Int64.toUInt64 63)).toInt64) &&& (6148914691236517205 : Int64))) &&& (3689348814741910323 : Int64)) + (((((a0 - ((((a0).toUInt64 >>> (((1 : Int32)).toInt64.toUInt64 &&& Int64.toUInt64 63)).toInt64) &&& (6148914691236517205 : Int64)))).toUInt64 >>> (((2 : Int32)).toInt64.toUInt64 &&& Int64.toUInt64 63)).toInt64) &&& (3689348814741910323 : Int64))) + ((((((a0 - ((((a0).toUInt64 >>> (((1 : Int32)).toInt64.toUInt64 &&& Int64.toUInt64 63)).toInt64) &&& (6148914691236517205 : Int64))) &&& (3689348814741910323 : Int64)) + (((((a0 - ((((a0).toUInt64 >>> (((1 : Int32)).toInt64.toUInt64 &&& Int64.toUInt64 63)).toInt64) &&& (6148914691236517205 : Int64)))).toUInt64 >>> (((2 : Int32)).toInt64.toUInt64 &&& Int64.toUInt64 63)).toInt64) &&& (3689348814741910323 : Int64)))).toUInt64 >>> (((4 : Int32)).toInt64.toUInt64 &&& Int64.toUInt64 63)).toInt64)) &&& (1085102592571150095 : Int64)) + ((((((((a0 - ((((a0).toUInt64 >>> (((1 : Int32)).toInt64.toUInt64 &&& Int64.toUInt64 63)).toInt64) &&& (6148914691236517205 : Int64))) &&& (3689348814741910323 : Int64)) + (((((a0 - ((((a0).toUInt64 >>> (((1 : Int32)).toInt64.toUInt64 &&& Int64.toUInt64 63)).toInt64) &&& (6148914691236517205 : Int64)))).toUInt64 >>> (((2 : Int32)).toInt64.toUInt64 &&& Int64.toUInt64 63)).toInt64) &&& (3689348814741910323 : Int64))) + ((((((a0 - ((((a0).toUInt64 >>> (((1 : Int32)).toInt64.toUInt64 &&& Int64.toUInt64 63)).toInt64) &&& (6148914691236517205 : Int64))) &&& (3689348814741910323 : Int64)) + (((((a0 - ((((a0).toUInt64 >>> (((1 : Int32)).toInt64.toUInt64 &&& Int64.toUInt64 63)).toInt64) &&& (6148914691236517205 : Int64)))).toUInt64 >>> (((2 : Int32)).toInt64.toUInt64 &&& Int64.toUInt64 63)).toInt64) &&& (3689348814741910323 : Int64)))).toUInt64 >>> (((4 : Int32)).toInt64.toUInt64 &&& Int64.toUInt64 63)).toInt64)) &&& (1085102592571150095 : Int64))).toUInt64 >>> (((8 : Int32)).toInt64.toUInt64 &&& Int64.toUInt64 63)).toInt64)) + (((((((((a0 - ((((a0).toUInt64 >>> (((1 : Int32)).toInt64.toUInt64 &&& Int64.toUInt64 63)).toInt64) &&& (6148914691236517205 : Int64))) &&& (3689348814741910323 : Int64)) + (((((a0 - ((((a0).toUInt64 >>> (((1 : Int32)).toInt64.toUInt64 &&& Int64.toUInt64 63)).toInt64) &&& (6148914691236517205 : Int64)))).toUInt64 >>> (((2 : Int32)).toInt64.toUInt64 &&& Int64.toUInt64 63)).toInt64) &&& (3689348814741910323 : Int64))) + ((((((a0 - ((((a0).toUInt64 >>> (((1 : Int32)).toInt64.toUInt64 &&& Int64.toUInt64 63)).toInt64) &&& (6148914691236517205 : Int64))) &&& (3689348814741910323 : Int64)) + (((((a0 - ((((a0).toUInt64 >>> (((1 : Int32)).toInt64.toUInt64 &&& Int64.toUInt64 63)).toInt64) &&& (6148914691236517205 : Int64)))).toUInt64 >>> (((2 : Int32)).toInt64.toUInt64 &&& Int64.toUInt64 63)).toInt64) &&& (3689348814741910323 : Int64)))).toUInt64 >>> (((4 : Int32)).toInt64.toUInt64 &&& Int64.toUInt64 63)).toInt64)) &&& (1085102592571150095 : Int64)) + ((((((((a0 - ((((a0).toUInt64 >>> (((1 : Int32)).toInt64.toUInt64 &&& Int64.toUInt64 63)).toInt64) &&& (6148914691236517205 : Int64))) &&& (3689348814741910323 : Int64)) + (((((a0 - ((((a0).toUInt64 >>> (((1 : Int32)).toInt64.toUInt64 &&& Int64.toUInt64 63)).toInt64) &&& (6148914691236517205 : Int64)))).toUInt64 >>> (((2 : Int32)).toInt64.toUInt64 &&& Int64.toUInt64 63)).toInt64) &&& (3689348814741910323 : Int64))) + ((((((a0 - ((((a0).toUInt64 >>> (((1 : Int32)).toInt64.toUInt64 &&& Int64.toUInt64 63)).toInt64) &&& (6148914691236517205 : Int64))) &&& (3689348814741910323 : Int64)) + (((((a0 - ((((a0).toUInt64 >>> (((1 : Int32)).toInt64.toUInt64 &&& Int64.toUInt64 63)).toInt64) &&& (6148914691236517205 : Int64)))).toUInt64 >>> (((2 : Int32)).toInt64.toUInt64 &&& Int64.toUInt64 63)).toInt64) &&& (3689348814741910323 : Int64)))).toUInt64 >>> (((4 : Int32)).toInt64.toUInt64 &&& Int64.toUInt64 63)).toInt64)) &&& (1085102592571150095 : Int64))).toUInt64 >>> (((8 : Int32)).toInt64.toUInt64 &&& Int64.toUInt64 63)).toInt64))).toUInt64 >>> (((16 : Int32)).toInt64.toUInt64 &&& Int64.toUInt64 63)).toInt64)) + ((((((((((a0 - ((((a0).toUInt64 >>> (((1 : Int32)).toInt64.toUInt64 &&& Int64.toUInt64 63)).toInt64) &&& (6148914691236517205 : Int64))) &&& (3689348814741910323 : Int64)) + (((((a0 - ((((a0).toUInt64 >>> (((1 : Int32)).toInt64.toUInt64 &&& Int64.toUInt64 63)).toInt64) &&& (6148914691236517205 : Int64)))).toUInt64 >>> (((2 : Int32)).toInt64.toUInt64 &&& Int64.toUInt64 63)).toInt64) &&& (3689348814741910323 : Int64))) + ((((((a0 - ((((a0).toUInt64 >>> (((1 : Int32)).toInt64.toUInt64 &&& Int64.toUInt64 63)).toInt64) &&& (6148914691236517205 : Int64))) &&& (3689348814741910323 : Int64)) + (((((a0 - ((((a0).toUInt64 >>> (((1 : Int32)).toInt64.toUInt64 &&& Int64.toUInt64 63)).toInt64) &&& (6148914691236517205 : Int64)))).toUInt64 >>> (((2 : Int32)).toInt64.toUInt64 &&& Int64.toUInt64 63)).toInt64) &&& (3689348814741910323 : Int64)))).toUInt64 >>> (((4 : Int32)).toInt64.toUInt64 &&& Int64.toUInt64 63)).toInt64)) &&& (1085102592571150095 : Int64)) + ((((((((a0 - ((((a0).toUInt64 >>> (((1 : Int32)).toInt64.toUInt64 &&& Int64.toUInt64 63)).toInt64) &&& (6148914691236517205 : Int64))) &&& (3689348814741910323 : Int64)) + (((((a0 - ((((a0).toUInt64 >>> (((1 : Int32)).toInt64.toUInt64 &&& Int64.toUInt64 63)).toInt64) &&& (6148914691236517205 : Int64)))).toUInt64 >>> (((2 : Int32)).toInt64.toUInt64 &&& Int64.toUInt64 63)).toInt64) &&& (3689348814741910323 : Int64))) + ((((((a0 - ((((a0).toUInt64 >>> (((1 : Int32)).toInt64.toUInt64 &&& Int64.toUInt64 63)).toInt64) &&& (6148914691236517205 : Int64))) &&& (3689348814741910323 : Int64)) + (((((a0 - ((((a0).toUInt64 >>> (((1 : Int32)).toInt64.toUInt64 &&& Int64.toUInt64 63)).toInt64) &&& (6148914691236517205 : Int64)))).toUInt64 >>> (((2 : Int32)).toInt64.toUInt64 &&& Int64.toUInt64 63)).toInt64) &&& (3689348814741910323 : Int64)))).toUInt64 >>> (((4 : Int32)).toInt64.toUInt64 &&& Int64.toUInt64 63)).toInt64)) &&& (1085102592571150095 : Int64))).toUInt64 >>> (((8 : Int32)).toInt64.toUInt64 &&& Int64.toUInt64 63)).toInt64)) + (((((((((a0 - ((((a0).toUInt64 >>> (((1 : Int32)).toInt64.toUInt64 &&& Int64.toUInt64 63)).toInt64) &&& (6148914691236517205 : Int64))) &&& (3689348814741910323 : Int64)) + (((((a0 - ((((a0).toUInt64 >>> (((1 : Int32)).toInt64.toUInt64 &&& Int64.toUInt64 63)).toInt64) &&& (6148914691236517205 : Int64)))).toUInt64 >>> (((2 : Int32)).toInt64.toUInt64 &&& Int64.toUInt64 63)).toInt64) &&& (3689348814741910323 : Int64))) + ((((((a0 - ((((a0).toUInt64 >>> (((1 : Int32)).toInt64.toUInt64 &&& Int64.toUInt64 63)).toInt64) &&& (6148914691236517205 : Int64))) &&& (3689348814741910323 : Int64)) + (((((a0 - ((((a0).toUInt64 >>> (((1 : Int32)).toInt64.toUInt64 &&& Int64.toUInt64 63)).toInt64) &&& (6148914691236517205 : Int64)))).toUInt64 >>> (((2 : Int32)).toInt64.toUInt64 &&& Int64.toUInt64 63)).toInt64) &&& (3689348814741910323 : Int64)))).toUInt64 >>> (((4 : Int32)).toInt64.toUInt64 &&& Int64.toUInt64 63)).toInt64)) &&& (1085102592571150095 : Int64)) + ((((((((a0 - ((((a0).toUInt64 >>> (((1 : Int32)).toInt64.toUInt64 &&& Int64.toUInt64 63)).toInt64) &&& (6148914691236517205 : Int64))) &&& (3689348814741910323 : Int64)) + (((((a0 - ((((a0).toUInt64 >>> (((1 : Int32)).toInt64.toUInt64 &&& Int64.toUInt64 63)).toInt64) &&& (6148914691236517205 : Int64)))).toUInt64 >>> (((2 : Int32)).toInt64.toUInt64 &&& Int64.toUInt64 63)).toInt64) &&& (3689348814741910323 : Int64))) + ((((((a0 - ((((a0).toUInt64 >>> (((1 : Int32)).toInt64.toUInt64 &&& Int64.toUInt64 63)).toInt64) &&& (6148914691236517205 : Int64))) &&& (3689348814741910323 : Int64)) + (((((a0 - ((((a0).toUInt64 >>> (((1 : Int32)).toInt64.toUInt64 &&& Int64.toUInt64 63)).toInt64) &&& (6148914691236517205 : Int64)))).toUInt64 >>> (((2 : Int32)).toInt64.toUInt64 &&& Int64.toUInt64 63)).toInt64) &&& (3689348814741910323 : Int64)))).toUInt64 >>> (((4 : Int32)).toInt64.toUInt64 &&& Int64.toUInt64 63)).toInt64)) &&& (1085102592571150095 : Int64))).toUInt64 >>> (((8 : Int32)).toInt64.toUInt64 &&& Int64.toUInt64 63)).toInt64))).toUInt64 >>> (((16 : Int32)).toInt64.toUInt64 &&& Int64.toUInt64 63)).toInt64))).toUInt64 >>> (((32 : Int32)).toInt64.toUInt64 &&& Int64.toUInt64 63)).toInt64)))]) cx dJ13_bitCount_95d88_54 rfl (Nat.le_of_ble_eq_true rfl) rfl rfl ?_
  refine sw_lload_n (pc' := 56) (i := 0) cx dJ13_bitCount_95d88_55 rfl 0 rfl rfl ?_
  refine sw_l2i (pc' := 57) cx dJ13_bitCount_95d88_56 rfl ?_
  refine sw_bipush (pc' := 59) (v := 127) cx dJ13_bitCount_95d88_57 bipush_127 rfl ?_
  refine sw_iand (pc' := 60) cx dJ13_bitCount_95d88_59 rfl ?_
  obtain rfl := Option.some.inj hf
  exact sw_iret cx hr hQ dJ13_bitCount_95d88_60
abbrev rm_J7_fill_53178 : Room := ({ frames := 0, cells := 0, slots := 0, locals := 0 } : Room)
set_option maxRecDepth 100000 in
set_option maxHeartbeats 4000000 in
theorem k_J7_fill_53178 (l : Launch) (D : sf_D) (b : Nat) (cI cJ cK cS : ClassId) (arr : Nat → Int32) (a1 : Int32) (res : (Nat → Int32)) (hf : f_J7_fill_53178 arr a1 = some res) : sf_Ct l yJ7_fill_53178 cJ7_fill_53178 4 none rm_J7_fill_53178 D (sf_ty cI cJ cK cS) [.ref b, .int a1] [(b, .inl (cI, 40, .inl arr))] none [(b, .inl (cI, 40, .inl res))] := by
  refine sf_met (lv := [(0, .ref b), (1, .int a1)]) (by decide) (Nat.le_of_ble_eq_true rfl) rfl ?_
  intro p e s m args below meth c A Q cx hr hQ
  have cx : sf_Cx p m meth c cJ7_fill_53178 4 s args RJ7 D (sf_ty cI cJ cK cS) A := cx
  have B5 : ∀ (n : Nat), ∀ (arr : Nat → Int32) (x1 : Int32) (x2 : Int32) (x3 : Int32), f_J7_fill_53178_b5 n arr x1 x2 x3 = some res → sf_W p l e rm_J7_fill_53178 s m args below meth c 0 0 Q 4 D A [(b, .inl (cI, 40, .inl arr))] [(0, .ref b), (1, .int x1), (2, .int x2), (3, .int x3)] 5 [] := by
    intro n
    induction n with
    | zero => intro arr x1 x2 x3 hf; rw [f_J7_fill_53178_b5] at hf; cases hf
    | succ n ih =>
      intro arr x1 x2 x3 hf
      rw [f_J7_fill_53178_b5] at hf
      refine sw_iload_n (pc' := 6) (i := 2) cx dJ7_fill_53178_5 rfl 2 rfl rfl ?_
      refine sw_iload_n (pc' := 7) (i := 3) cx dJ7_fill_53178_6 rfl 3 rfl rfl ?_
      refine sw_icmp_ge (pc' := 10) (tgt := 20) cx dJ7_fill_53178_7 (by decide) rfl (fun c1 => ?_) (fun c1 => ?_)
      · replace hf := it_p c1 hf
        obtain rfl := Option.some.inj hf
        exact sw_vret cx hr hQ dJ7_fill_53178_20
      · replace hf := it_n c1 hf
        refine sw_aload_n (pc' := 11) (i := 0) cx dJ7_fill_53178_10 rfl 0 rfl rfl ?_
        refine sw_iload_n (pc' := 12) (i := 2) cx dJ7_fill_53178_11 rfl 2 rfl rfl ?_
        refine sw_iload_n (pc' := 13) (i := 1) cx dJ7_fill_53178_12 rfl 1 rfl rfl ?_
        obtain ⟨h2, hf⟩ := gx_s hf
        refine sw_iast (pc' := 14) (ws' := [(b, .inl (cI, 40, .inl (upd arr (x2).toNatClampNeg x1)))]) cx 0 0 rfl rfl h2 dJ7_fill_53178_13 rfl rfl ?_
        refine sw_iinc (pc' := 17) (v := (x2 + (1 : Int32))) (lv' := [(2, .int (x2 + (1 : Int32))), (0, .ref b), (1, .int x1), (3, .int x3)]) cx dJ7_fill_53178_14 2 rfl rfl (Nat.le_of_ble_eq_true rfl) rfl rfl ?_
        refine sw_goto (tgt := 5) cx dJ7_fill_53178_17 (by decide) ?_
        exact sw_lv [1, 2, 0, 3] rfl (ih (upd arr (x2).toNatClampNeg x1) x1 (x2 + (1 : Int32)) x3 hf)
  unfold f_J7_fill_53178 at hf
  refine sw_iconst (pc' := 1) (v := 0) cx dJ7_fill_53178_0 iconst_0 rfl ?_
  refine sw_istore_n (pc' := 2) (i := 2) (lv' := [(2, .int (0 : Int32)), (0, .ref b), (1, .int a1)]) cx dJ7_fill_53178_1 rfl (Nat.le_of_ble_eq_true rfl) rfl rfl ?_
  refine sw_aload_n (pc' := 3) (i := 0) cx dJ7_fill_53178_2 rfl 1 rfl rfl ?_
  refine sw_alen (pc' := 4) (v := 40) cx 0 0 rfl rfl (by decide : Int32.ofNat 40 = 40) dJ7_fill_53178_3 rfl ?_
  refine sw_istore_n (pc' := 5) (i := 3) (lv' := [(3, .int (40 : Int32)), (2, .int (0 : Int32)), (0, .ref b), (1, .int a1)]) cx dJ7_fill_53178_4 rfl (Nat.le_of_ble_eq_true rfl) rfl rfl ?_
  exact sw_lv [2, 3, 1, 0] rfl (B5 1000 arr a1 (0 : Int32) (40 : Int32) hf)
abbrev rm_J7_fill_d0a16 : Room := ({ frames := 0, cells := 0, slots := 0, locals := 0 } : Room)
set_option maxRecDepth 100000 in
set_option maxHeartbeats 4000000 in
theorem k_J7_fill_d0a16 (l : Launch) (D : sf_D) (b : Nat) (cI cJ cK cS : ClassId) (arr : Nat → Int64) (a1 : Int64) (res : (Nat → Int64)) (hf : f_J7_fill_d0a16 arr a1 = some res) : sf_Ct l yJ7_fill_d0a16 cJ7_fill_d0a16 5 none rm_J7_fill_d0a16 D (sf_ty cI cJ cK cS) [.ref b, .long a1] [(b, .inl (cJ, 40, .inr (.inl arr)))] none [(b, .inl (cJ, 40, .inr (.inl res)))] := by
  refine sf_met (lv := [(0, .ref b), (1, .long a1)]) (by decide) (Nat.le_of_ble_eq_true rfl) rfl ?_
  intro p e s m args below meth c A Q cx hr hQ
  have cx : sf_Cx p m meth c cJ7_fill_d0a16 5 s args RJ7 D (sf_ty cI cJ cK cS) A := cx
  have B6 : ∀ (n : Nat), ∀ (arr : Nat → Int64) (x1 : Int64) (x3 : Int32) (x4 : Int32), f_J7_fill_d0a16_b6 n arr x1 x3 x4 = some res → sf_W p l e rm_J7_fill_d0a16 s m args below meth c 0 0 Q 5 D A [(b, .inl (cJ, 40, .inr (.inl arr)))] [(0, .ref b), (1, .long x1), (3, .int x3), (4, .int x4)] 6 [] := by
    intro n
    induction n with
    | zero => intro arr x1 x3 x4 hf; rw [f_J7_fill_d0a16_b6] at hf; cases hf
    | succ n ih =>
      intro arr x1 x3 x4 hf
      rw [f_J7_fill_d0a16_b6] at hf
      refine sw_iload_n (pc' := 7) (i := 3) cx dJ7_fill_d0a16_6 rfl 2 rfl rfl ?_
      refine sw_iload (pc' := 9) (i := 4) cx dJ7_fill_d0a16_7 3 rfl rfl ?_
      refine sw_icmp_ge (pc' := 12) (tgt := 22) cx dJ7_fill_d0a16_9 (by decide) rfl (fun c1 => ?_) (fun c1 => ?_)
      · replace hf := it_p c1 hf
        obtain rfl := Option.some.inj hf
        exact sw_vret cx hr hQ dJ7_fill_d0a16_22
      · replace hf := it_n c1 hf
        refine sw_aload_n (pc' := 13) (i := 0) cx dJ7_fill_d0a16_12 rfl 0 rfl rfl ?_
        refine sw_iload_n (pc' := 14) (i := 3) cx dJ7_fill_d0a16_13 rfl 2 rfl rfl ?_
        refine sw_lload_n (pc' := 15) (i := 1) cx dJ7_fill_d0a16_14 rfl 1 rfl rfl ?_
        obtain ⟨h2, hf⟩ := gx_s hf
        refine sw_last (pc' := 16) (ws' := [(b, .inl (cJ, 40, .inr (.inl (vp_updL arr (x3).toNatClampNeg x1))))]) cx 0 1 rfl rfl h2 dJ7_fill_d0a16_15 rfl rfl ?_
        refine sw_iinc (pc' := 19) (v := (x3 + (1 : Int32))) (lv' := [(3, .int (x3 + (1 : Int32))), (0, .ref b), (1, .long x1), (4, .int x4)]) cx dJ7_fill_d0a16_16 2 rfl rfl (Nat.le_of_ble_eq_true rfl) rfl rfl ?_
        refine sw_goto (tgt := 6) cx dJ7_fill_d0a16_19 (by decide) ?_
        exact sw_lv [1, 2, 0, 3] rfl (ih (vp_updL arr (x3).toNatClampNeg x1) x1 (x3 + (1 : Int32)) x4 hf)
  unfold f_J7_fill_d0a16 at hf
  refine sw_iconst (pc' := 1) (v := 0) cx dJ7_fill_d0a16_0 iconst_0 rfl ?_
  refine sw_istore_n (pc' := 2) (i := 3) (lv' := [(3, .int (0 : Int32)), (0, .ref b), (1, .long a1)]) cx dJ7_fill_d0a16_1 rfl (Nat.le_of_ble_eq_true rfl) rfl rfl ?_
  refine sw_aload_n (pc' := 3) (i := 0) cx dJ7_fill_d0a16_2 rfl 1 rfl rfl ?_
  refine sw_alen (pc' := 4) (v := 40) cx 0 1 rfl rfl (by decide : Int32.ofNat 40 = 40) dJ7_fill_d0a16_3 rfl ?_
  refine sw_istore (pc' := 6) (i := 4) (lv' := [(4, .int (40 : Int32)), (3, .int (0 : Int32)), (0, .ref b), (1, .long a1)]) cx dJ7_fill_d0a16_4 (Nat.le_of_ble_eq_true rfl) rfl rfl ?_
  exact sw_lv [2, 3, 1, 0] rfl (B6 1000 arr a1 (0 : Int32) (40 : Int32) hf)
abbrev rm_X9_isWithin : Room := ({ frames := 0, cells := 0, slots := 0, locals := 0 } : Room)
set_option maxRecDepth 100000 in
set_option maxHeartbeats 4000000 in
theorem k_X9_isWithin (l : Launch) (D : sf_D) (cI cJ cK cS : ClassId)  (a0 : Int32) (a1 : Int32) (a2 : Int32) (res : Int32) (hf : f_X9_isWithin a0 a1 a2 = some res) : sf_Ct l yX9_isWithin cX9_isWithin 3 (some .boolean) rm_X9_isWithin D (sf_ty cI cJ cK cS) [.int a0, .int a1, .int a2] [] (some (.int res)) [] := by
  refine sf_met (lv := [(0, .int a0), (1, .int a1), (2, .int a2)]) (by decide) (Nat.le_of_ble_eq_true rfl) rfl ?_
  intro p e s m args below meth c A Q cx hr hQ
  have cx : sf_Cx p m meth c cX9_isWithin 3 s args RX9 D (sf_ty cI cJ cK cS) A := cx
  unfold f_X9_isWithin at hf
  refine sw_iload_n (pc' := 1) (i := 0) cx dX9_isWithin_0 rfl 0 rfl rfl ?_
  refine sw_iload_n (pc' := 2) (i := 1) cx dX9_isWithin_1 rfl 1 rfl rfl ?_
  refine sw_icmp_lt (pc' := 5) (tgt := 14) cx dX9_isWithin_2 (by decide) rfl (fun c1 => ?_) (fun c1 => ?_)
  · replace hf := it_p c1 hf
    refine sw_iconst (pc' := 15) (v := 0) cx dX9_isWithin_14 iconst_0 rfl ?_
    obtain rfl := Option.some.inj hf
    exact sw_zret cx hr (by decide +kernel) hQ dX9_isWithin_15
  · replace hf := it_n c1 hf
    refine sw_iload_n (pc' := 6) (i := 0) cx dX9_isWithin_5 rfl 0 rfl rfl ?_
    refine sw_iload_n (pc' := 7) (i := 2) cx dX9_isWithin_6 rfl 2 rfl rfl ?_
    refine sw_icmp_gt (pc' := 10) (tgt := 14) cx dX9_isWithin_7 (by decide) rfl (fun c2 => ?_) (fun c2 => ?_)
    · replace hf := it_p c2 hf
      refine sw_iconst (pc' := 15) (v := 0) cx dX9_isWithin_14 iconst_0 rfl ?_
      obtain rfl := Option.some.inj hf
      exact sw_zret cx hr (by decide +kernel) hQ dX9_isWithin_15
    · replace hf := it_n c2 hf
      refine sw_iconst (pc' := 11) (v := 1) cx dX9_isWithin_10 iconst_1 rfl ?_
      refine sw_goto (tgt := 15) cx dX9_isWithin_11 (by decide) ?_
      obtain rfl := Option.some.inj hf
      exact sw_zret cx hr (by decide +kernel) hQ dX9_isWithin_15
abbrev rm_X9_isPlace : Room := ({ frames := 0, cells := 0, slots := 0, locals := 0 } : Room)
set_option maxRecDepth 100000 in
set_option maxHeartbeats 4000000 in
theorem k_X9_isPlace (l : Launch) (D : sf_D) (cI cJ cK cS : ClassId)  (a0 : Int32) (res : Int32) (hf : f_X9_isPlace a0 = some res) : sf_Ct l yX9_isPlace cX9_isPlace 1 (some .boolean) rm_X9_isPlace D (sf_ty cI cJ cK cS) [.int a0] [] (some (.int res)) [] := by
  refine sf_met (lv := [(0, .int a0)]) (by decide) (Nat.le_of_ble_eq_true rfl) rfl ?_
  intro p e s m args below meth c A Q cx hr hQ
  have cx : sf_Cx p m meth c cX9_isPlace 1 s args RX9 D (sf_ty cI cJ cK cS) A := cx
  unfold f_X9_isPlace at hf
  refine sw_iload_n (pc' := 1) (i := 0) cx dX9_isPlace_0 rfl 0 rfl rfl ?_
  refine sw_if_lt (pc' := 4) (tgt := 14) cx dX9_isPlace_1 (by decide) rfl (fun c1 => ?_) (fun c1 => ?_)
  · replace hf := it_p c1 hf
    refine sw_iconst (pc' := 15) (v := 0) cx dX9_isPlace_14 iconst_0 rfl ?_
    obtain rfl := Option.some.inj hf
    exact sw_zret cx hr (by decide +kernel) hQ dX9_isPlace_15
  · replace hf := it_n c1 hf
    refine sw_iload_n (pc' := 5) (i := 0) cx dX9_isPlace_4 rfl 0 rfl rfl ?_
    refine sw_bipush (pc' := 7) (v := 40) cx dX9_isPlace_5 bipush_40 rfl ?_
    refine sw_icmp_ge (pc' := 10) (tgt := 14) cx dX9_isPlace_7 (by decide) rfl (fun c2 => ?_) (fun c2 => ?_)
    · replace hf := it_p c2 hf
      refine sw_iconst (pc' := 15) (v := 0) cx dX9_isPlace_14 iconst_0 rfl ?_
      obtain rfl := Option.some.inj hf
      exact sw_zret cx hr (by decide +kernel) hQ dX9_isPlace_15
    · replace hf := it_n c2 hf
      refine sw_iconst (pc' := 11) (v := 1) cx dX9_isPlace_10 iconst_1 rfl ?_
      refine sw_goto (tgt := 15) cx dX9_isPlace_11 (by decide) ?_
      obtain rfl := Option.some.inj hf
      exact sw_zret cx hr (by decide +kernel) hQ dX9_isPlace_15
abbrev rm_X9_isKind : Room := ({ frames := 0, cells := 0, slots := 0, locals := 0 } : Room)
set_option maxRecDepth 100000 in
set_option maxHeartbeats 4000000 in
theorem k_X9_isKind (l : Launch) (D : sf_D) (cI cJ cK cS : ClassId)  (a0 : Int32) (res : Int32) (hf : f_X9_isKind a0 = some res) : sf_Ct l yX9_isKind cX9_isKind 1 (some .boolean) rm_X9_isKind D (sf_ty cI cJ cK cS) [.int a0] [] (some (.int res)) [] := by
  refine sf_met (lv := [(0, .int a0)]) (by decide) (Nat.le_of_ble_eq_true rfl) rfl ?_
  intro p e s m args below meth c A Q cx hr hQ
  have cx : sf_Cx p m meth c cX9_isKind 1 s args RX9 D (sf_ty cI cJ cK cS) A := cx
  unfold f_X9_isKind at hf
  refine sw_iload_n (pc' := 1) (i := 0) cx dX9_isKind_0 rfl 0 rfl rfl ?_
  refine sw_if_lt (pc' := 4) (tgt := 14) cx dX9_isKind_1 (by decide) rfl (fun c1 => ?_) (fun c1 => ?_)
  · replace hf := it_p c1 hf
    refine sw_iconst (pc' := 15) (v := 0) cx dX9_isKind_14 iconst_0 rfl ?_
    obtain rfl := Option.some.inj hf
    exact sw_zret cx hr (by decide +kernel) hQ dX9_isKind_15
  · replace hf := it_n c1 hf
    refine sw_iload_n (pc' := 5) (i := 0) cx dX9_isKind_4 rfl 0 rfl rfl ?_
    refine sw_bipush (pc' := 7) (v := 6) cx dX9_isKind_5 bipush_6 rfl ?_
    refine sw_icmp_ge (pc' := 10) (tgt := 14) cx dX9_isKind_7 (by decide) rfl (fun c2 => ?_) (fun c2 => ?_)
    · replace hf := it_p c2 hf
      refine sw_iconst (pc' := 15) (v := 0) cx dX9_isKind_14 iconst_0 rfl ?_
      obtain rfl := Option.some.inj hf
      exact sw_zret cx hr (by decide +kernel) hQ dX9_isKind_15
    · replace hf := it_n c2 hf
      refine sw_iconst (pc' := 11) (v := 1) cx dX9_isKind_10 iconst_1 rfl ?_
      refine sw_goto (tgt := 15) cx dX9_isKind_11 (by decide) ?_
      obtain rfl := Option.some.inj hf
      exact sw_zret cx hr (by decide +kernel) hQ dX9_isKind_15
abbrev rm_X9_isSheet : Room := ({ frames := 0, cells := 0, slots := 0, locals := 0 } : Room)
set_option maxRecDepth 100000 in
set_option maxHeartbeats 4000000 in
theorem k_X9_isSheet (l : Launch) (D : sf_D) (cI cJ cK cS : ClassId)  (a0 : Int32) (res : Int32) (hf : f_X9_isSheet a0 = some res) : sf_Ct l yX9_isSheet cX9_isSheet 1 (some .boolean) rm_X9_isSheet D (sf_ty cI cJ cK cS) [.int a0] [] (some (.int res)) [] := by
  refine sf_met (lv := [(0, .int a0)]) (by decide) (Nat.le_of_ble_eq_true rfl) rfl ?_
  intro p e s m args below meth c A Q cx hr hQ
  have cx : sf_Cx p m meth c cX9_isSheet 1 s args RX9 D (sf_ty cI cJ cK cS) A := cx
  unfold f_X9_isSheet at hf
  refine sw_iload_n (pc' := 1) (i := 0) cx dX9_isSheet_0 rfl 0 rfl rfl ?_
  refine sw_if_lt (pc' := 4) (tgt := 13) cx dX9_isSheet_1 (by decide) rfl (fun c1 => ?_) (fun c1 => ?_)
  · replace hf := it_p c1 hf
    refine sw_iconst (pc' := 14) (v := 0) cx dX9_isSheet_13 iconst_0 rfl ?_
    obtain rfl := Option.some.inj hf
    exact sw_zret cx hr (by decide +kernel) hQ dX9_isSheet_14
  · replace hf := it_n c1 hf
    refine sw_iload_n (pc' := 5) (i := 0) cx dX9_isSheet_4 rfl 0 rfl rfl ?_
    refine sw_iconst (pc' := 6) (v := 4) cx dX9_isSheet_5 iconst_4 rfl ?_
    refine sw_icmp_ge (pc' := 9) (tgt := 13) cx dX9_isSheet_6 (by decide) rfl (fun c2 => ?_) (fun c2 => ?_)
    · replace hf := it_p c2 hf
      refine sw_iconst (pc' := 14) (v := 0) cx dX9_isSheet_13 iconst_0 rfl ?_
      obtain rfl := Option.some.inj hf
      exact sw_zret cx hr (by decide +kernel) hQ dX9_isSheet_14
    · replace hf := it_n c2 hf
      refine sw_iconst (pc' := 10) (v := 1) cx dX9_isSheet_9 iconst_1 rfl ?_
      refine sw_goto (tgt := 14) cx dX9_isSheet_10 (by decide) ?_
      obtain rfl := Option.some.inj hf
      exact sw_zret cx hr (by decide +kernel) hQ dX9_isSheet_14
abbrev rm_X8_isLetter : Room := ({ frames := 0, cells := 0, slots := 0, locals := 0 } : Room)
set_option maxRecDepth 100000 in
set_option maxHeartbeats 4000000 in
theorem k_X8_isLetter (l : Launch) (D : sf_D) (cI cJ cK cS : ClassId)  (a0 : Int32) (res : Int32) (hf : f_X8_isLetter a0 = some res) : sf_Ct l yX8_isLetter cX8_isLetter 1 (some .boolean) rm_X8_isLetter D (sf_ty cI cJ cK cS) [.int a0] [] (some (.int res)) [] := by
  refine sf_met (lv := [(0, .int a0)]) (by decide) (Nat.le_of_ble_eq_true rfl) rfl ?_
  intro p e s m args below meth c A Q cx hr hQ
  have cx : sf_Cx p m meth c cX8_isLetter 1 s args RX8 D (sf_ty cI cJ cK cS) A := cx
  unfold f_X8_isLetter at hf
  refine sw_iload_n (pc' := 1) (i := 0) cx dX8_isLetter_0 rfl 0 rfl rfl ?_
  refine sw_bipush (pc' := 3) (v := 97) cx dX8_isLetter_1 bipush_97 rfl ?_
  refine sw_icmp_lt (pc' := 6) (tgt := 16) cx dX8_isLetter_3 (by decide) rfl (fun c1 => ?_) (fun c1 => ?_)
  · replace hf := it_p c1 hf
    refine sw_iconst (pc' := 17) (v := 0) cx dX8_isLetter_16 iconst_0 rfl ?_
    obtain rfl := Option.some.inj hf
    exact sw_zret cx hr (by decide +kernel) hQ dX8_isLetter_17
  · replace hf := it_n c1 hf
    refine sw_iload_n (pc' := 7) (i := 0) cx dX8_isLetter_6 rfl 0 rfl rfl ?_
    refine sw_bipush (pc' := 9) (v := 122) cx dX8_isLetter_7 bipush_122 rfl ?_
    refine sw_icmp_gt (pc' := 12) (tgt := 16) cx dX8_isLetter_9 (by decide) rfl (fun c2 => ?_) (fun c2 => ?_)
    · replace hf := it_p c2 hf
      refine sw_iconst (pc' := 17) (v := 0) cx dX8_isLetter_16 iconst_0 rfl ?_
      obtain rfl := Option.some.inj hf
      exact sw_zret cx hr (by decide +kernel) hQ dX8_isLetter_17
    · replace hf := it_n c2 hf
      refine sw_iconst (pc' := 13) (v := 1) cx dX8_isLetter_12 iconst_1 rfl ?_
      refine sw_goto (tgt := 17) cx dX8_isLetter_13 (by decide) ?_
      obtain rfl := Option.some.inj hf
      exact sw_zret cx hr (by decide +kernel) hQ dX8_isLetter_17
abbrev rm_X8_isDigit : Room := ({ frames := 0, cells := 0, slots := 0, locals := 0 } : Room)
set_option maxRecDepth 100000 in
set_option maxHeartbeats 4000000 in
theorem k_X8_isDigit (l : Launch) (D : sf_D) (cI cJ cK cS : ClassId)  (a0 : Int32) (res : Int32) (hf : f_X8_isDigit a0 = some res) : sf_Ct l yX8_isDigit cX8_isDigit 1 (some .boolean) rm_X8_isDigit D (sf_ty cI cJ cK cS) [.int a0] [] (some (.int res)) [] := by
  refine sf_met (lv := [(0, .int a0)]) (by decide) (Nat.le_of_ble_eq_true rfl) rfl ?_
  intro p e s m args below meth c A Q cx hr hQ
  have cx : sf_Cx p m meth c cX8_isDigit 1 s args RX8 D (sf_ty cI cJ cK cS) A := cx
  unfold f_X8_isDigit at hf
  refine sw_iload_n (pc' := 1) (i := 0) cx dX8_isDigit_0 rfl 0 rfl rfl ?_
  refine sw_bipush (pc' := 3) (v := 48) cx dX8_isDigit_1 bipush_48 rfl ?_
  refine sw_icmp_lt (pc' := 6) (tgt := 16) cx dX8_isDigit_3 (by decide) rfl (fun c1 => ?_) (fun c1 => ?_)
  · replace hf := it_p c1 hf
    refine sw_iconst (pc' := 17) (v := 0) cx dX8_isDigit_16 iconst_0 rfl ?_
    obtain rfl := Option.some.inj hf
    exact sw_zret cx hr (by decide +kernel) hQ dX8_isDigit_17
  · replace hf := it_n c1 hf
    refine sw_iload_n (pc' := 7) (i := 0) cx dX8_isDigit_6 rfl 0 rfl rfl ?_
    refine sw_bipush (pc' := 9) (v := 57) cx dX8_isDigit_7 bipush_57 rfl ?_
    refine sw_icmp_gt (pc' := 12) (tgt := 16) cx dX8_isDigit_9 (by decide) rfl (fun c2 => ?_) (fun c2 => ?_)
    · replace hf := it_p c2 hf
      refine sw_iconst (pc' := 17) (v := 0) cx dX8_isDigit_16 iconst_0 rfl ?_
      obtain rfl := Option.some.inj hf
      exact sw_zret cx hr (by decide +kernel) hQ dX8_isDigit_17
    · replace hf := it_n c2 hf
      refine sw_iconst (pc' := 13) (v := 1) cx dX8_isDigit_12 iconst_1 rfl ?_
      refine sw_goto (tgt := 17) cx dX8_isDigit_13 (by decide) ?_
      obtain rfl := Option.some.inj hf
      exact sw_zret cx hr (by decide +kernel) hQ dX8_isDigit_17
abbrev rm_X3_name : Room := ({ frames := 0, cells := 0, slots := 0, locals := 0 } : Room)
set_option maxRecDepth 100000 in
set_option maxHeartbeats 4000000 in
theorem k_X3_name (l : Launch) (D : sf_D) (b ci : Nat) (q : vw_C) (hqc : vwCl[ci]? = some q) (cI cJ cK cS : ClassId)   (res : Nat) (hf : f_X3_name  = some res) : sf_Ct l yX3_name cX3_name 1 (some (.object "java/lang/String")) rm_X3_name D (sf_ty cI cJ cK cS) [.ref b] [(b, .inr (ci, []))] (some (.ref (D.2.1 res))) [(b, .inr (ci, []))] := by
  refine sf_met (lv := [(0, .ref b)]) (by decide) (Nat.le_of_ble_eq_true rfl) rfl ?_
  intro p e s m args below meth c A Q cx hr hQ
  have cx : sf_Cx p m meth c cX3_name 1 s args RX3 D (sf_ty cI cJ cK cS) A := cx
  unfold f_X3_name at hf
  refine sw_ldcS (pc' := 2) cx 0 rfl dX3_name_0 rfl ?_
  obtain rfl := Option.some.inj hf
  exact sw_aret cx hr (Or.inl ⟨_, rfl⟩) hQ dX3_name_2
abbrev rm_X3_works : Room := ({ frames := 0, cells := 0, slots := 0, locals := 0 } : Room)
set_option maxRecDepth 100000 in
set_option maxHeartbeats 4000000 in
theorem k_X3_works (l : Launch) (D : sf_D) (b ci : Nat) (q : vw_C) (hqc : vwCl[ci]? = some q) (cI cJ cK cS : ClassId)  (a0 : Int32) (a1 : Int32) (res : Int32) (hf : f_X3_works a0 a1 = some res) : sf_Ct l yX3_works cX3_works 3 (some .int) rm_X3_works D (sf_ty cI cJ cK cS) [.ref b, .int a0, .int a1] [(b, .inr (ci, []))] (some (.int res)) [(b, .inr (ci, []))] := by
  refine sf_met (lv := [(0, .ref b), (1, .int a0), (2, .int a1)]) (by decide) (Nat.le_of_ble_eq_true rfl) rfl ?_
  intro p e s m args below meth c A Q cx hr hQ
  have cx : sf_Cx p m meth c cX3_works 3 s args RX3 D (sf_ty cI cJ cK cS) A := cx
  unfold f_X3_works at hf
  refine sw_iload_n (pc' := 1) (i := 1) cx dX3_works_0 rfl 1 rfl rfl ?_
  obtain rfl := Option.some.inj hf
  exact sw_iret cx hr hQ dX3_works_1
abbrev rm_X3_cutsHigh : Room := ({ frames := 0, cells := 0, slots := 0, locals := 0 } : Room)
set_option maxRecDepth 100000 in
set_option maxHeartbeats 4000000 in
theorem k_X3_cutsHigh (l : Launch) (D : sf_D) (b ci : Nat) (q : vw_C) (hqc : vwCl[ci]? = some q) (cI cJ cK cS : ClassId)  (a0 : Int32) (res : Int32) (hf : f_X3_cutsHigh a0 = some res) : sf_Ct l yX3_cutsHigh cX3_cutsHigh 2 (some .int) rm_X3_cutsHigh D (sf_ty cI cJ cK cS) [.ref b, .int a0] [(b, .inr (ci, []))] (some (.int res)) [(b, .inr (ci, []))] := by
  refine sf_met (lv := [(0, .ref b), (1, .int a0)]) (by decide) (Nat.le_of_ble_eq_true rfl) rfl ?_
  intro p e s m args below meth c A Q cx hr hQ
  have cx : sf_Cx p m meth c cX3_cutsHigh 2 s args RX3 D (sf_ty cI cJ cK cS) A := cx
  unfold f_X3_cutsHigh at hf
  refine sw_bipush (pc' := 2) (v := 8) cx dX3_cutsHigh_0 bipush_8 rfl ?_
  refine sw_iload_n (pc' := 3) (i := 1) cx dX3_cutsHigh_2 rfl 1 rfl rfl ?_
  refine sw_iadd (pc' := 4) cx dX3_cutsHigh_3 rfl ?_
  obtain rfl := Option.some.inj hf
  exact sw_iret cx hr hQ dX3_cutsHigh_4
abbrev rm_X3_counts : Room := ({ frames := 0, cells := 0, slots := 0, locals := 0 } : Room)
set_option maxRecDepth 100000 in
set_option maxHeartbeats 4000000 in
theorem k_X3_counts (l : Launch) (D : sf_D) (b ci : Nat) (q : vw_C) (hqc : vwCl[ci]? = some q) (cI cJ cK cS : ClassId)   (res : Int32) (hf : f_X3_counts  = some res) : sf_Ct l yX3_counts cX3_counts 1 (some .int) rm_X3_counts D (sf_ty cI cJ cK cS) [.ref b] [(b, .inr (ci, []))] (some (.int res)) [(b, .inr (ci, []))] := by
  refine sf_met (lv := [(0, .ref b)]) (by decide) (Nat.le_of_ble_eq_true rfl) rfl ?_
  intro p e s m args below meth c A Q cx hr hQ
  have cx : sf_Cx p m meth c cX3_counts 1 s args RX3 D (sf_ty cI cJ cK cS) A := cx
  unfold f_X3_counts at hf
  refine sw_iconst (pc' := 1) (v := 1) cx dX3_counts_0 iconst_1 rfl ?_
  obtain rfl := Option.some.inj hf
  exact sw_iret cx hr hQ dX3_counts_1
abbrev rm_X6_name : Room := ({ frames := 0, cells := 0, slots := 0, locals := 0 } : Room)
set_option maxRecDepth 100000 in
set_option maxHeartbeats 4000000 in
theorem k_X6_name (l : Launch) (D : sf_D) (b ci : Nat) (q : vw_C) (hqc : vwCl[ci]? = some q) (cI cJ cK cS : ClassId)   (res : Nat) (hf : f_X6_name  = some res) : sf_Ct l yX6_name cX6_name 1 (some (.object "java/lang/String")) rm_X6_name D (sf_ty cI cJ cK cS) [.ref b] [(b, .inr (ci, []))] (some (.ref (D.2.1 res))) [(b, .inr (ci, []))] := by
  refine sf_met (lv := [(0, .ref b)]) (by decide) (Nat.le_of_ble_eq_true rfl) rfl ?_
  intro p e s m args below meth c A Q cx hr hQ
  have cx : sf_Cx p m meth c cX6_name 1 s args RX6 D (sf_ty cI cJ cK cS) A := cx
  unfold f_X6_name at hf
  refine sw_ldcS (pc' := 2) cx 1 rfl dX6_name_0 rfl ?_
  obtain rfl := Option.some.inj hf
  exact sw_aret cx hr (Or.inl ⟨_, rfl⟩) hQ dX6_name_2
abbrev rm_X6_works : Room := ({ frames := 1, cells := 0, slots := 0, locals := 22 } : Room)
set_option maxRecDepth 100000 in
set_option maxHeartbeats 4000000 in
theorem k_X6_works (l : Launch) (D : sf_D) (b ci : Nat) (q : vw_C) (hqc : vwCl[ci]? = some q) (cI cJ cK cS : ClassId)  (a0 : Int32) (a1 : Int32) (res : Int32) (hf : f_X6_works a0 a1 = some res) : sf_Ct l yX6_works cX6_works 3 (some .int) rm_X6_works D (sf_ty cI cJ cK cS) [.ref b, .int a0, .int a1] [(b, .inr (ci, []))] (some (.int res)) [(b, .inr (ci, []))] := by
  refine sf_met (lv := [(0, .ref b), (1, .int a0), (2, .int a1)]) (by decide) (Nat.le_of_ble_eq_true rfl) rfl ?_
  intro p e s m args below meth c A Q cx hr hQ
  have cx : sf_Cx p m meth c cX6_works 3 s args RX6 D (sf_ty cI cJ cK cS) A := cx
  unfold f_X6_works at hf
  refine sw_iconst (pc' := 1) (v := 2) cx dX6_works_0 iconst_2 rfl ?_
  refine sw_aload_n (pc' := 2) (i := 0) cx dX6_works_1 rfl 0 rfl rfl ?_
  refine sw_iload_n (pc' := 3) (i := 1) cx dX6_works_2 rfl 1 rfl rfl ?_
  refine sw_iload_n (pc' := 4) (i := 2) cx dX6_works_3 rfl 2 rfl rfl ?_
  obtain ⟨r1, hr1, hf⟩ := bd_s hf
  refine sw_callSU (pc' := 7) (As := [.int a0, .int a1]) (rest := [.int (2 : Int32)]) (w' := [(b, .inr (ci, []))]) cx (k_X3_works l D b ci q hqc cI cJ cK cS a0 a1 r1 hr1) pk_yX3_works.1 inst_yX3_works ml_RX6_9 same_StairFines_Kind_StairFines_Kind_works__II_I sup_RX6_RX3 (by decide +kernel) ⟨rfl, rfl⟩ ⟨(Nat.le_of_ble_eq_true rfl), (Nat.le_of_ble_eq_true rfl)⟩ ⟨(Nat.le_of_ble_eq_true rfl), (Nat.le_of_ble_eq_true rfl)⟩ 0 rfl hqc rfl (Nat.le_of_ble_eq_true rfl) rfl dX6_works_4 rfl ?_
  refine sw_imul (pc' := 8) cx dX6_works_7 rfl ?_
  obtain rfl := Option.some.inj hf
  exact sw_iret cx hr hQ dX6_works_8
abbrev rm_X0_name : Room := ({ frames := 0, cells := 0, slots := 0, locals := 0 } : Room)
set_option maxRecDepth 100000 in
set_option maxHeartbeats 4000000 in
theorem k_X0_name (l : Launch) (D : sf_D) (b ci : Nat) (q : vw_C) (hqc : vwCl[ci]? = some q) (cI cJ cK cS : ClassId)   (res : Nat) (hf : f_X0_name  = some res) : sf_Ct l yX0_name cX0_name 1 (some (.object "java/lang/String")) rm_X0_name D (sf_ty cI cJ cK cS) [.ref b] [(b, .inr (ci, []))] (some (.ref (D.2.1 res))) [(b, .inr (ci, []))] := by
  refine sf_met (lv := [(0, .ref b)]) (by decide) (Nat.le_of_ble_eq_true rfl) rfl ?_
  intro p e s m args below meth c A Q cx hr hQ
  have cx : sf_Cx p m meth c cX0_name 1 s args RX0 D (sf_ty cI cJ cK cS) A := cx
  unfold f_X0_name at hf
  refine sw_ldcS (pc' := 2) cx 2 rfl dX0_name_0 rfl ?_
  obtain rfl := Option.some.inj hf
  exact sw_aret cx hr (Or.inl ⟨_, rfl⟩) hQ dX0_name_2
abbrev rm_X0_cutsHigh : Room := ({ frames := 1, cells := 0, slots := 0, locals := 21 } : Room)
set_option maxRecDepth 100000 in
set_option maxHeartbeats 4000000 in
theorem k_X0_cutsHigh (l : Launch) (D : sf_D) (b ci : Nat) (q : vw_C) (hqc : vwCl[ci]? = some q) (cI cJ cK cS : ClassId)  (a0 : Int32) (res : Int32) (hf : f_X0_cutsHigh a0 = some res) : sf_Ct l yX0_cutsHigh cX0_cutsHigh 2 (some .int) rm_X0_cutsHigh D (sf_ty cI cJ cK cS) [.ref b, .int a0] [(b, .inr (ci, []))] (some (.int res)) [(b, .inr (ci, []))] := by
  refine sf_met (lv := [(0, .ref b), (1, .int a0)]) (by decide) (Nat.le_of_ble_eq_true rfl) rfl ?_
  intro p e s m args below meth c A Q cx hr hQ
  have cx : sf_Cx p m meth c cX0_cutsHigh 2 s args RX0 D (sf_ty cI cJ cK cS) A := cx
  unfold f_X0_cutsHigh at hf
  refine sw_aload_n (pc' := 1) (i := 0) cx dX0_cutsHigh_0 rfl 0 rfl rfl ?_
  refine sw_iload_n (pc' := 2) (i := 1) cx dX0_cutsHigh_1 rfl 1 rfl rfl ?_
  obtain ⟨r1, hr1, hf⟩ := bd_s hf
  refine sw_callSU (pc' := 5) (As := [.int a0]) (rest := []) (w' := [(b, .inr (ci, []))]) cx (k_X3_cutsHigh l D b ci q hqc cI cJ cK cS a0 r1 hr1) pk_yX3_cutsHigh.1 inst_yX3_cutsHigh ml_RX0_9 same_StairFines_Kind_StairFines_Kind_cutsHigh__I_I sup_RX0_RX3 (by decide +kernel) ⟨rfl, rfl⟩ ⟨(Nat.le_of_ble_eq_true rfl), (Nat.le_of_ble_eq_true rfl)⟩ ⟨(Nat.le_of_ble_eq_true rfl), (Nat.le_of_ble_eq_true rfl)⟩ 0 rfl hqc rfl (Nat.le_of_ble_eq_true rfl) rfl dX0_cutsHigh_2 rfl ?_
  refine sw_iconst (pc' := 6) (v := 2) cx dX0_cutsHigh_5 iconst_2 rfl ?_
  refine sw_isub (pc' := 7) cx dX0_cutsHigh_6 rfl ?_
  obtain rfl := Option.some.inj hf
  exact sw_iret cx hr hQ dX0_cutsHigh_7
abbrev rm_X2_name : Room := ({ frames := 0, cells := 0, slots := 0, locals := 0 } : Room)
set_option maxRecDepth 100000 in
set_option maxHeartbeats 4000000 in
theorem k_X2_name (l : Launch) (D : sf_D) (b ci : Nat) (q : vw_C) (hqc : vwCl[ci]? = some q) (cI cJ cK cS : ClassId)   (res : Nat) (hf : f_X2_name  = some res) : sf_Ct l yX2_name cX2_name 1 (some (.object "java/lang/String")) rm_X2_name D (sf_ty cI cJ cK cS) [.ref b] [(b, .inr (ci, []))] (some (.ref (D.2.1 res))) [(b, .inr (ci, []))] := by
  refine sf_met (lv := [(0, .ref b)]) (by decide) (Nat.le_of_ble_eq_true rfl) rfl ?_
  intro p e s m args below meth c A Q cx hr hQ
  have cx : sf_Cx p m meth c cX2_name 1 s args RX2 D (sf_ty cI cJ cK cS) A := cx
  unfold f_X2_name at hf
  refine sw_ldcS (pc' := 2) cx 3 rfl dX2_name_0 rfl ?_
  obtain rfl := Option.some.inj hf
  exact sw_aret cx hr (Or.inl ⟨_, rfl⟩) hQ dX2_name_2
abbrev rm_X2_works : Room := ({ frames := 1, cells := 0, slots := 0, locals := 22 } : Room)
set_option maxRecDepth 100000 in
set_option maxHeartbeats 4000000 in
theorem k_X2_works (l : Launch) (D : sf_D) (b ci : Nat) (q : vw_C) (hqc : vwCl[ci]? = some q) (cI cJ cK cS : ClassId)  (a0 : Int32) (a1 : Int32) (res : Int32) (hf : f_X2_works a0 a1 = some res) : sf_Ct l yX2_works cX2_works 3 (some .int) rm_X2_works D (sf_ty cI cJ cK cS) [.ref b, .int a0, .int a1] [(b, .inr (ci, []))] (some (.int res)) [(b, .inr (ci, []))] := by
  refine sf_met (lv := [(0, .ref b), (1, .int a0), (2, .int a1)]) (by decide) (Nat.le_of_ble_eq_true rfl) rfl ?_
  intro p e s m args below meth c A Q cx hr hQ
  have cx : sf_Cx p m meth c cX2_works 3 s args RX2 D (sf_ty cI cJ cK cS) A := cx
  unfold f_X2_works at hf
  refine sw_aload_n (pc' := 1) (i := 0) cx dX2_works_0 rfl 0 rfl rfl ?_
  refine sw_iload_n (pc' := 2) (i := 1) cx dX2_works_1 rfl 1 rfl rfl ?_
  refine sw_iload_n (pc' := 3) (i := 2) cx dX2_works_2 rfl 2 rfl rfl ?_
  obtain ⟨r1, hr1, hf⟩ := bd_s hf
  refine sw_callSU (pc' := 6) (As := [.int a0, .int a1]) (rest := []) (w' := [(b, .inr (ci, []))]) cx (k_X3_works l D b ci q hqc cI cJ cK cS a0 a1 r1 hr1) pk_yX3_works.1 inst_yX3_works ml_RX2_9 same_StairFines_Kind_StairFines_Kind_works__II_I sup_RX2_RX3 (by decide +kernel) ⟨rfl, rfl⟩ ⟨(Nat.le_of_ble_eq_true rfl), (Nat.le_of_ble_eq_true rfl)⟩ ⟨(Nat.le_of_ble_eq_true rfl), (Nat.le_of_ble_eq_true rfl)⟩ 0 rfl hqc rfl (Nat.le_of_ble_eq_true rfl) rfl dX2_works_3 rfl ?_
  refine sw_iconst (pc' := 7) (v := 2) cx dX2_works_6 iconst_2 rfl ?_
  refine sw_iadd (pc' := 8) cx dX2_works_7 rfl ?_
  obtain rfl := Option.some.inj hf
  exact sw_iret cx hr hQ dX2_works_8
abbrev rm_X2_cutsHigh : Room := ({ frames := 1, cells := 0, slots := 0, locals := 21 } : Room)
set_option maxRecDepth 100000 in
set_option maxHeartbeats 4000000 in
theorem k_X2_cutsHigh (l : Launch) (D : sf_D) (b ci : Nat) (q : vw_C) (hqc : vwCl[ci]? = some q) (cI cJ cK cS : ClassId)  (a0 : Int32) (res : Int32) (hf : f_X2_cutsHigh a0 = some res) : sf_Ct l yX2_cutsHigh cX2_cutsHigh 2 (some .int) rm_X2_cutsHigh D (sf_ty cI cJ cK cS) [.ref b, .int a0] [(b, .inr (ci, []))] (some (.int res)) [(b, .inr (ci, []))] := by
  refine sf_met (lv := [(0, .ref b), (1, .int a0)]) (by decide) (Nat.le_of_ble_eq_true rfl) rfl ?_
  intro p e s m args below meth c A Q cx hr hQ
  have cx : sf_Cx p m meth c cX2_cutsHigh 2 s args RX2 D (sf_ty cI cJ cK cS) A := cx
  unfold f_X2_cutsHigh at hf
  refine sw_aload_n (pc' := 1) (i := 0) cx dX2_cutsHigh_0 rfl 0 rfl rfl ?_
  refine sw_iload_n (pc' := 2) (i := 1) cx dX2_cutsHigh_1 rfl 1 rfl rfl ?_
  obtain ⟨r1, hr1, hf⟩ := bd_s hf
  refine sw_callSU (pc' := 5) (As := [.int a0]) (rest := []) (w' := [(b, .inr (ci, []))]) cx (k_X3_cutsHigh l D b ci q hqc cI cJ cK cS a0 r1 hr1) pk_yX3_cutsHigh.1 inst_yX3_cutsHigh ml_RX2_13 same_StairFines_Kind_StairFines_Kind_cutsHigh__I_I sup_RX2_RX3 (by decide +kernel) ⟨rfl, rfl⟩ ⟨(Nat.le_of_ble_eq_true rfl), (Nat.le_of_ble_eq_true rfl)⟩ ⟨(Nat.le_of_ble_eq_true rfl), (Nat.le_of_ble_eq_true rfl)⟩ 0 rfl hqc rfl (Nat.le_of_ble_eq_true rfl) rfl dX2_cutsHigh_2 rfl ?_
  refine sw_iconst (pc' := 6) (v := 5) cx dX2_cutsHigh_5 iconst_5 rfl ?_
  refine sw_iadd (pc' := 7) cx dX2_cutsHigh_6 rfl ?_
  obtain rfl := Option.some.inj hf
  exact sw_iret cx hr hQ dX2_cutsHigh_7
abbrev rm_X1_name : Room := ({ frames := 0, cells := 0, slots := 0, locals := 0 } : Room)
set_option maxRecDepth 100000 in
set_option maxHeartbeats 4000000 in
theorem k_X1_name (l : Launch) (D : sf_D) (b ci : Nat) (q : vw_C) (hqc : vwCl[ci]? = some q) (cI cJ cK cS : ClassId)   (res : Nat) (hf : f_X1_name  = some res) : sf_Ct l yX1_name cX1_name 1 (some (.object "java/lang/String")) rm_X1_name D (sf_ty cI cJ cK cS) [.ref b] [(b, .inr (ci, []))] (some (.ref (D.2.1 res))) [(b, .inr (ci, []))] := by
  refine sf_met (lv := [(0, .ref b)]) (by decide) (Nat.le_of_ble_eq_true rfl) rfl ?_
  intro p e s m args below meth c A Q cx hr hQ
  have cx : sf_Cx p m meth c cX1_name 1 s args RX1 D (sf_ty cI cJ cK cS) A := cx
  unfold f_X1_name at hf
  refine sw_ldcS (pc' := 2) cx 4 rfl dX1_name_0 rfl ?_
  obtain rfl := Option.some.inj hf
  exact sw_aret cx hr (Or.inl ⟨_, rfl⟩) hQ dX1_name_2
abbrev rm_X1_works : Room := ({ frames := 2, cells := 0, slots := 0, locals := 44 } : Room)
set_option maxRecDepth 100000 in
set_option maxHeartbeats 4000000 in
theorem k_X1_works (l : Launch) (D : sf_D) (b ci : Nat) (q : vw_C) (hqc : vwCl[ci]? = some q) (cI cJ cK cS : ClassId)  (a0 : Int32) (a1 : Int32) (res : Int32) (hf : f_X1_works a0 a1 = some res) : sf_Ct l yX1_works cX1_works 3 (some .int) rm_X1_works D (sf_ty cI cJ cK cS) [.ref b, .int a0, .int a1] [(b, .inr (ci, []))] (some (.int res)) [(b, .inr (ci, []))] := by
  refine sf_met (lv := [(0, .ref b), (1, .int a0), (2, .int a1)]) (by decide) (Nat.le_of_ble_eq_true rfl) rfl ?_
  intro p e s m args below meth c A Q cx hr hQ
  have cx : sf_Cx p m meth c cX1_works 3 s args RX1 D (sf_ty cI cJ cK cS) A := cx
  unfold f_X1_works at hf
  refine sw_aload_n (pc' := 1) (i := 0) cx dX1_works_0 rfl 0 rfl rfl ?_
  refine sw_iload_n (pc' := 2) (i := 1) cx dX1_works_1 rfl 1 rfl rfl ?_
  refine sw_iload_n (pc' := 3) (i := 2) cx dX1_works_2 rfl 2 rfl rfl ?_
  obtain ⟨r1, hr1, hf⟩ := bd_s hf
  refine sw_callSU (pc' := 6) (As := [.int a0, .int a1]) (rest := []) (w' := [(b, .inr (ci, []))]) cx (k_X2_works l D b ci q hqc cI cJ cK cS a0 a1 r1 hr1) pk_yX2_works inst_yX2_works ml_RX1_9 same_StairFines_Hasty_StairFines_Hasty_works__II_I sup_RX1_RX2 (by decide +kernel) ⟨rfl, rfl⟩ ⟨(Nat.le_of_ble_eq_true rfl), (Nat.le_of_ble_eq_true rfl)⟩ ⟨(Nat.le_of_ble_eq_true rfl), (Nat.le_of_ble_eq_true rfl)⟩ 0 rfl hqc rfl (Nat.le_of_ble_eq_true rfl) rfl dX1_works_3 rfl ?_
  refine sw_iconst (pc' := 7) (v := 2) cx dX1_works_6 iconst_2 rfl ?_
  refine sw_idiv (pc' := 8) cx dX1_works_7 (by decide +kernel) rfl ?_
  obtain rfl := Option.some.inj hf
  exact sw_iret cx hr hQ dX1_works_8
abbrev rm_X1_cutsHigh : Room := ({ frames := 2, cells := 0, slots := 0, locals := 42 } : Room)
set_option maxRecDepth 100000 in
set_option maxHeartbeats 4000000 in
theorem k_X1_cutsHigh (l : Launch) (D : sf_D) (b ci : Nat) (q : vw_C) (hqc : vwCl[ci]? = some q) (cI cJ cK cS : ClassId)  (a0 : Int32) (res : Int32) (hf : f_X1_cutsHigh a0 = some res) : sf_Ct l yX1_cutsHigh cX1_cutsHigh 2 (some .int) rm_X1_cutsHigh D (sf_ty cI cJ cK cS) [.ref b, .int a0] [(b, .inr (ci, []))] (some (.int res)) [(b, .inr (ci, []))] := by
  refine sf_met (lv := [(0, .ref b), (1, .int a0)]) (by decide) (Nat.le_of_ble_eq_true rfl) rfl ?_
  intro p e s m args below meth c A Q cx hr hQ
  have cx : sf_Cx p m meth c cX1_cutsHigh 2 s args RX1 D (sf_ty cI cJ cK cS) A := cx
  unfold f_X1_cutsHigh at hf
  refine sw_aload_n (pc' := 1) (i := 0) cx dX1_cutsHigh_0 rfl 0 rfl rfl ?_
  refine sw_iload_n (pc' := 2) (i := 1) cx dX1_cutsHigh_1 rfl 1 rfl rfl ?_
  obtain ⟨r1, hr1, hf⟩ := bd_s hf
  refine sw_callSU (pc' := 5) (As := [.int a0]) (rest := []) (w' := [(b, .inr (ci, []))]) cx (k_X2_cutsHigh l D b ci q hqc cI cJ cK cS a0 r1 hr1) pk_yX2_cutsHigh inst_yX2_cutsHigh ml_RX1_13 same_StairFines_Hasty_StairFines_Hasty_cutsHigh__I_I sup_RX1_RX2 (by decide +kernel) ⟨rfl, rfl⟩ ⟨(Nat.le_of_ble_eq_true rfl), (Nat.le_of_ble_eq_true rfl)⟩ ⟨(Nat.le_of_ble_eq_true rfl), (Nat.le_of_ble_eq_true rfl)⟩ 0 rfl hqc rfl (Nat.le_of_ble_eq_true rfl) rfl dX1_cutsHigh_2 rfl ?_
  refine sw_iconst (pc' := 6) (v := 3) cx dX1_cutsHigh_5 iconst_3 rfl ?_
  refine sw_iadd (pc' := 7) cx dX1_cutsHigh_6 rfl ?_
  obtain rfl := Option.some.inj hf
  exact sw_iret cx hr hQ dX1_cutsHigh_7
abbrev rm_X1_counts : Room := ({ frames := 0, cells := 0, slots := 0, locals := 0 } : Room)
set_option maxRecDepth 100000 in
set_option maxHeartbeats 4000000 in
theorem k_X1_counts (l : Launch) (D : sf_D) (b ci : Nat) (q : vw_C) (hqc : vwCl[ci]? = some q) (cI cJ cK cS : ClassId)   (res : Int32) (hf : f_X1_counts  = some res) : sf_Ct l yX1_counts cX1_counts 1 (some .int) rm_X1_counts D (sf_ty cI cJ cK cS) [.ref b] [(b, .inr (ci, []))] (some (.int res)) [(b, .inr (ci, []))] := by
  refine sf_met (lv := [(0, .ref b)]) (by decide) (Nat.le_of_ble_eq_true rfl) rfl ?_
  intro p e s m args below meth c A Q cx hr hQ
  have cx : sf_Cx p m meth c cX1_counts 1 s args RX1 D (sf_ty cI cJ cK cS) A := cx
  unfold f_X1_counts at hf
  refine sw_iconst (pc' := 1) (v := 2) cx dX1_counts_0 iconst_2 rfl ?_
  obtain rfl := Option.some.inj hf
  exact sw_iret cx hr hQ dX1_counts_1
abbrev rm_X5_name : Room := ({ frames := 0, cells := 0, slots := 0, locals := 0 } : Room)
set_option maxRecDepth 100000 in
set_option maxHeartbeats 4000000 in
theorem k_X5_name (l : Launch) (D : sf_D) (b ci : Nat) (q : vw_C) (hqc : vwCl[ci]? = some q) (cI cJ cK cS : ClassId)   (res : Nat) (hf : f_X5_name  = some res) : sf_Ct l yX5_name cX5_name 1 (some (.object "java/lang/String")) rm_X5_name D (sf_ty cI cJ cK cS) [.ref b] [(b, .inr (ci, []))] (some (.ref (D.2.1 res))) [(b, .inr (ci, []))] := by
  refine sf_met (lv := [(0, .ref b)]) (by decide) (Nat.le_of_ble_eq_true rfl) rfl ?_
  intro p e s m args below meth c A Q cx hr hQ
  have cx : sf_Cx p m meth c cX5_name 1 s args RX5 D (sf_ty cI cJ cK cS) A := cx
  unfold f_X5_name at hf
  refine sw_ldcS (pc' := 2) cx 5 rfl dX5_name_0 rfl ?_
  obtain rfl := Option.some.inj hf
  exact sw_aret cx hr (Or.inl ⟨_, rfl⟩) hQ dX5_name_2
abbrev rm_X5_works : Room := ({ frames := 1, cells := 0, slots := 0, locals := 22 } : Room)
set_option maxRecDepth 100000 in
set_option maxHeartbeats 4000000 in
theorem k_X5_works (l : Launch) (D : sf_D) (b ci : Nat) (q : vw_C) (hqc : vwCl[ci]? = some q) (cI cJ cK cS : ClassId)  (a0 : Int32) (a1 : Int32) (res : Int32) (hf : f_X5_works a0 a1 = some res) : sf_Ct l yX5_works cX5_works 3 (some .int) rm_X5_works D (sf_ty cI cJ cK cS) [.ref b, .int a0, .int a1] [(b, .inr (ci, []))] (some (.int res)) [(b, .inr (ci, []))] := by
  refine sf_met (lv := [(0, .ref b), (1, .int a0), (2, .int a1)]) (by decide) (Nat.le_of_ble_eq_true rfl) rfl ?_
  intro p e s m args below meth c A Q cx hr hQ
  have cx : sf_Cx p m meth c cX5_works 3 s args RX5 D (sf_ty cI cJ cK cS) A := cx
  unfold f_X5_works at hf
  refine sw_aload_n (pc' := 1) (i := 0) cx dX5_works_0 rfl 0 rfl rfl ?_
  refine sw_iload_n (pc' := 2) (i := 1) cx dX5_works_1 rfl 1 rfl rfl ?_
  refine sw_iload_n (pc' := 3) (i := 2) cx dX5_works_2 rfl 2 rfl rfl ?_
  obtain ⟨r1, hr1, hf⟩ := bd_s hf
  refine sw_callSX (pc' := 6) (As := [.int a0, .int a1]) (rest := []) (w' := [(b, .inr (ci, []))]) cx (k_X3_works l D b ci q hqc cI cJ cK cS a0 a1 r1 hr1) pk_yX3_works.1 inst_yX3_works ml_RX5_9 same_StairFines_Alms_StairFines_Kind_works__II_I sup_RX5_RX0 sup_RX0_RX3 (by decide +kernel) rfl ⟨rfl, rfl⟩ ⟨(Nat.le_of_ble_eq_true rfl), (Nat.le_of_ble_eq_true rfl)⟩ ⟨(Nat.le_of_ble_eq_true rfl), (Nat.le_of_ble_eq_true rfl)⟩ 0 rfl hqc rfl (Nat.le_of_ble_eq_true rfl) rfl dX5_works_3 rfl ?_
  refine sw_iload_n (pc' := 7) (i := 2) cx dX5_works_6 rfl 2 rfl rfl ?_
  refine sw_bipush (pc' := 9) (v := 10) cx dX5_works_7 bipush_10 rfl ?_
  refine sw_idiv (pc' := 10) cx dX5_works_9 (by decide +kernel) rfl ?_
  refine sw_iadd (pc' := 11) cx dX5_works_10 rfl ?_
  obtain rfl := Option.some.inj hf
  exact sw_iret cx hr hQ dX5_works_11
abbrev rm_X5_cutsHigh : Room := ({ frames := 2, cells := 0, slots := 0, locals := 42 } : Room)
set_option maxRecDepth 100000 in
set_option maxHeartbeats 4000000 in
theorem k_X5_cutsHigh (l : Launch) (D : sf_D) (b ci : Nat) (q : vw_C) (hqc : vwCl[ci]? = some q) (cI cJ cK cS : ClassId)  (a0 : Int32) (res : Int32) (hf : f_X5_cutsHigh a0 = some res) : sf_Ct l yX5_cutsHigh cX5_cutsHigh 2 (some .int) rm_X5_cutsHigh D (sf_ty cI cJ cK cS) [.ref b, .int a0] [(b, .inr (ci, []))] (some (.int res)) [(b, .inr (ci, []))] := by
  refine sf_met (lv := [(0, .ref b), (1, .int a0)]) (by decide) (Nat.le_of_ble_eq_true rfl) rfl ?_
  intro p e s m args below meth c A Q cx hr hQ
  have cx : sf_Cx p m meth c cX5_cutsHigh 2 s args RX5 D (sf_ty cI cJ cK cS) A := cx
  unfold f_X5_cutsHigh at hf
  refine sw_iload_n (pc' := 1) (i := 1) cx dX5_cutsHigh_0 rfl 1 rfl rfl ?_
  refine sw_iconst (pc' := 2) (v := 5) cx dX5_cutsHigh_1 iconst_5 rfl ?_
  refine sw_icmp_le (pc' := 5) (tgt := 10) cx dX5_cutsHigh_2 (by decide) rfl (fun c1 => ?_) (fun c1 => ?_)
  · replace hf := it_p c1 hf
    refine sw_aload_n (pc' := 11) (i := 0) cx dX5_cutsHigh_10 rfl 0 rfl rfl ?_
    refine sw_iload_n (pc' := 12) (i := 1) cx dX5_cutsHigh_11 rfl 1 rfl rfl ?_
    obtain ⟨r2, hr2, hf⟩ := bd_s hf
    refine sw_callSU (pc' := 15) (As := [.int a0]) (rest := []) (w' := [(b, .inr (ci, []))]) cx (k_X0_cutsHigh l D b ci q hqc cI cJ cK cS a0 r2 hr2) pk_yX0_cutsHigh inst_yX0_cutsHigh ml_RX5_13 same_StairFines_Alms_StairFines_Alms_cutsHigh__I_I sup_RX5_RX0 (by decide +kernel) ⟨rfl, rfl⟩ ⟨(Nat.le_of_ble_eq_true rfl), (Nat.le_of_ble_eq_true rfl)⟩ ⟨(Nat.le_of_ble_eq_true rfl), (Nat.le_of_ble_eq_true rfl)⟩ 0 rfl hqc rfl (Nat.le_of_ble_eq_true rfl) rfl dX5_cutsHigh_12 rfl ?_
    obtain rfl := Option.some.inj hf
    exact sw_iret cx hr hQ dX5_cutsHigh_15
  · replace hf := it_n c1 hf
    refine sw_bipush (pc' := 7) (v := 7) cx dX5_cutsHigh_5 bipush_7 rfl ?_
    refine sw_goto (tgt := 15) cx dX5_cutsHigh_7 (by decide) ?_
    obtain rfl := Option.some.inj hf
    exact sw_iret cx hr hQ dX5_cutsHigh_15
def kd_works : Nat → Int32 → Int32 → Option Int32
  | 0, a0, a1 => f_X3_works a0 a1
  | 1, a0, a1 => f_X6_works a0 a1
  | 2, a0, a1 => f_X3_works a0 a1
  | 3, a0, a1 => f_X2_works a0 a1
  | 4, a0, a1 => f_X1_works a0 a1
  | _, a0, a1 => f_X5_works a0 a1
set_option maxRecDepth 100000 in
set_option maxHeartbeats 4000000 in
theorem sw_kworks {p : Program} {l : Launch} {e : Env} {R : Room} {s : State} {m : MethodId} {args : Array Value} {below : List Frame} {meth : Method} {c : Code} {cells slots : Nat} {Q : State → Prop} {cc : ByteArray} {nL : Nat} {D : sf_D} {cI cJ cK cS : ClassId} {A : Nat → Prop} {ws : va_W} {lv : List (Nat × Value)} {pc pc' : Nat} {rest : List Value} {ka : Nat → Nat} (cx : sf_Cx p m meth c cc nL s args RX4 D (sf_ty cI cJ cK cS) A) (base : Nat) (hk : ∀ j, j < 6 → ws[base + j]? = some (ka j, .inr (kd_ci j, []))) (j : Nat) (hj : j < 6) {a0 a1 : Int32} {r : Int32} (hf : kd_works j a0 a1 = some r) (hF : 3 ≤ R.frames) (hL : 66 ≤ R.locals) (hcs : cells ≤ R.cells ∧ slots ≤ R.slots) (hW : (rest.map fun v => v.category).sum ≤ 8) (hdg : decode cc pc = .ok (.invokevirtual 91, 3)) (hn : pc + 3 = pc') (k : sf_W p l e R s m args below meth c cells slots Q nL D A ws lv pc' (.int r :: rest)) : sf_W p l e R s m args below meth c cells slots Q nL D A ws lv pc ([.int a1, .int a0, .ref (ka j)] ++ rest) := by
  match j, hj with
  | 0, _ => exact sw_callV (As := [.int a0, .int a1]) (rest := rest) cx (k_X3_works l D (ka 0) 3 _ rfl cI cJ cK cS a0 a1 r hf) pk_yX3_works ml_RX4_91 ⟨rfl, rfl⟩ ⟨Nat.le_trans (Nat.le_of_ble_eq_true rfl) hF, Nat.le_trans (Nat.le_of_ble_eq_true rfl) hL⟩ hcs [base + 0] (congrArg (fun x => [x]) (hk 0 (Nat.le_of_ble_eq_true rfl))) rfl rfl (sf_rp1 (hk 0 (Nat.le_of_ble_eq_true rfl))) 0 rfl rfl rfl rfl hW rfl hdg hn k
  | 1, _ => exact sw_callU (As := [.int a0, .int a1]) (rest := rest) cx (k_X6_works l D (ka 1) 6 _ rfl cI cJ cK cS a0 a1 r hf) (sf_cuO (C := RX6) (owner := RX3) (x := yX3_works) cx pk_yX6_works ml_RX4_91 same_StairFines_Kind_StairFines_Kind_works__II_I sel_RX6_yX3_works_yX6_works inst_yX6_works inst_yX3_works code_yX3_works (by decide +kernel) ⟨rfl, rfl⟩ ⟨Nat.le_trans (Nat.le_of_ble_eq_true rfl) hF, Nat.le_trans (Nat.le_of_ble_eq_true rfl) hL⟩) hcs [base + 1] (congrArg (fun x => [x]) (hk 1 (Nat.le_of_ble_eq_true rfl))) rfl rfl (sf_rp1 (hk 1 (Nat.le_of_ble_eq_true rfl))) 0 rfl rfl rfl rfl hW rfl hdg hn k
  | 2, _ => exact sw_callU (As := [.int a0, .int a1]) (rest := rest) cx (k_X3_works l D (ka 2) 0 _ rfl cI cJ cK cS a0 a1 r hf) (sf_cuU (C := RX0) (owner := RX3) (x := yX3_works) cx pk_yX3_works.1 ml_RX4_91 same_StairFines_Kind_StairFines_Kind_works__II_I sel_RX0_yX3_works inst_yX3_works rfl (by decide +kernel) ⟨rfl, rfl⟩ ⟨Nat.le_trans (Nat.le_of_ble_eq_true rfl) hF, Nat.le_trans (Nat.le_of_ble_eq_true rfl) hL⟩) hcs [base + 2] (congrArg (fun x => [x]) (hk 2 (Nat.le_of_ble_eq_true rfl))) rfl rfl (sf_rp1 (hk 2 (Nat.le_of_ble_eq_true rfl))) 0 rfl rfl rfl rfl hW rfl hdg hn k
  | 3, _ => exact sw_callU (As := [.int a0, .int a1]) (rest := rest) cx (k_X2_works l D (ka 3) 2 _ rfl cI cJ cK cS a0 a1 r hf) (sf_cuO (C := RX2) (owner := RX3) (x := yX3_works) cx pk_yX2_works ml_RX4_91 same_StairFines_Kind_StairFines_Kind_works__II_I sel_RX2_yX3_works_yX2_works inst_yX2_works inst_yX3_works code_yX3_works (by decide +kernel) ⟨rfl, rfl⟩ ⟨Nat.le_trans (Nat.le_of_ble_eq_true rfl) hF, Nat.le_trans (Nat.le_of_ble_eq_true rfl) hL⟩) hcs [base + 3] (congrArg (fun x => [x]) (hk 3 (Nat.le_of_ble_eq_true rfl))) rfl rfl (sf_rp1 (hk 3 (Nat.le_of_ble_eq_true rfl))) 0 rfl rfl rfl rfl hW rfl hdg hn k
  | 4, _ => exact sw_callU (As := [.int a0, .int a1]) (rest := rest) cx (k_X1_works l D (ka 4) 1 _ rfl cI cJ cK cS a0 a1 r hf) (sf_cuO (C := RX1) (owner := RX3) (x := yX3_works) cx pk_yX1_works ml_RX4_91 same_StairFines_Kind_StairFines_Kind_works__II_I sel_RX1_yX3_works_yX1_works inst_yX1_works inst_yX3_works code_yX3_works (by decide +kernel) ⟨rfl, rfl⟩ ⟨Nat.le_trans (Nat.le_of_ble_eq_true rfl) hF, Nat.le_trans (Nat.le_of_ble_eq_true rfl) hL⟩) hcs [base + 4] (congrArg (fun x => [x]) (hk 4 (Nat.le_of_ble_eq_true rfl))) rfl rfl (sf_rp1 (hk 4 (Nat.le_of_ble_eq_true rfl))) 0 rfl rfl rfl rfl hW rfl hdg hn k
  | 5, _ => exact sw_callU (As := [.int a0, .int a1]) (rest := rest) cx (k_X5_works l D (ka 5) 5 _ rfl cI cJ cK cS a0 a1 r hf) (sf_cuO (C := RX5) (owner := RX3) (x := yX3_works) cx pk_yX5_works ml_RX4_91 same_StairFines_Kind_StairFines_Kind_works__II_I sel_RX5_yX3_works_yX5_works inst_yX5_works inst_yX3_works code_yX3_works (by decide +kernel) ⟨rfl, rfl⟩ ⟨Nat.le_trans (Nat.le_of_ble_eq_true rfl) hF, Nat.le_trans (Nat.le_of_ble_eq_true rfl) hL⟩) hcs [base + 5] (congrArg (fun x => [x]) (hk 5 (Nat.le_of_ble_eq_true rfl))) rfl rfl (sf_rp1 (hk 5 (Nat.le_of_ble_eq_true rfl))) 0 rfl rfl rfl rfl hW rfl hdg hn k
def kd_cutsHigh : Nat → Int32 → Option Int32
  | 0, a0 => f_X3_cutsHigh a0
  | 1, a0 => f_X3_cutsHigh a0
  | 2, a0 => f_X0_cutsHigh a0
  | 3, a0 => f_X2_cutsHigh a0
  | 4, a0 => f_X1_cutsHigh a0
  | _, a0 => f_X5_cutsHigh a0
set_option maxRecDepth 100000 in
set_option maxHeartbeats 4000000 in
theorem sw_kcutsHigh {p : Program} {l : Launch} {e : Env} {R : Room} {s : State} {m : MethodId} {args : Array Value} {below : List Frame} {meth : Method} {c : Code} {cells slots : Nat} {Q : State → Prop} {cc : ByteArray} {nL : Nat} {D : sf_D} {cI cJ cK cS : ClassId} {A : Nat → Prop} {ws : va_W} {lv : List (Nat × Value)} {pc pc' : Nat} {rest : List Value} {ka : Nat → Nat} (cx : sf_Cx p m meth c cc nL s args RX4 D (sf_ty cI cJ cK cS) A) (base : Nat) (hk : ∀ j, j < 6 → ws[base + j]? = some (ka j, .inr (kd_ci j, []))) (j : Nat) (hj : j < 6) {a0 : Int32} {r : Int32} (hf : kd_cutsHigh j a0 = some r) (hF : 3 ≤ R.frames) (hL : 63 ≤ R.locals) (hcs : cells ≤ R.cells ∧ slots ≤ R.slots) (hW : (rest.map fun v => v.category).sum ≤ 8) (hdg : decode cc pc = .ok (.invokevirtual 100, 3)) (hn : pc + 3 = pc') (k : sf_W p l e R s m args below meth c cells slots Q nL D A ws lv pc' (.int r :: rest)) : sf_W p l e R s m args below meth c cells slots Q nL D A ws lv pc ([.int a0, .ref (ka j)] ++ rest) := by
  match j, hj with
  | 0, _ => exact sw_callV (As := [.int a0]) (rest := rest) cx (k_X3_cutsHigh l D (ka 0) 3 _ rfl cI cJ cK cS a0 r hf) pk_yX3_cutsHigh ml_RX4_100 ⟨rfl, rfl⟩ ⟨Nat.le_trans (Nat.le_of_ble_eq_true rfl) hF, Nat.le_trans (Nat.le_of_ble_eq_true rfl) hL⟩ hcs [base + 0] (congrArg (fun x => [x]) (hk 0 (Nat.le_of_ble_eq_true rfl))) rfl rfl (sf_rp1 (hk 0 (Nat.le_of_ble_eq_true rfl))) 0 rfl rfl rfl rfl hW rfl hdg hn k
  | 1, _ => exact sw_callU (As := [.int a0]) (rest := rest) cx (k_X3_cutsHigh l D (ka 1) 6 _ rfl cI cJ cK cS a0 r hf) (sf_cuU (C := RX6) (owner := RX3) (x := yX3_cutsHigh) cx pk_yX3_cutsHigh.1 ml_RX4_100 same_StairFines_Kind_StairFines_Kind_cutsHigh__I_I sel_RX6_yX3_cutsHigh inst_yX3_cutsHigh rfl (by decide +kernel) ⟨rfl, rfl⟩ ⟨Nat.le_trans (Nat.le_of_ble_eq_true rfl) hF, Nat.le_trans (Nat.le_of_ble_eq_true rfl) hL⟩) hcs [base + 1] (congrArg (fun x => [x]) (hk 1 (Nat.le_of_ble_eq_true rfl))) rfl rfl (sf_rp1 (hk 1 (Nat.le_of_ble_eq_true rfl))) 0 rfl rfl rfl rfl hW rfl hdg hn k
  | 2, _ => exact sw_callU (As := [.int a0]) (rest := rest) cx (k_X0_cutsHigh l D (ka 2) 0 _ rfl cI cJ cK cS a0 r hf) (sf_cuO (C := RX0) (owner := RX3) (x := yX3_cutsHigh) cx pk_yX0_cutsHigh ml_RX4_100 same_StairFines_Kind_StairFines_Kind_cutsHigh__I_I sel_RX0_yX3_cutsHigh_yX0_cutsHigh inst_yX0_cutsHigh inst_yX3_cutsHigh code_yX3_cutsHigh (by decide +kernel) ⟨rfl, rfl⟩ ⟨Nat.le_trans (Nat.le_of_ble_eq_true rfl) hF, Nat.le_trans (Nat.le_of_ble_eq_true rfl) hL⟩) hcs [base + 2] (congrArg (fun x => [x]) (hk 2 (Nat.le_of_ble_eq_true rfl))) rfl rfl (sf_rp1 (hk 2 (Nat.le_of_ble_eq_true rfl))) 0 rfl rfl rfl rfl hW rfl hdg hn k
  | 3, _ => exact sw_callU (As := [.int a0]) (rest := rest) cx (k_X2_cutsHigh l D (ka 3) 2 _ rfl cI cJ cK cS a0 r hf) (sf_cuO (C := RX2) (owner := RX3) (x := yX3_cutsHigh) cx pk_yX2_cutsHigh ml_RX4_100 same_StairFines_Kind_StairFines_Kind_cutsHigh__I_I sel_RX2_yX3_cutsHigh_yX2_cutsHigh inst_yX2_cutsHigh inst_yX3_cutsHigh code_yX3_cutsHigh (by decide +kernel) ⟨rfl, rfl⟩ ⟨Nat.le_trans (Nat.le_of_ble_eq_true rfl) hF, Nat.le_trans (Nat.le_of_ble_eq_true rfl) hL⟩) hcs [base + 3] (congrArg (fun x => [x]) (hk 3 (Nat.le_of_ble_eq_true rfl))) rfl rfl (sf_rp1 (hk 3 (Nat.le_of_ble_eq_true rfl))) 0 rfl rfl rfl rfl hW rfl hdg hn k
  | 4, _ => exact sw_callU (As := [.int a0]) (rest := rest) cx (k_X1_cutsHigh l D (ka 4) 1 _ rfl cI cJ cK cS a0 r hf) (sf_cuO (C := RX1) (owner := RX3) (x := yX3_cutsHigh) cx pk_yX1_cutsHigh ml_RX4_100 same_StairFines_Kind_StairFines_Kind_cutsHigh__I_I sel_RX1_yX3_cutsHigh_yX1_cutsHigh inst_yX1_cutsHigh inst_yX3_cutsHigh code_yX3_cutsHigh (by decide +kernel) ⟨rfl, rfl⟩ ⟨Nat.le_trans (Nat.le_of_ble_eq_true rfl) hF, Nat.le_trans (Nat.le_of_ble_eq_true rfl) hL⟩) hcs [base + 4] (congrArg (fun x => [x]) (hk 4 (Nat.le_of_ble_eq_true rfl))) rfl rfl (sf_rp1 (hk 4 (Nat.le_of_ble_eq_true rfl))) 0 rfl rfl rfl rfl hW rfl hdg hn k
  | 5, _ => exact sw_callU (As := [.int a0]) (rest := rest) cx (k_X5_cutsHigh l D (ka 5) 5 _ rfl cI cJ cK cS a0 r hf) (sf_cuO (C := RX5) (owner := RX3) (x := yX3_cutsHigh) cx pk_yX5_cutsHigh ml_RX4_100 same_StairFines_Kind_StairFines_Kind_cutsHigh__I_I sel_RX5_yX3_cutsHigh_yX5_cutsHigh inst_yX5_cutsHigh inst_yX3_cutsHigh code_yX3_cutsHigh (by decide +kernel) ⟨rfl, rfl⟩ ⟨Nat.le_trans (Nat.le_of_ble_eq_true rfl) hF, Nat.le_trans (Nat.le_of_ble_eq_true rfl) hL⟩) hcs [base + 5] (congrArg (fun x => [x]) (hk 5 (Nat.le_of_ble_eq_true rfl))) rfl rfl (sf_rp1 (hk 5 (Nat.le_of_ble_eq_true rfl))) 0 rfl rfl rfl rfl hW rfl hdg hn k
def kd_counts : Nat → Option Int32
  | 0 => f_X3_counts 
  | 1 => f_X3_counts 
  | 2 => f_X3_counts 
  | 3 => f_X3_counts 
  | 4 => f_X1_counts 
  | _ => f_X3_counts 
set_option maxRecDepth 100000 in
set_option maxHeartbeats 4000000 in
theorem sw_kcounts {p : Program} {l : Launch} {e : Env} {R : Room} {s : State} {m : MethodId} {args : Array Value} {below : List Frame} {meth : Method} {c : Code} {cells slots : Nat} {Q : State → Prop} {cc : ByteArray} {nL : Nat} {D : sf_D} {cI cJ cK cS : ClassId} {A : Nat → Prop} {ws : va_W} {lv : List (Nat × Value)} {pc pc' : Nat} {rest : List Value} {ka : Nat → Nat} (cx : sf_Cx p m meth c cc nL s args RX4 D (sf_ty cI cJ cK cS) A) (base : Nat) (hk : ∀ j, j < 6 → ws[base + j]? = some (ka j, .inr (kd_ci j, []))) (j : Nat) (hj : j < 6)  {r : Int32} (hf : kd_counts j  = some r) (hF : 1 ≤ R.frames) (hL : 20 ≤ R.locals) (hcs : cells ≤ R.cells ∧ slots ≤ R.slots) (hW : (rest.map fun v => v.category).sum ≤ 8) (hdg : decode cc pc = .ok (.invokevirtual 156, 3)) (hn : pc + 3 = pc') (k : sf_W p l e R s m args below meth c cells slots Q nL D A ws lv pc' (.int r :: rest)) : sf_W p l e R s m args below meth c cells slots Q nL D A ws lv pc ([.ref (ka j)] ++ rest) := by
  match j, hj with
  | 0, _ => exact sw_callV (As := []) (rest := rest) cx (k_X3_counts l D (ka 0) 3 _ rfl cI cJ cK cS  r hf) pk_yX3_counts ml_RX4_156 ⟨rfl, rfl⟩ ⟨Nat.le_trans (Nat.le_of_ble_eq_true rfl) hF, Nat.le_trans (Nat.le_of_ble_eq_true rfl) hL⟩ hcs [base + 0] (congrArg (fun x => [x]) (hk 0 (Nat.le_of_ble_eq_true rfl))) rfl rfl (sf_rp1 (hk 0 (Nat.le_of_ble_eq_true rfl))) 0 rfl rfl rfl rfl hW rfl hdg hn k
  | 1, _ => exact sw_callU (As := []) (rest := rest) cx (k_X3_counts l D (ka 1) 6 _ rfl cI cJ cK cS  r hf) (sf_cuU (C := RX6) (owner := RX3) (x := yX3_counts) cx pk_yX3_counts.1 ml_RX4_156 same_StairFines_Kind_StairFines_Kind_counts___I sel_RX6_yX3_counts inst_yX3_counts rfl (by decide +kernel) ⟨rfl, rfl⟩ ⟨Nat.le_trans (Nat.le_of_ble_eq_true rfl) hF, Nat.le_trans (Nat.le_of_ble_eq_true rfl) hL⟩) hcs [base + 1] (congrArg (fun x => [x]) (hk 1 (Nat.le_of_ble_eq_true rfl))) rfl rfl (sf_rp1 (hk 1 (Nat.le_of_ble_eq_true rfl))) 0 rfl rfl rfl rfl hW rfl hdg hn k
  | 2, _ => exact sw_callU (As := []) (rest := rest) cx (k_X3_counts l D (ka 2) 0 _ rfl cI cJ cK cS  r hf) (sf_cuU (C := RX0) (owner := RX3) (x := yX3_counts) cx pk_yX3_counts.1 ml_RX4_156 same_StairFines_Kind_StairFines_Kind_counts___I sel_RX0_yX3_counts inst_yX3_counts rfl (by decide +kernel) ⟨rfl, rfl⟩ ⟨Nat.le_trans (Nat.le_of_ble_eq_true rfl) hF, Nat.le_trans (Nat.le_of_ble_eq_true rfl) hL⟩) hcs [base + 2] (congrArg (fun x => [x]) (hk 2 (Nat.le_of_ble_eq_true rfl))) rfl rfl (sf_rp1 (hk 2 (Nat.le_of_ble_eq_true rfl))) 0 rfl rfl rfl rfl hW rfl hdg hn k
  | 3, _ => exact sw_callU (As := []) (rest := rest) cx (k_X3_counts l D (ka 3) 2 _ rfl cI cJ cK cS  r hf) (sf_cuU (C := RX2) (owner := RX3) (x := yX3_counts) cx pk_yX3_counts.1 ml_RX4_156 same_StairFines_Kind_StairFines_Kind_counts___I sel_RX2_yX3_counts inst_yX3_counts rfl (by decide +kernel) ⟨rfl, rfl⟩ ⟨Nat.le_trans (Nat.le_of_ble_eq_true rfl) hF, Nat.le_trans (Nat.le_of_ble_eq_true rfl) hL⟩) hcs [base + 3] (congrArg (fun x => [x]) (hk 3 (Nat.le_of_ble_eq_true rfl))) rfl rfl (sf_rp1 (hk 3 (Nat.le_of_ble_eq_true rfl))) 0 rfl rfl rfl rfl hW rfl hdg hn k
  | 4, _ => exact sw_callU (As := []) (rest := rest) cx (k_X1_counts l D (ka 4) 1 _ rfl cI cJ cK cS  r hf) (sf_cuO (C := RX1) (owner := RX3) (x := yX3_counts) cx pk_yX1_counts ml_RX4_156 same_StairFines_Kind_StairFines_Kind_counts___I sel_RX1_yX3_counts_yX1_counts inst_yX1_counts inst_yX3_counts code_yX3_counts (by decide +kernel) ⟨rfl, rfl⟩ ⟨Nat.le_trans (Nat.le_of_ble_eq_true rfl) hF, Nat.le_trans (Nat.le_of_ble_eq_true rfl) hL⟩) hcs [base + 4] (congrArg (fun x => [x]) (hk 4 (Nat.le_of_ble_eq_true rfl))) rfl rfl (sf_rp1 (hk 4 (Nat.le_of_ble_eq_true rfl))) 0 rfl rfl rfl rfl hW rfl hdg hn k
  | 5, _ => exact sw_callU (As := []) (rest := rest) cx (k_X3_counts l D (ka 5) 5 _ rfl cI cJ cK cS  r hf) (sf_cuU (C := RX5) (owner := RX3) (x := yX3_counts) cx pk_yX3_counts.1 ml_RX4_156 same_StairFines_Kind_StairFines_Kind_counts___I sel_RX5_yX3_counts inst_yX3_counts rfl (by decide +kernel) ⟨rfl, rfl⟩ ⟨Nat.le_trans (Nat.le_of_ble_eq_true rfl) hF, Nat.le_trans (Nat.le_of_ble_eq_true rfl) hL⟩) hcs [base + 5] (congrArg (fun x => [x]) (hk 5 (Nat.le_of_ble_eq_true rfl))) rfl rfl (sf_rp1 (hk 5 (Nat.le_of_ble_eq_true rfl))) 0 rfl rfl rfl rfl hW rfl hdg hn k
def kd_name : Nat → Option Nat
  | 0 => f_X3_name 
  | 1 => f_X6_name 
  | 2 => f_X0_name 
  | 3 => f_X2_name 
  | 4 => f_X1_name 
  | _ => f_X5_name 
set_option maxRecDepth 100000 in
set_option maxHeartbeats 4000000 in
theorem sw_kname {p : Program} {l : Launch} {e : Env} {R : Room} {s : State} {m : MethodId} {args : Array Value} {below : List Frame} {meth : Method} {c : Code} {cells slots : Nat} {Q : State → Prop} {cc : ByteArray} {nL : Nat} {D : sf_D} {cI cJ cK cS : ClassId} {A : Nat → Prop} {ws : va_W} {lv : List (Nat × Value)} {pc pc' : Nat} {rest : List Value} {ka : Nat → Nat} (cx : sf_Cx p m meth c cc nL s args RX8 D (sf_ty cI cJ cK cS) A) (base : Nat) (hk : ∀ j, j < 6 → ws[base + j]? = some (ka j, .inr (kd_ci j, []))) (j : Nat) (hj : j < 6)  {r : Nat} (hf : kd_name j  = some r) (hF : 1 ≤ R.frames) (hL : 20 ≤ R.locals) (hcs : cells ≤ R.cells ∧ slots ≤ R.slots) (hW : (rest.map fun v => v.category).sum ≤ 8) (hdg : decode cc pc = .ok (.invokevirtual 39, 3)) (hn : pc + 3 = pc') (k : sf_W p l e R s m args below meth c cells slots Q nL D A ws lv pc' (.ref (D.2.1 r) :: rest)) : sf_W p l e R s m args below meth c cells slots Q nL D A ws lv pc ([.ref (ka j)] ++ rest) := by
  match j, hj with
  | 0, _ => exact sw_callV (As := []) (rest := rest) cx (k_X3_name l D (ka 0) 3 _ rfl cI cJ cK cS  r hf) pk_yX3_name ml_RX8_39 ⟨rfl, rfl⟩ ⟨Nat.le_trans (Nat.le_of_ble_eq_true rfl) hF, Nat.le_trans (Nat.le_of_ble_eq_true rfl) hL⟩ hcs [base + 0] (congrArg (fun x => [x]) (hk 0 (Nat.le_of_ble_eq_true rfl))) rfl rfl (sf_rp1 (hk 0 (Nat.le_of_ble_eq_true rfl))) 0 rfl rfl rfl rfl hW rfl hdg hn k
  | 1, _ => exact sw_callU (As := []) (rest := rest) cx (k_X6_name l D (ka 1) 6 _ rfl cI cJ cK cS  r hf) (sf_cuO (C := RX6) (owner := RX3) (x := yX3_name) cx pk_yX6_name ml_RX8_39 same_StairFines_Kind_StairFines_Kind_name___Ljava_lang_String_ sel_RX6_yX3_name_yX6_name inst_yX6_name inst_yX3_name code_yX3_name (by decide +kernel) ⟨rfl, rfl⟩ ⟨Nat.le_trans (Nat.le_of_ble_eq_true rfl) hF, Nat.le_trans (Nat.le_of_ble_eq_true rfl) hL⟩) hcs [base + 1] (congrArg (fun x => [x]) (hk 1 (Nat.le_of_ble_eq_true rfl))) rfl rfl (sf_rp1 (hk 1 (Nat.le_of_ble_eq_true rfl))) 0 rfl rfl rfl rfl hW rfl hdg hn k
  | 2, _ => exact sw_callU (As := []) (rest := rest) cx (k_X0_name l D (ka 2) 0 _ rfl cI cJ cK cS  r hf) (sf_cuO (C := RX0) (owner := RX3) (x := yX3_name) cx pk_yX0_name ml_RX8_39 same_StairFines_Kind_StairFines_Kind_name___Ljava_lang_String_ sel_RX0_yX3_name_yX0_name inst_yX0_name inst_yX3_name code_yX3_name (by decide +kernel) ⟨rfl, rfl⟩ ⟨Nat.le_trans (Nat.le_of_ble_eq_true rfl) hF, Nat.le_trans (Nat.le_of_ble_eq_true rfl) hL⟩) hcs [base + 2] (congrArg (fun x => [x]) (hk 2 (Nat.le_of_ble_eq_true rfl))) rfl rfl (sf_rp1 (hk 2 (Nat.le_of_ble_eq_true rfl))) 0 rfl rfl rfl rfl hW rfl hdg hn k
  | 3, _ => exact sw_callU (As := []) (rest := rest) cx (k_X2_name l D (ka 3) 2 _ rfl cI cJ cK cS  r hf) (sf_cuO (C := RX2) (owner := RX3) (x := yX3_name) cx pk_yX2_name ml_RX8_39 same_StairFines_Kind_StairFines_Kind_name___Ljava_lang_String_ sel_RX2_yX3_name_yX2_name inst_yX2_name inst_yX3_name code_yX3_name (by decide +kernel) ⟨rfl, rfl⟩ ⟨Nat.le_trans (Nat.le_of_ble_eq_true rfl) hF, Nat.le_trans (Nat.le_of_ble_eq_true rfl) hL⟩) hcs [base + 3] (congrArg (fun x => [x]) (hk 3 (Nat.le_of_ble_eq_true rfl))) rfl rfl (sf_rp1 (hk 3 (Nat.le_of_ble_eq_true rfl))) 0 rfl rfl rfl rfl hW rfl hdg hn k
  | 4, _ => exact sw_callU (As := []) (rest := rest) cx (k_X1_name l D (ka 4) 1 _ rfl cI cJ cK cS  r hf) (sf_cuO (C := RX1) (owner := RX3) (x := yX3_name) cx pk_yX1_name ml_RX8_39 same_StairFines_Kind_StairFines_Kind_name___Ljava_lang_String_ sel_RX1_yX3_name_yX1_name inst_yX1_name inst_yX3_name code_yX3_name (by decide +kernel) ⟨rfl, rfl⟩ ⟨Nat.le_trans (Nat.le_of_ble_eq_true rfl) hF, Nat.le_trans (Nat.le_of_ble_eq_true rfl) hL⟩) hcs [base + 4] (congrArg (fun x => [x]) (hk 4 (Nat.le_of_ble_eq_true rfl))) rfl rfl (sf_rp1 (hk 4 (Nat.le_of_ble_eq_true rfl))) 0 rfl rfl rfl rfl hW rfl hdg hn k
  | 5, _ => exact sw_callU (As := []) (rest := rest) cx (k_X5_name l D (ka 5) 5 _ rfl cI cJ cK cS  r hf) (sf_cuO (C := RX5) (owner := RX3) (x := yX3_name) cx pk_yX5_name ml_RX8_39 same_StairFines_Kind_StairFines_Kind_name___Ljava_lang_String_ sel_RX5_yX3_name_yX5_name inst_yX5_name inst_yX3_name code_yX3_name (by decide +kernel) ⟨rfl, rfl⟩ ⟨Nat.le_trans (Nat.le_of_ble_eq_true rfl) hF, Nat.le_trans (Nat.le_of_ble_eq_true rfl) hL⟩) hcs [base + 5] (congrArg (fun x => [x]) (hk 5 (Nat.le_of_ble_eq_true rfl))) rfl rfl (sf_rp1 (hk 5 (Nat.le_of_ble_eq_true rfl))) 0 rfl rfl rfl rfl hW rfl hdg hn k
