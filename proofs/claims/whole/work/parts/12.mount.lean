abbrev rm_X4_become : Room := ({ frames := 1, cells := 0, slots := 0, locals := 29 } : Room)
set_option maxRecDepth 100000 in
set_option maxHeartbeats 4000000 in
theorem k_X4_become (l : Launch) (D : sf_D) (hm hn : Nat → Nat) (kA kB : Nat) (cI cJ cK cS : ClassId) (u : MtS) (v : MtS)  (res : MtS) (hf : f_X4_become u v = some res) : sf_Ct l yX4_become cX4_become 2 none rm_X4_become D (sf_ty cI cJ cK cS) [.ref (hm 0), .ref (hn 0)] (mm_W hm hn kA kB cI u v) none (mm_W hm hn kA kB cI res v) := by
  refine sf_met (lv := [(0, .ref (hm 0)), (1, .ref (hn 0))]) (by decide) (Nat.le_of_ble_eq_true rfl) rfl ?_
  intro p e s m args below meth c A Q cx hr hQ
  have cx : sf_Cx p m meth c cX4_become 2 s args RX4 D (sf_ty cI cJ cK cS) A := cx
  unfold f_X4_become at hf
  refine sw_aload_n (pc' := 1) (i := 1) cx dX4_become_0 rfl 1 rfl rfl ?_
  refine sw_get (pc' := 4) cx in_X4 10 rfl rfl 1 (Nat.le_of_ble_eq_true rfl) fl_RX4_9 rfl dX4_become_1 rfl ?_
  refine sw_iconst (pc' := 5) (v := 0) cx dX4_become_4 iconst_0 rfl ?_
  refine sw_aload_n (pc' := 6) (i := 0) cx dX4_become_5 rfl 0 rfl rfl ?_
  refine sw_get (pc' := 9) cx in_X4 0 rfl rfl 1 (Nat.le_of_ble_eq_true rfl) fl_RX4_9 rfl dX4_become_6 rfl ?_
  refine sw_iconst (pc' := 10) (v := 0) cx dX4_become_9 iconst_0 rfl ?_
  refine sw_bipush (pc' := 12) (v := 40) cx dX4_become_10 bipush_40 rfl ?_
  refine sw_copyi (pc' := 15) (ws' := (mm_W hm hn kA kB cI (mt_mk (u.1 0 0) (u.1 0 1) (u.1 0 2) (u.1 0 3) (u.1 0 4) (va_cpy (v.1 1) (u.1 1) ((0 : Int32)).toNatClampNeg ((0 : Int32)).toNatClampNeg ((40 : Int32)).toNatClampNeg) (u.1 2) (u.1 3) (u.1 4) (u.1 5) (u.1 6) (u.1 7) (u.1 8) (u.1 9) u.2) v)) cx ml_RX4_56 nat_arraycopyName stat_arraycopyName ini_RJ10 11 1 0 rfl rfl rfl rfl (by decide +kernel) (by decide +kernel) (by decide +kernel) (by decide +kernel) (by decide +kernel) (Nat.le_of_ble_eq_true rfl) (by decide +kernel) dX4_become_12 rfl rfl ?_
  refine sw_aload_n (pc' := 16) (i := 1) cx dX4_become_15 rfl 1 rfl rfl ?_
  refine sw_get (pc' := 19) cx in_X4 10 rfl rfl 2 (Nat.le_of_ble_eq_true rfl) fl_RX4_15 rfl dX4_become_16 rfl ?_
  refine sw_iconst (pc' := 20) (v := 0) cx dX4_become_19 iconst_0 rfl ?_
  refine sw_aload_n (pc' := 21) (i := 0) cx dX4_become_20 rfl 0 rfl rfl ?_
  refine sw_get (pc' := 24) cx in_X4 0 rfl rfl 2 (Nat.le_of_ble_eq_true rfl) fl_RX4_15 rfl dX4_become_21 rfl ?_
  refine sw_iconst (pc' := 25) (v := 0) cx dX4_become_24 iconst_0 rfl ?_
  refine sw_bipush (pc' := 27) (v := 40) cx dX4_become_25 bipush_40 rfl ?_
  refine sw_copyi (pc' := 30) (ws' := (mm_W hm hn kA kB cI (mt_mk (u.1 0 0) (u.1 0 1) (u.1 0 2) (u.1 0 3) (u.1 0 4) (va_cpy (v.1 1) (u.1 1) ((0 : Int32)).toNatClampNeg ((0 : Int32)).toNatClampNeg ((40 : Int32)).toNatClampNeg) (va_cpy (v.1 2) (u.1 2) ((0 : Int32)).toNatClampNeg ((0 : Int32)).toNatClampNeg ((40 : Int32)).toNatClampNeg) (u.1 3) (u.1 4) (u.1 5) (u.1 6) (u.1 7) (u.1 8) (u.1 9) u.2) v)) cx ml_RX4_56 nat_arraycopyName stat_arraycopyName ini_RJ10 12 2 0 rfl rfl rfl rfl (by decide +kernel) (by decide +kernel) (by decide +kernel) (by decide +kernel) (by decide +kernel) (Nat.le_of_ble_eq_true rfl) (by decide +kernel) dX4_become_27 rfl rfl ?_
  refine sw_aload_n (pc' := 31) (i := 1) cx dX4_become_30 rfl 1 rfl rfl ?_
  refine sw_get (pc' := 34) cx in_X4 10 rfl rfl 3 (Nat.le_of_ble_eq_true rfl) fl_RX4_18 rfl dX4_become_31 rfl ?_
  refine sw_iconst (pc' := 35) (v := 0) cx dX4_become_34 iconst_0 rfl ?_
  refine sw_aload_n (pc' := 36) (i := 0) cx dX4_become_35 rfl 0 rfl rfl ?_
  refine sw_get (pc' := 39) cx in_X4 0 rfl rfl 3 (Nat.le_of_ble_eq_true rfl) fl_RX4_18 rfl dX4_become_36 rfl ?_
  refine sw_iconst (pc' := 40) (v := 0) cx dX4_become_39 iconst_0 rfl ?_
  refine sw_bipush (pc' := 42) (v := 40) cx dX4_become_40 bipush_40 rfl ?_
  refine sw_copyi (pc' := 45) (ws' := (mm_W hm hn kA kB cI (mt_mk (u.1 0 0) (u.1 0 1) (u.1 0 2) (u.1 0 3) (u.1 0 4) (va_cpy (v.1 1) (u.1 1) ((0 : Int32)).toNatClampNeg ((0 : Int32)).toNatClampNeg ((40 : Int32)).toNatClampNeg) (va_cpy (v.1 2) (u.1 2) ((0 : Int32)).toNatClampNeg ((0 : Int32)).toNatClampNeg ((40 : Int32)).toNatClampNeg) (va_cpy (v.1 3) (u.1 3) ((0 : Int32)).toNatClampNeg ((0 : Int32)).toNatClampNeg ((40 : Int32)).toNatClampNeg) (u.1 4) (u.1 5) (u.1 6) (u.1 7) (u.1 8) (u.1 9) u.2) v)) cx ml_RX4_56 nat_arraycopyName stat_arraycopyName ini_RJ10 13 3 0 rfl rfl rfl rfl (by decide +kernel) (by decide +kernel) (by decide +kernel) (by decide +kernel) (by decide +kernel) (Nat.le_of_ble_eq_true rfl) (by decide +kernel) dX4_become_42 rfl rfl ?_
  refine sw_aload_n (pc' := 46) (i := 1) cx dX4_become_45 rfl 1 rfl rfl ?_
  refine sw_get (pc' := 49) cx in_X4 10 rfl rfl 4 (Nat.le_of_ble_eq_true rfl) fl_RX4_21 rfl dX4_become_46 rfl ?_
  refine sw_iconst (pc' := 50) (v := 0) cx dX4_become_49 iconst_0 rfl ?_
  refine sw_aload_n (pc' := 51) (i := 0) cx dX4_become_50 rfl 0 rfl rfl ?_
  refine sw_get (pc' := 54) cx in_X4 0 rfl rfl 4 (Nat.le_of_ble_eq_true rfl) fl_RX4_21 rfl dX4_become_51 rfl ?_
  refine sw_iconst (pc' := 55) (v := 0) cx dX4_become_54 iconst_0 rfl ?_
  refine sw_bipush (pc' := 57) (v := 40) cx dX4_become_55 bipush_40 rfl ?_
  refine sw_copyi (pc' := 60) (ws' := (mm_W hm hn kA kB cI (mt_mk (u.1 0 0) (u.1 0 1) (u.1 0 2) (u.1 0 3) (u.1 0 4) (va_cpy (v.1 1) (u.1 1) ((0 : Int32)).toNatClampNeg ((0 : Int32)).toNatClampNeg ((40 : Int32)).toNatClampNeg) (va_cpy (v.1 2) (u.1 2) ((0 : Int32)).toNatClampNeg ((0 : Int32)).toNatClampNeg ((40 : Int32)).toNatClampNeg) (va_cpy (v.1 3) (u.1 3) ((0 : Int32)).toNatClampNeg ((0 : Int32)).toNatClampNeg ((40 : Int32)).toNatClampNeg) (va_cpy (v.1 4) (u.1 4) ((0 : Int32)).toNatClampNeg ((0 : Int32)).toNatClampNeg ((40 : Int32)).toNatClampNeg) (u.1 5) (u.1 6) (u.1 7) (u.1 8) (u.1 9) u.2) v)) cx ml_RX4_56 nat_arraycopyName stat_arraycopyName ini_RJ10 14 4 0 rfl rfl rfl rfl (by decide +kernel) (by decide +kernel) (by decide +kernel) (by decide +kernel) (by decide +kernel) (Nat.le_of_ble_eq_true rfl) (by decide +kernel) dX4_become_57 rfl rfl ?_
  refine sw_aload_n (pc' := 61) (i := 0) cx dX4_become_60 rfl 0 rfl rfl ?_
  refine sw_aload_n (pc' := 62) (i := 1) cx dX4_become_61 rfl 1 rfl rfl ?_
  refine sw_get (pc' := 65) cx in_X4 10 rfl rfl 5 (Nat.le_of_ble_eq_true rfl) fl_RX4_62 rfl dX4_become_62 rfl ?_
  refine sw_put (pc' := 68) (ws' := (mm_W hm hn kA kB cI (mt_mk (u.1 0 0) (u.1 0 1) (u.1 0 2) (u.1 0 3) (u.1 0 4) (va_cpy (v.1 1) (u.1 1) ((0 : Int32)).toNatClampNeg ((0 : Int32)).toNatClampNeg ((40 : Int32)).toNatClampNeg) (va_cpy (v.1 2) (u.1 2) ((0 : Int32)).toNatClampNeg ((0 : Int32)).toNatClampNeg ((40 : Int32)).toNatClampNeg) (va_cpy (v.1 3) (u.1 3) ((0 : Int32)).toNatClampNeg ((0 : Int32)).toNatClampNeg ((40 : Int32)).toNatClampNeg) (va_cpy (v.1 4) (u.1 4) ((0 : Int32)).toNatClampNeg ((0 : Int32)).toNatClampNeg ((40 : Int32)).toNatClampNeg) (u.1 5) (u.1 6) (u.1 7) (u.1 8) (u.1 9) v.2) v)) cx in_X4 tyX4 tyX4_ok nmX4 0 rfl rfl 5 (Nat.le_of_ble_eq_true rfl) fl_RX4_62 rfl rfl rfl (Nat.le_of_ble_eq_true rfl) dX4_become_65 rfl rfl ?_
  refine sw_aload_n (pc' := 69) (i := 0) cx dX4_become_68 rfl 0 rfl rfl ?_
  refine sw_aload_n (pc' := 70) (i := 1) cx dX4_become_69 rfl 1 rfl rfl ?_
  refine sw_get (pc' := 73) cx in_X4 10 rfl rfl 6 (Nat.le_of_ble_eq_true rfl) fl_RX4_66 rfl dX4_become_70 rfl ?_
  refine sw_put (pc' := 76) (ws' := (mm_W hm hn kA kB cI (mt_mk (v.1 0 0) (u.1 0 1) (u.1 0 2) (u.1 0 3) (u.1 0 4) (va_cpy (v.1 1) (u.1 1) ((0 : Int32)).toNatClampNeg ((0 : Int32)).toNatClampNeg ((40 : Int32)).toNatClampNeg) (va_cpy (v.1 2) (u.1 2) ((0 : Int32)).toNatClampNeg ((0 : Int32)).toNatClampNeg ((40 : Int32)).toNatClampNeg) (va_cpy (v.1 3) (u.1 3) ((0 : Int32)).toNatClampNeg ((0 : Int32)).toNatClampNeg ((40 : Int32)).toNatClampNeg) (va_cpy (v.1 4) (u.1 4) ((0 : Int32)).toNatClampNeg ((0 : Int32)).toNatClampNeg ((40 : Int32)).toNatClampNeg) (u.1 5) (u.1 6) (u.1 7) (u.1 8) (u.1 9) v.2) v)) cx in_X4 tyX4 tyX4_ok nmX4 0 rfl rfl 6 (Nat.le_of_ble_eq_true rfl) fl_RX4_66 rfl rfl rfl (Nat.le_of_ble_eq_true rfl) dX4_become_73 rfl rfl ?_
  refine sw_aload_n (pc' := 77) (i := 0) cx dX4_become_76 rfl 0 rfl rfl ?_
  refine sw_aload_n (pc' := 78) (i := 1) cx dX4_become_77 rfl 1 rfl rfl ?_
  refine sw_get (pc' := 81) cx in_X4 10 rfl rfl 7 (Nat.le_of_ble_eq_true rfl) fl_RX4_69 rfl dX4_become_78 rfl ?_
  refine sw_put (pc' := 84) (ws' := (mm_W hm hn kA kB cI (mt_mk (v.1 0 0) (v.1 0 1) (u.1 0 2) (u.1 0 3) (u.1 0 4) (va_cpy (v.1 1) (u.1 1) ((0 : Int32)).toNatClampNeg ((0 : Int32)).toNatClampNeg ((40 : Int32)).toNatClampNeg) (va_cpy (v.1 2) (u.1 2) ((0 : Int32)).toNatClampNeg ((0 : Int32)).toNatClampNeg ((40 : Int32)).toNatClampNeg) (va_cpy (v.1 3) (u.1 3) ((0 : Int32)).toNatClampNeg ((0 : Int32)).toNatClampNeg ((40 : Int32)).toNatClampNeg) (va_cpy (v.1 4) (u.1 4) ((0 : Int32)).toNatClampNeg ((0 : Int32)).toNatClampNeg ((40 : Int32)).toNatClampNeg) (u.1 5) (u.1 6) (u.1 7) (u.1 8) (u.1 9) v.2) v)) cx in_X4 tyX4 tyX4_ok nmX4 0 rfl rfl 7 (Nat.le_of_ble_eq_true rfl) fl_RX4_69 rfl rfl rfl (Nat.le_of_ble_eq_true rfl) dX4_become_81 rfl rfl ?_
  refine sw_aload_n (pc' := 85) (i := 0) cx dX4_become_84 rfl 0 rfl rfl ?_
  refine sw_aload_n (pc' := 86) (i := 1) cx dX4_become_85 rfl 1 rfl rfl ?_
  refine sw_get (pc' := 89) cx in_X4 10 rfl rfl 8 (Nat.le_of_ble_eq_true rfl) fl_RX4_24 rfl dX4_become_86 rfl ?_
  refine sw_put (pc' := 92) (ws' := (mm_W hm hn kA kB cI (mt_mk (v.1 0 0) (v.1 0 1) (v.1 0 2) (u.1 0 3) (u.1 0 4) (va_cpy (v.1 1) (u.1 1) ((0 : Int32)).toNatClampNeg ((0 : Int32)).toNatClampNeg ((40 : Int32)).toNatClampNeg) (va_cpy (v.1 2) (u.1 2) ((0 : Int32)).toNatClampNeg ((0 : Int32)).toNatClampNeg ((40 : Int32)).toNatClampNeg) (va_cpy (v.1 3) (u.1 3) ((0 : Int32)).toNatClampNeg ((0 : Int32)).toNatClampNeg ((40 : Int32)).toNatClampNeg) (va_cpy (v.1 4) (u.1 4) ((0 : Int32)).toNatClampNeg ((0 : Int32)).toNatClampNeg ((40 : Int32)).toNatClampNeg) (u.1 5) (u.1 6) (u.1 7) (u.1 8) (u.1 9) v.2) v)) cx in_X4 tyX4 tyX4_ok nmX4 0 rfl rfl 8 (Nat.le_of_ble_eq_true rfl) fl_RX4_24 rfl rfl rfl (Nat.le_of_ble_eq_true rfl) dX4_become_89 rfl rfl ?_
  refine sw_aload_n (pc' := 93) (i := 0) cx dX4_become_92 rfl 0 rfl rfl ?_
  refine sw_aload_n (pc' := 94) (i := 1) cx dX4_become_93 rfl 1 rfl rfl ?_
  refine sw_get (pc' := 97) cx in_X4 10 rfl rfl 9 (Nat.le_of_ble_eq_true rfl) fl_RX4_28 rfl dX4_become_94 rfl ?_
  refine sw_put (pc' := 100) (ws' := (mm_W hm hn kA kB cI (mt_mk (v.1 0 0) (v.1 0 1) (v.1 0 2) (v.1 0 3) (u.1 0 4) (va_cpy (v.1 1) (u.1 1) ((0 : Int32)).toNatClampNeg ((0 : Int32)).toNatClampNeg ((40 : Int32)).toNatClampNeg) (va_cpy (v.1 2) (u.1 2) ((0 : Int32)).toNatClampNeg ((0 : Int32)).toNatClampNeg ((40 : Int32)).toNatClampNeg) (va_cpy (v.1 3) (u.1 3) ((0 : Int32)).toNatClampNeg ((0 : Int32)).toNatClampNeg ((40 : Int32)).toNatClampNeg) (va_cpy (v.1 4) (u.1 4) ((0 : Int32)).toNatClampNeg ((0 : Int32)).toNatClampNeg ((40 : Int32)).toNatClampNeg) (u.1 5) (u.1 6) (u.1 7) (u.1 8) (u.1 9) v.2) v)) cx in_X4 tyX4 tyX4_ok nmX4 0 rfl rfl 9 (Nat.le_of_ble_eq_true rfl) fl_RX4_28 rfl rfl rfl (Nat.le_of_ble_eq_true rfl) dX4_become_97 rfl rfl ?_
  refine sw_aload_n (pc' := 101) (i := 0) cx dX4_become_100 rfl 0 rfl rfl ?_
  refine sw_aload_n (pc' := 102) (i := 1) cx dX4_become_101 rfl 1 rfl rfl ?_
  refine sw_get (pc' := 105) cx in_X4 10 rfl rfl 10 (Nat.le_of_ble_eq_true rfl) fl_RX4_72 rfl dX4_become_102 rfl ?_
  refine sw_put (pc' := 108) (ws' := (mm_W hm hn kA kB cI (mt_mk (v.1 0 0) (v.1 0 1) (v.1 0 2) (v.1 0 3) (v.1 0 4) (va_cpy (v.1 1) (u.1 1) ((0 : Int32)).toNatClampNeg ((0 : Int32)).toNatClampNeg ((40 : Int32)).toNatClampNeg) (va_cpy (v.1 2) (u.1 2) ((0 : Int32)).toNatClampNeg ((0 : Int32)).toNatClampNeg ((40 : Int32)).toNatClampNeg) (va_cpy (v.1 3) (u.1 3) ((0 : Int32)).toNatClampNeg ((0 : Int32)).toNatClampNeg ((40 : Int32)).toNatClampNeg) (va_cpy (v.1 4) (u.1 4) ((0 : Int32)).toNatClampNeg ((0 : Int32)).toNatClampNeg ((40 : Int32)).toNatClampNeg) (u.1 5) (u.1 6) (u.1 7) (u.1 8) (u.1 9) v.2) v)) cx in_X4 tyX4 tyX4_ok nmX4 0 rfl rfl 10 (Nat.le_of_ble_eq_true rfl) fl_RX4_72 rfl rfl rfl (Nat.le_of_ble_eq_true rfl) dX4_become_105 rfl rfl ?_
  refine sw_aload_n (pc' := 109) (i := 1) cx dX4_become_108 rfl 1 rfl rfl ?_
  refine sw_get (pc' := 112) cx in_X4 10 rfl rfl 11 (Nat.le_of_ble_eq_true rfl) fl_RX4_31 rfl dX4_become_109 rfl ?_
  refine sw_iconst (pc' := 113) (v := 0) cx dX4_become_112 iconst_0 rfl ?_
  refine sw_aload_n (pc' := 114) (i := 0) cx dX4_become_113 rfl 0 rfl rfl ?_
  refine sw_get (pc' := 117) cx in_X4 0 rfl rfl 11 (Nat.le_of_ble_eq_true rfl) fl_RX4_31 rfl dX4_become_114 rfl ?_
  refine sw_iconst (pc' := 118) (v := 0) cx dX4_become_117 iconst_0 rfl ?_
  refine sw_bipush (pc' := 120) (v := 10) cx dX4_become_118 bipush_10 rfl ?_
  refine sw_copyi (pc' := 123) (ws' := (mm_W hm hn kA kB cI (mt_mk (v.1 0 0) (v.1 0 1) (v.1 0 2) (v.1 0 3) (v.1 0 4) (va_cpy (v.1 1) (u.1 1) ((0 : Int32)).toNatClampNeg ((0 : Int32)).toNatClampNeg ((40 : Int32)).toNatClampNeg) (va_cpy (v.1 2) (u.1 2) ((0 : Int32)).toNatClampNeg ((0 : Int32)).toNatClampNeg ((40 : Int32)).toNatClampNeg) (va_cpy (v.1 3) (u.1 3) ((0 : Int32)).toNatClampNeg ((0 : Int32)).toNatClampNeg ((40 : Int32)).toNatClampNeg) (va_cpy (v.1 4) (u.1 4) ((0 : Int32)).toNatClampNeg ((0 : Int32)).toNatClampNeg ((40 : Int32)).toNatClampNeg) (va_cpy (v.1 5) (u.1 5) ((0 : Int32)).toNatClampNeg ((0 : Int32)).toNatClampNeg ((10 : Int32)).toNatClampNeg) (u.1 6) (u.1 7) (u.1 8) (u.1 9) v.2) v)) cx ml_RX4_56 nat_arraycopyName stat_arraycopyName ini_RJ10 15 5 0 rfl rfl rfl rfl (by decide +kernel) (by decide +kernel) (by decide +kernel) (by decide +kernel) (by decide +kernel) (Nat.le_of_ble_eq_true rfl) (by decide +kernel) dX4_become_120 rfl rfl ?_
  refine sw_aload_n (pc' := 124) (i := 1) cx dX4_become_123 rfl 1 rfl rfl ?_
  refine sw_get (pc' := 127) cx in_X4 10 rfl rfl 12 (Nat.le_of_ble_eq_true rfl) fl_RX4_34 rfl dX4_become_124 rfl ?_
  refine sw_iconst (pc' := 128) (v := 0) cx dX4_become_127 iconst_0 rfl ?_
  refine sw_aload_n (pc' := 129) (i := 0) cx dX4_become_128 rfl 0 rfl rfl ?_
  refine sw_get (pc' := 132) cx in_X4 0 rfl rfl 12 (Nat.le_of_ble_eq_true rfl) fl_RX4_34 rfl dX4_become_129 rfl ?_
  refine sw_iconst (pc' := 133) (v := 0) cx dX4_become_132 iconst_0 rfl ?_
  refine sw_bipush (pc' := 135) (v := 10) cx dX4_become_133 bipush_10 rfl ?_
  refine sw_copyi (pc' := 138) (ws' := (mm_W hm hn kA kB cI (mt_mk (v.1 0 0) (v.1 0 1) (v.1 0 2) (v.1 0 3) (v.1 0 4) (va_cpy (v.1 1) (u.1 1) ((0 : Int32)).toNatClampNeg ((0 : Int32)).toNatClampNeg ((40 : Int32)).toNatClampNeg) (va_cpy (v.1 2) (u.1 2) ((0 : Int32)).toNatClampNeg ((0 : Int32)).toNatClampNeg ((40 : Int32)).toNatClampNeg) (va_cpy (v.1 3) (u.1 3) ((0 : Int32)).toNatClampNeg ((0 : Int32)).toNatClampNeg ((40 : Int32)).toNatClampNeg) (va_cpy (v.1 4) (u.1 4) ((0 : Int32)).toNatClampNeg ((0 : Int32)).toNatClampNeg ((40 : Int32)).toNatClampNeg) (va_cpy (v.1 5) (u.1 5) ((0 : Int32)).toNatClampNeg ((0 : Int32)).toNatClampNeg ((10 : Int32)).toNatClampNeg) (va_cpy (v.1 6) (u.1 6) ((0 : Int32)).toNatClampNeg ((0 : Int32)).toNatClampNeg ((10 : Int32)).toNatClampNeg) (u.1 7) (u.1 8) (u.1 9) v.2) v)) cx ml_RX4_56 nat_arraycopyName stat_arraycopyName ini_RJ10 16 6 0 rfl rfl rfl rfl (by decide +kernel) (by decide +kernel) (by decide +kernel) (by decide +kernel) (by decide +kernel) (Nat.le_of_ble_eq_true rfl) (by decide +kernel) dX4_become_135 rfl rfl ?_
  refine sw_aload_n (pc' := 139) (i := 1) cx dX4_become_138 rfl 1 rfl rfl ?_
  refine sw_get (pc' := 142) cx in_X4 10 rfl rfl 13 (Nat.le_of_ble_eq_true rfl) fl_RX4_37 rfl dX4_become_139 rfl ?_
  refine sw_iconst (pc' := 143) (v := 0) cx dX4_become_142 iconst_0 rfl ?_
  refine sw_aload_n (pc' := 144) (i := 0) cx dX4_become_143 rfl 0 rfl rfl ?_
  refine sw_get (pc' := 147) cx in_X4 0 rfl rfl 13 (Nat.le_of_ble_eq_true rfl) fl_RX4_37 rfl dX4_become_144 rfl ?_
  refine sw_iconst (pc' := 148) (v := 0) cx dX4_become_147 iconst_0 rfl ?_
  refine sw_bipush (pc' := 150) (v := 10) cx dX4_become_148 bipush_10 rfl ?_
  refine sw_copyi (pc' := 153) (ws' := (mm_W hm hn kA kB cI (mt_mk (v.1 0 0) (v.1 0 1) (v.1 0 2) (v.1 0 3) (v.1 0 4) (va_cpy (v.1 1) (u.1 1) ((0 : Int32)).toNatClampNeg ((0 : Int32)).toNatClampNeg ((40 : Int32)).toNatClampNeg) (va_cpy (v.1 2) (u.1 2) ((0 : Int32)).toNatClampNeg ((0 : Int32)).toNatClampNeg ((40 : Int32)).toNatClampNeg) (va_cpy (v.1 3) (u.1 3) ((0 : Int32)).toNatClampNeg ((0 : Int32)).toNatClampNeg ((40 : Int32)).toNatClampNeg) (va_cpy (v.1 4) (u.1 4) ((0 : Int32)).toNatClampNeg ((0 : Int32)).toNatClampNeg ((40 : Int32)).toNatClampNeg) (va_cpy (v.1 5) (u.1 5) ((0 : Int32)).toNatClampNeg ((0 : Int32)).toNatClampNeg ((10 : Int32)).toNatClampNeg) (va_cpy (v.1 6) (u.1 6) ((0 : Int32)).toNatClampNeg ((0 : Int32)).toNatClampNeg ((10 : Int32)).toNatClampNeg) (va_cpy (v.1 7) (u.1 7) ((0 : Int32)).toNatClampNeg ((0 : Int32)).toNatClampNeg ((10 : Int32)).toNatClampNeg) (u.1 8) (u.1 9) v.2) v)) cx ml_RX4_56 nat_arraycopyName stat_arraycopyName ini_RJ10 17 7 0 rfl rfl rfl rfl (by decide +kernel) (by decide +kernel) (by decide +kernel) (by decide +kernel) (by decide +kernel) (Nat.le_of_ble_eq_true rfl) (by decide +kernel) dX4_become_150 rfl rfl ?_
  refine sw_aload_n (pc' := 154) (i := 1) cx dX4_become_153 rfl 1 rfl rfl ?_
  refine sw_get (pc' := 157) cx in_X4 10 rfl rfl 14 (Nat.le_of_ble_eq_true rfl) fl_RX4_40 rfl dX4_become_154 rfl ?_
  refine sw_iconst (pc' := 158) (v := 0) cx dX4_become_157 iconst_0 rfl ?_
  refine sw_aload_n (pc' := 159) (i := 0) cx dX4_become_158 rfl 0 rfl rfl ?_
  refine sw_get (pc' := 162) cx in_X4 0 rfl rfl 14 (Nat.le_of_ble_eq_true rfl) fl_RX4_40 rfl dX4_become_159 rfl ?_
  refine sw_iconst (pc' := 163) (v := 0) cx dX4_become_162 iconst_0 rfl ?_
  refine sw_bipush (pc' := 165) (v := 10) cx dX4_become_163 bipush_10 rfl ?_
  refine sw_copyi (pc' := 168) (ws' := (mm_W hm hn kA kB cI (mt_mk (v.1 0 0) (v.1 0 1) (v.1 0 2) (v.1 0 3) (v.1 0 4) (va_cpy (v.1 1) (u.1 1) ((0 : Int32)).toNatClampNeg ((0 : Int32)).toNatClampNeg ((40 : Int32)).toNatClampNeg) (va_cpy (v.1 2) (u.1 2) ((0 : Int32)).toNatClampNeg ((0 : Int32)).toNatClampNeg ((40 : Int32)).toNatClampNeg) (va_cpy (v.1 3) (u.1 3) ((0 : Int32)).toNatClampNeg ((0 : Int32)).toNatClampNeg ((40 : Int32)).toNatClampNeg) (va_cpy (v.1 4) (u.1 4) ((0 : Int32)).toNatClampNeg ((0 : Int32)).toNatClampNeg ((40 : Int32)).toNatClampNeg) (va_cpy (v.1 5) (u.1 5) ((0 : Int32)).toNatClampNeg ((0 : Int32)).toNatClampNeg ((10 : Int32)).toNatClampNeg) (va_cpy (v.1 6) (u.1 6) ((0 : Int32)).toNatClampNeg ((0 : Int32)).toNatClampNeg ((10 : Int32)).toNatClampNeg) (va_cpy (v.1 7) (u.1 7) ((0 : Int32)).toNatClampNeg ((0 : Int32)).toNatClampNeg ((10 : Int32)).toNatClampNeg) (va_cpy (v.1 8) (u.1 8) ((0 : Int32)).toNatClampNeg ((0 : Int32)).toNatClampNeg ((10 : Int32)).toNatClampNeg) (u.1 9) v.2) v)) cx ml_RX4_56 nat_arraycopyName stat_arraycopyName ini_RJ10 18 8 0 rfl rfl rfl rfl (by decide +kernel) (by decide +kernel) (by decide +kernel) (by decide +kernel) (by decide +kernel) (Nat.le_of_ble_eq_true rfl) (by decide +kernel) dX4_become_165 rfl rfl ?_
  refine sw_aload_n (pc' := 169) (i := 1) cx dX4_become_168 rfl 1 rfl rfl ?_
  refine sw_get (pc' := 172) cx in_X4 10 rfl rfl 15 (Nat.le_of_ble_eq_true rfl) fl_RX4_43 rfl dX4_become_169 rfl ?_
  refine sw_iconst (pc' := 173) (v := 0) cx dX4_become_172 iconst_0 rfl ?_
  refine sw_aload_n (pc' := 174) (i := 0) cx dX4_become_173 rfl 0 rfl rfl ?_
  refine sw_get (pc' := 177) cx in_X4 0 rfl rfl 15 (Nat.le_of_ble_eq_true rfl) fl_RX4_43 rfl dX4_become_174 rfl ?_
  refine sw_iconst (pc' := 178) (v := 0) cx dX4_become_177 iconst_0 rfl ?_
  refine sw_bipush (pc' := 180) (v := 10) cx dX4_become_178 bipush_10 rfl ?_
  refine sw_copyi (pc' := 183) (ws' := (mm_W hm hn kA kB cI (mt_mk (v.1 0 0) (v.1 0 1) (v.1 0 2) (v.1 0 3) (v.1 0 4) (va_cpy (v.1 1) (u.1 1) ((0 : Int32)).toNatClampNeg ((0 : Int32)).toNatClampNeg ((40 : Int32)).toNatClampNeg) (va_cpy (v.1 2) (u.1 2) ((0 : Int32)).toNatClampNeg ((0 : Int32)).toNatClampNeg ((40 : Int32)).toNatClampNeg) (va_cpy (v.1 3) (u.1 3) ((0 : Int32)).toNatClampNeg ((0 : Int32)).toNatClampNeg ((40 : Int32)).toNatClampNeg) (va_cpy (v.1 4) (u.1 4) ((0 : Int32)).toNatClampNeg ((0 : Int32)).toNatClampNeg ((40 : Int32)).toNatClampNeg) (va_cpy (v.1 5) (u.1 5) ((0 : Int32)).toNatClampNeg ((0 : Int32)).toNatClampNeg ((10 : Int32)).toNatClampNeg) (va_cpy (v.1 6) (u.1 6) ((0 : Int32)).toNatClampNeg ((0 : Int32)).toNatClampNeg ((10 : Int32)).toNatClampNeg) (va_cpy (v.1 7) (u.1 7) ((0 : Int32)).toNatClampNeg ((0 : Int32)).toNatClampNeg ((10 : Int32)).toNatClampNeg) (va_cpy (v.1 8) (u.1 8) ((0 : Int32)).toNatClampNeg ((0 : Int32)).toNatClampNeg ((10 : Int32)).toNatClampNeg) (va_cpy (v.1 9) (u.1 9) ((0 : Int32)).toNatClampNeg ((0 : Int32)).toNatClampNeg ((10 : Int32)).toNatClampNeg) v.2) v)) cx ml_RX4_56 nat_arraycopyName stat_arraycopyName ini_RJ10 19 9 0 rfl rfl rfl rfl (by decide +kernel) (by decide +kernel) (by decide +kernel) (by decide +kernel) (by decide +kernel) (Nat.le_of_ble_eq_true rfl) (by decide +kernel) dX4_become_180 rfl rfl ?_
  obtain rfl := Option.some.inj hf
  exact sw_vret cx hr hQ dX4_become_183
abbrev rm_X4_isFull : Room := ({ frames := 0, cells := 0, slots := 0, locals := 0 } : Room)
set_option maxRecDepth 100000 in
set_option maxHeartbeats 4000000 in
theorem k_X4_isFull (l : Launch) (D : sf_D) (hm : Nat → Nat) (kA : Nat) (ka : Nat → Nat) (cI cJ cK cS : ClassId) (u : MtS)  (res : Int32) (hf : f_X4_isFull u = some res) : sf_Ct l yX4_isFull cX4_isFull 1 (some .boolean) rm_X4_isFull D (sf_ty cI cJ cK cS) [.ref (hm 0)] (mt_W hm kA ka cI cK u) (some (.int res)) (mt_W hm kA ka cI cK u) := by
  refine sf_met (lv := [(0, .ref (hm 0))]) (by decide) (Nat.le_of_ble_eq_true rfl) rfl ?_
  intro p e s m args below meth c A Q cx hr hQ
  have cx : sf_Cx p m meth c cX4_isFull 1 s args RX4 D (sf_ty cI cJ cK cS) A := cx
  unfold f_X4_isFull at hf
  refine sw_aload_n (pc' := 1) (i := 0) cx dX4_isFull_0 rfl 0 rfl rfl ?_
  refine sw_get (pc' := 4) cx in_X4 0 rfl rfl 10 (Nat.le_of_ble_eq_true rfl) fl_RX4_72 rfl dX4_isFull_1 rfl ?_
  refine sw_bipush (pc' := 6) (v := 10) cx dX4_isFull_4 bipush_10 rfl ?_
  refine sw_icmp_lt (pc' := 9) (tgt := 13) cx dX4_isFull_6 (by decide) rfl (fun c1 => ?_) (fun c1 => ?_)
  · replace hf := it_p c1 hf
    refine sw_iconst (pc' := 14) (v := 0) cx dX4_isFull_13 iconst_0 rfl ?_
    obtain rfl := Option.some.inj hf
    exact sw_zret cx hr (by decide +kernel) hQ dX4_isFull_14
  · replace hf := it_n c1 hf
    refine sw_iconst (pc' := 10) (v := 1) cx dX4_isFull_9 iconst_1 rfl ?_
    refine sw_goto (tgt := 14) cx dX4_isFull_10 (by decide) ?_
    obtain rfl := Option.some.inj hf
    exact sw_zret cx hr (by decide +kernel) hQ dX4_isFull_14
abbrev rm_X4_hasFine : Room := ({ frames := 0, cells := 0, slots := 0, locals := 0 } : Room)
set_option maxRecDepth 100000 in
set_option maxHeartbeats 4000000 in
theorem k_X4_hasFine (l : Launch) (D : sf_D) (hm : Nat → Nat) (kA : Nat) (ka : Nat → Nat) (cI cJ cK cS : ClassId) (u : MtS) (a0 : Int32) (res : Int32) (hf : f_X4_hasFine u a0 = some res) : sf_Ct l yX4_hasFine cX4_hasFine 2 (some .boolean) rm_X4_hasFine D (sf_ty cI cJ cK cS) [.ref (hm 0), .int a0] (mt_W hm kA ka cI cK u) (some (.int res)) (mt_W hm kA ka cI cK u) := by
  refine sf_met (lv := [(0, .ref (hm 0)), (1, .int a0)]) (by decide) (Nat.le_of_ble_eq_true rfl) rfl ?_
  intro p e s m args below meth c A Q cx hr hQ
  have cx : sf_Cx p m meth c cX4_hasFine 2 s args RX4 D (sf_ty cI cJ cK cS) A := cx
  unfold f_X4_hasFine at hf
  refine sw_iload_n (pc' := 1) (i := 1) cx dX4_hasFine_0 rfl 1 rfl rfl ?_
  refine sw_if_lt (pc' := 4) (tgt := 22) cx dX4_hasFine_1 (by decide) rfl (fun c1 => ?_) (fun c1 => ?_)
  · replace hf := it_p c1 hf
    refine sw_iconst (pc' := 23) (v := 0) cx dX4_hasFine_22 iconst_0 rfl ?_
    obtain rfl := Option.some.inj hf
    exact sw_zret cx hr (by decide +kernel) hQ dX4_hasFine_23
  · replace hf := it_n c1 hf
    refine sw_iload_n (pc' := 5) (i := 1) cx dX4_hasFine_4 rfl 1 rfl rfl ?_
    refine sw_aload_n (pc' := 6) (i := 0) cx dX4_hasFine_5 rfl 0 rfl rfl ?_
    refine sw_get (pc' := 9) cx in_X4 0 rfl rfl 10 (Nat.le_of_ble_eq_true rfl) fl_RX4_72 rfl dX4_hasFine_6 rfl ?_
    refine sw_icmp_ge (pc' := 12) (tgt := 22) cx dX4_hasFine_9 (by decide) rfl (fun c2 => ?_) (fun c2 => ?_)
    · replace hf := it_p c2 hf
      refine sw_iconst (pc' := 23) (v := 0) cx dX4_hasFine_22 iconst_0 rfl ?_
      obtain rfl := Option.some.inj hf
      exact sw_zret cx hr (by decide +kernel) hQ dX4_hasFine_23
    · replace hf := it_n c2 hf
      refine sw_iload_n (pc' := 13) (i := 1) cx dX4_hasFine_12 rfl 1 rfl rfl ?_
      refine sw_bipush (pc' := 15) (v := 10) cx dX4_hasFine_13 bipush_10 rfl ?_
      refine sw_icmp_ge (pc' := 18) (tgt := 22) cx dX4_hasFine_15 (by decide) rfl (fun c3 => ?_) (fun c3 => ?_)
      · replace hf := it_p c3 hf
        refine sw_iconst (pc' := 23) (v := 0) cx dX4_hasFine_22 iconst_0 rfl ?_
        obtain rfl := Option.some.inj hf
        exact sw_zret cx hr (by decide +kernel) hQ dX4_hasFine_23
      · replace hf := it_n c3 hf
        refine sw_iconst (pc' := 19) (v := 1) cx dX4_hasFine_18 iconst_1 rfl ?_
        refine sw_goto (tgt := 23) cx dX4_hasFine_19 (by decide) ?_
        obtain rfl := Option.some.inj hf
        exact sw_zret cx hr (by decide +kernel) hQ dX4_hasFine_23
abbrev rm_X4_addFine : Room := ({ frames := 1, cells := 0, slots := 0, locals := 20 } : Room)
set_option maxRecDepth 100000 in
set_option maxHeartbeats 4000000 in
theorem k_X4_addFine (l : Launch) (D : sf_D) (hm : Nat → Nat) (kA : Nat) (ka : Nat → Nat) (cI cJ cK cS : ClassId) (u : MtS) (a0 : Int32) (a1 : Int32) (a2 : Int32) (a3 : Int32) (res : MtS) (hf : f_X4_addFine u a0 a1 a2 a3 = some res) : sf_Ct l yX4_addFine cX4_addFine 5 none rm_X4_addFine D (sf_ty cI cJ cK cS) [.ref (hm 0), .int a0, .int a1, .int a2, .int a3] (mt_W hm kA ka cI cK u) none (mt_W hm kA ka cI cK res) := by
  refine sf_met (lv := [(0, .ref (hm 0)), (1, .int a0), (2, .int a1), (3, .int a2), (4, .int a3)]) (by decide) (Nat.le_of_ble_eq_true rfl) rfl ?_
  intro p e s m args below meth c A Q cx hr hQ
  have cx : sf_Cx p m meth c cX4_addFine 5 s args RX4 D (sf_ty cI cJ cK cS) A := cx
  unfold f_X4_addFine at hf
  refine sw_aload_n (pc' := 1) (i := 0) cx dX4_addFine_0 rfl 0 rfl rfl ?_
  obtain ⟨r1, hr1, hf⟩ := bd_s hf
  refine sw_callVw (pc' := 4) (As := []) (rest := []) (w' := (mt_W hm kA ka cI cK u)) cx (k_X4_isFull l D hm kA ka cI cJ cK cS u  r1 hr1) pk_yX4_isFull ml_RX4_75 ⟨rfl, rfl⟩ ⟨(Nat.le_of_ble_eq_true rfl), (Nat.le_of_ble_eq_true rfl)⟩ ⟨(Nat.le_of_ble_eq_true rfl), (Nat.le_of_ble_eq_true rfl)⟩ 0 rfl rfl rfl rfl (Nat.le_of_ble_eq_true rfl) rfl dX4_addFine_1 rfl ?_
  refine sw_if_eq (pc' := 7) (tgt := 8) cx dX4_addFine_4 (by decide) rfl (fun c2 => ?_) (fun c2 => ?_)
  · replace hf := it_p c2 hf
    refine sw_aload_n (pc' := 9) (i := 0) cx dX4_addFine_8 rfl 0 rfl rfl ?_
    refine sw_get (pc' := 12) cx in_X4 0 rfl rfl 11 (Nat.le_of_ble_eq_true rfl) fl_RX4_31 rfl dX4_addFine_9 rfl ?_
    refine sw_aload_n (pc' := 13) (i := 0) cx dX4_addFine_12 rfl 0 rfl rfl ?_
    refine sw_get (pc' := 16) cx in_X4 0 rfl rfl 10 (Nat.le_of_ble_eq_true rfl) fl_RX4_72 rfl dX4_addFine_13 rfl ?_
    refine sw_iload_n (pc' := 17) (i := 1) cx dX4_addFine_16 rfl 1 rfl rfl ?_
    obtain ⟨h3, hf⟩ := gx_s hf
    refine sw_iast (pc' := 18) (ws' := (mt_W hm kA ka cI cK (mt_mk (u.1 0 0) (u.1 0 1) (u.1 0 2) (u.1 0 3) (u.1 0 4) (u.1 1) (u.1 2) (u.1 3) (u.1 4) (upd (u.1 5) ((u.1 0 4)).toNatClampNeg a0) (u.1 6) (u.1 7) (u.1 8) (u.1 9) u.2))) cx 5 0 rfl rfl h3 dX4_addFine_17 rfl rfl ?_
    refine sw_aload_n (pc' := 19) (i := 0) cx dX4_addFine_18 rfl 0 rfl rfl ?_
    refine sw_get (pc' := 22) cx in_X4 0 rfl rfl 12 (Nat.le_of_ble_eq_true rfl) fl_RX4_34 rfl dX4_addFine_19 rfl ?_
    refine sw_aload_n (pc' := 23) (i := 0) cx dX4_addFine_22 rfl 0 rfl rfl ?_
    refine sw_get (pc' := 26) cx in_X4 0 rfl rfl 10 (Nat.le_of_ble_eq_true rfl) fl_RX4_72 rfl dX4_addFine_23 rfl ?_
    refine sw_iload_n (pc' := 27) (i := 2) cx dX4_addFine_26 rfl 2 rfl rfl ?_
    obtain ⟨h4, hf⟩ := gx_s hf
    refine sw_iast (pc' := 28) (ws' := (mt_W hm kA ka cI cK (mt_mk (u.1 0 0) (u.1 0 1) (u.1 0 2) (u.1 0 3) (u.1 0 4) (u.1 1) (u.1 2) (u.1 3) (u.1 4) (upd (u.1 5) ((u.1 0 4)).toNatClampNeg a0) (upd (u.1 6) ((u.1 0 4)).toNatClampNeg a1) (u.1 7) (u.1 8) (u.1 9) u.2))) cx 6 0 rfl rfl h4 dX4_addFine_27 rfl rfl ?_
    refine sw_aload_n (pc' := 29) (i := 0) cx dX4_addFine_28 rfl 0 rfl rfl ?_
    refine sw_get (pc' := 32) cx in_X4 0 rfl rfl 13 (Nat.le_of_ble_eq_true rfl) fl_RX4_37 rfl dX4_addFine_29 rfl ?_
    refine sw_aload_n (pc' := 33) (i := 0) cx dX4_addFine_32 rfl 0 rfl rfl ?_
    refine sw_get (pc' := 36) cx in_X4 0 rfl rfl 10 (Nat.le_of_ble_eq_true rfl) fl_RX4_72 rfl dX4_addFine_33 rfl ?_
    refine sw_iload_n (pc' := 37) (i := 3) cx dX4_addFine_36 rfl 3 rfl rfl ?_
    obtain ⟨h5, hf⟩ := gx_s hf
    refine sw_iast (pc' := 38) (ws' := (mt_W hm kA ka cI cK (mt_mk (u.1 0 0) (u.1 0 1) (u.1 0 2) (u.1 0 3) (u.1 0 4) (u.1 1) (u.1 2) (u.1 3) (u.1 4) (upd (u.1 5) ((u.1 0 4)).toNatClampNeg a0) (upd (u.1 6) ((u.1 0 4)).toNatClampNeg a1) (upd (u.1 7) ((u.1 0 4)).toNatClampNeg a2) (u.1 8) (u.1 9) u.2))) cx 7 0 rfl rfl h5 dX4_addFine_37 rfl rfl ?_
    refine sw_aload_n (pc' := 39) (i := 0) cx dX4_addFine_38 rfl 0 rfl rfl ?_
    refine sw_get (pc' := 42) cx in_X4 0 rfl rfl 14 (Nat.le_of_ble_eq_true rfl) fl_RX4_40 rfl dX4_addFine_39 rfl ?_
    refine sw_aload_n (pc' := 43) (i := 0) cx dX4_addFine_42 rfl 0 rfl rfl ?_
    refine sw_get (pc' := 46) cx in_X4 0 rfl rfl 10 (Nat.le_of_ble_eq_true rfl) fl_RX4_72 rfl dX4_addFine_43 rfl ?_
    refine sw_iload (pc' := 48) (i := 4) cx dX4_addFine_46 4 rfl rfl ?_
    obtain ⟨h6, hf⟩ := gx_s hf
    refine sw_iast (pc' := 49) (ws' := (mt_W hm kA ka cI cK (mt_mk (u.1 0 0) (u.1 0 1) (u.1 0 2) (u.1 0 3) (u.1 0 4) (u.1 1) (u.1 2) (u.1 3) (u.1 4) (upd (u.1 5) ((u.1 0 4)).toNatClampNeg a0) (upd (u.1 6) ((u.1 0 4)).toNatClampNeg a1) (upd (u.1 7) ((u.1 0 4)).toNatClampNeg a2) (upd (u.1 8) ((u.1 0 4)).toNatClampNeg a3) (u.1 9) u.2))) cx 8 0 rfl rfl h6 dX4_addFine_48 rfl rfl ?_
    refine sw_aload_n (pc' := 50) (i := 0) cx dX4_addFine_49 rfl 0 rfl rfl ?_
    refine sw_get (pc' := 53) cx in_X4 0 rfl rfl 15 (Nat.le_of_ble_eq_true rfl) fl_RX4_43 rfl dX4_addFine_50 rfl ?_
    refine sw_aload_n (pc' := 54) (i := 0) cx dX4_addFine_53 rfl 0 rfl rfl ?_
    refine sw_get (pc' := 57) cx in_X4 0 rfl rfl 10 (Nat.le_of_ble_eq_true rfl) fl_RX4_72 rfl dX4_addFine_54 rfl ?_
    refine sw_iconst (pc' := 58) (v := 0) cx dX4_addFine_57 iconst_0 rfl ?_
    obtain ⟨h7, hf⟩ := gx_s hf
    refine sw_iast (pc' := 59) (ws' := (mt_W hm kA ka cI cK (mt_mk (u.1 0 0) (u.1 0 1) (u.1 0 2) (u.1 0 3) (u.1 0 4) (u.1 1) (u.1 2) (u.1 3) (u.1 4) (upd (u.1 5) ((u.1 0 4)).toNatClampNeg a0) (upd (u.1 6) ((u.1 0 4)).toNatClampNeg a1) (upd (u.1 7) ((u.1 0 4)).toNatClampNeg a2) (upd (u.1 8) ((u.1 0 4)).toNatClampNeg a3) (upd (u.1 9) ((u.1 0 4)).toNatClampNeg (0 : Int32)) u.2))) cx 9 0 rfl rfl h7 dX4_addFine_58 rfl rfl ?_
    refine sw_aload_n (pc' := 60) (i := 0) cx dX4_addFine_59 rfl 0 rfl rfl ?_
    refine sw_dup (pc' := 61) cx dX4_addFine_60 rfl rfl ?_
    refine sw_get (pc' := 64) cx in_X4 0 rfl rfl 10 (Nat.le_of_ble_eq_true rfl) fl_RX4_72 rfl dX4_addFine_61 rfl ?_
    refine sw_iconst (pc' := 65) (v := 1) cx dX4_addFine_64 iconst_1 rfl ?_
    refine sw_iadd (pc' := 66) cx dX4_addFine_65 rfl ?_
    refine sw_put (pc' := 69) (ws' := (mt_W hm kA ka cI cK (mt_mk (u.1 0 0) (u.1 0 1) (u.1 0 2) (u.1 0 3) ((u.1 0 4) + (1 : Int32)) (u.1 1) (u.1 2) (u.1 3) (u.1 4) (upd (u.1 5) ((u.1 0 4)).toNatClampNeg a0) (upd (u.1 6) ((u.1 0 4)).toNatClampNeg a1) (upd (u.1 7) ((u.1 0 4)).toNatClampNeg a2) (upd (u.1 8) ((u.1 0 4)).toNatClampNeg a3) (upd (u.1 9) ((u.1 0 4)).toNatClampNeg (0 : Int32)) u.2))) cx in_X4 tyX4 tyX4_ok nmX4 0 rfl rfl 10 (Nat.le_of_ble_eq_true rfl) fl_RX4_72 rfl rfl rfl (Nat.le_of_ble_eq_true rfl) dX4_addFine_66 rfl rfl ?_
    obtain rfl := Option.some.inj hf
    exact sw_vret cx hr hQ dX4_addFine_69
  · replace hf := it_n c2 hf
    obtain rfl := Option.some.inj hf
    exact sw_vret cx hr hQ dX4_addFine_7
abbrev rm_X4_moveFine : Room := ({ frames := 0, cells := 0, slots := 0, locals := 0 } : Room)
set_option maxRecDepth 100000 in
set_option maxHeartbeats 4000000 in
theorem k_X4_moveFine (l : Launch) (D : sf_D) (hm : Nat → Nat) (kA : Nat) (ka : Nat → Nat) (cI cJ cK cS : ClassId) (u : MtS) (a0 : Int32) (a1 : Int32) (res : MtS) (hf : f_X4_moveFine u a0 a1 = some res) : sf_Ct l yX4_moveFine cX4_moveFine 3 none rm_X4_moveFine D (sf_ty cI cJ cK cS) [.ref (hm 0), .int a0, .int a1] (mt_W hm kA ka cI cK u) none (mt_W hm kA ka cI cK res) := by
  refine sf_met (lv := [(0, .ref (hm 0)), (1, .int a0), (2, .int a1)]) (by decide) (Nat.le_of_ble_eq_true rfl) rfl ?_
  intro p e s m args below meth c A Q cx hr hQ
  have cx : sf_Cx p m meth c cX4_moveFine 3 s args RX4 D (sf_ty cI cJ cK cS) A := cx
  unfold f_X4_moveFine at hf
  refine sw_aload_n (pc' := 1) (i := 0) cx dX4_moveFine_0 rfl 0 rfl rfl ?_
  refine sw_get (pc' := 4) cx in_X4 0 rfl rfl 13 (Nat.le_of_ble_eq_true rfl) fl_RX4_37 rfl dX4_moveFine_1 rfl ?_
  refine sw_iload_n (pc' := 5) (i := 1) cx dX4_moveFine_4 rfl 1 rfl rfl ?_
  refine sw_iload_n (pc' := 6) (i := 2) cx dX4_moveFine_5 rfl 2 rfl rfl ?_
  obtain ⟨h1, hf⟩ := gx_s hf
  refine sw_iast (pc' := 7) (ws' := (mt_W hm kA ka cI cK (mt_mk (u.1 0 0) (u.1 0 1) (u.1 0 2) (u.1 0 3) (u.1 0 4) (u.1 1) (u.1 2) (u.1 3) (u.1 4) (u.1 5) (u.1 6) (upd (u.1 7) (a0).toNatClampNeg a1) (u.1 8) (u.1 9) u.2))) cx 7 0 rfl rfl h1 dX4_moveFine_6 rfl rfl ?_
  refine sw_aload_n (pc' := 8) (i := 0) cx dX4_moveFine_7 rfl 0 rfl rfl ?_
  refine sw_get (pc' := 11) cx in_X4 0 rfl rfl 15 (Nat.le_of_ble_eq_true rfl) fl_RX4_43 rfl dX4_moveFine_8 rfl ?_
  refine sw_iload_n (pc' := 12) (i := 1) cx dX4_moveFine_11 rfl 1 rfl rfl ?_
  refine sw_iconst (pc' := 13) (v := 0) cx dX4_moveFine_12 iconst_0 rfl ?_
  obtain ⟨h2, hf⟩ := gx_s hf
  refine sw_iast (pc' := 14) (ws' := (mt_W hm kA ka cI cK (mt_mk (u.1 0 0) (u.1 0 1) (u.1 0 2) (u.1 0 3) (u.1 0 4) (u.1 1) (u.1 2) (u.1 3) (u.1 4) (u.1 5) (u.1 6) (upd (u.1 7) (a0).toNatClampNeg a1) (u.1 8) (upd (u.1 9) (a0).toNatClampNeg (0 : Int32)) u.2))) cx 9 0 rfl rfl h2 dX4_moveFine_13 rfl rfl ?_
  obtain rfl := Option.some.inj hf
  exact sw_vret cx hr hQ dX4_moveFine_14
abbrev rm_X4_kindOf : Room := ({ frames := 1, cells := 0, slots := 0, locals := 20 } : Room)
set_option maxRecDepth 100000 in
set_option maxHeartbeats 4000000 in
theorem k_X4_kindOf (l : Launch) (D : sf_D) (hm : Nat → Nat) (kA : Nat) (ka : Nat → Nat) (cI cJ cK cS : ClassId) (u : MtS) (a0 : Int32) (res : Nat) (hf : f_X4_kindOf u a0 = some res) : sf_Ct l yX4_kindOf cX4_kindOf 3 (some (.object "StairFines$Kind")) rm_X4_kindOf D (sf_ty cI cJ cK cS) [.ref (hm 0), .int a0] (mt_W hm kA ka cI cK u) (some (.ref (ka res))) (mt_W hm kA ka cI cK u) := by
  refine sf_met (lv := [(0, .ref (hm 0)), (1, .int a0)]) (by decide) (Nat.le_of_ble_eq_true rfl) rfl ?_
  intro p e s m args below meth c A Q cx hr hQ
  have cx : sf_Cx p m meth c cX4_kindOf 3 s args RX4 D (sf_ty cI cJ cK cS) A := cx
  unfold f_X4_kindOf at hf
  refine sw_aload_n (pc' := 1) (i := 0) cx dX4_kindOf_0 rfl 0 rfl rfl ?_
  refine sw_get (pc' := 4) cx in_X4 0 rfl rfl 11 (Nat.le_of_ble_eq_true rfl) fl_RX4_31 rfl dX4_kindOf_1 rfl ?_
  refine sw_iload_n (pc' := 5) (i := 1) cx dX4_kindOf_4 rfl 1 rfl rfl ?_
  obtain ⟨h1, hf⟩ := gx_s hf
  refine sw_iald (pc' := 6) cx 5 0 rfl rfl h1 dX4_kindOf_5 rfl ?_
  refine sw_istore_n (pc' := 7) (i := 2) (lv' := [(2, .int ((u.1 5) (a0).toNatClampNeg)), (0, .ref (hm 0)), (1, .int a0)]) cx dX4_kindOf_6 rfl (Nat.le_of_ble_eq_true rfl) rfl rfl ?_
  refine sw_iload_n (pc' := 8) (i := 2) cx dX4_kindOf_7 rfl 0 rfl rfl ?_
  obtain ⟨r2, hr2, hf⟩ := bd_s hf
  refine sw_callSN (pc' := 11) (As := [.int ((u.1 5) (a0).toNatClampNeg)]) (rest := []) cx (k_X9_isKind l D cI cJ cK cS ((u.1 5) (a0).toNatClampNeg) r2 hr2) pk_yX9_isKind mn_RX4_79 ⟨rfl, rfl⟩ ⟨(Nat.le_of_ble_eq_true rfl), (Nat.le_of_ble_eq_true rfl)⟩ ⟨(Nat.le_of_ble_eq_true rfl), (Nat.le_of_ble_eq_true rfl)⟩ [] rfl rfl rfl (wn := (mt_W hm kA ka cI cK u)) rfl rfl (Nat.le_of_ble_eq_true rfl) rfl dX4_kindOf_8 rfl ?_
  refine sw_if_eq (pc' := 14) (tgt := 23) cx dX4_kindOf_11 (by decide) rfl (fun c3 => ?_) (fun c3 => ?_)
  · replace hf := it_p c3 hf
    refine sw_aload_n (pc' := 24) (i := 0) cx dX4_kindOf_23 rfl 1 rfl rfl ?_
    refine sw_get (pc' := 27) cx in_X4 0 rfl rfl 0 (Nat.le_of_ble_eq_true rfl) fl_RX4_46 rfl dX4_kindOf_24 rfl ?_
    refine sw_iconst (pc' := 28) (v := 0) cx dX4_kindOf_27 iconst_0 rfl ?_
    refine sw_aaldS (pc' := 29) cx 10 2 rfl rfl vi_0_6 dX4_kindOf_28 rfl ?_
    obtain rfl := Option.some.inj hf
    exact sw_aret cx hr (Or.inl ⟨_, rfl⟩) hQ dX4_kindOf_29
  · replace hf := it_n c3 hf
    refine sw_aload_n (pc' := 15) (i := 0) cx dX4_kindOf_14 rfl 1 rfl rfl ?_
    refine sw_get (pc' := 18) cx in_X4 0 rfl rfl 0 (Nat.le_of_ble_eq_true rfl) fl_RX4_46 rfl dX4_kindOf_15 rfl ?_
    refine sw_iload_n (pc' := 19) (i := 2) cx dX4_kindOf_18 rfl 0 rfl rfl ?_
    obtain ⟨h4, hf⟩ := gx_s hf
    refine sw_aaldS (pc' := 20) cx 10 2 rfl rfl h4 dX4_kindOf_19 rfl ?_
    refine sw_goto (tgt := 29) cx dX4_kindOf_20 (by decide) ?_
    obtain rfl := Option.some.inj hf
    exact sw_aret cx hr (Or.inl ⟨_, rfl⟩) hQ dX4_kindOf_29
abbrev rm_X4_wholePlaces : Room := ({ frames := 1, cells := 0, slots := 0, locals := 21 } : Room)
set_option maxRecDepth 100000 in
set_option maxHeartbeats 4000000 in
theorem k_X4_wholePlaces (l : Launch) (D : sf_D) (hm : Nat → Nat) (kA : Nat) (ka : Nat → Nat) (cI cJ cK cS : ClassId) (u : MtS)  (res : Int32) (hf : f_X4_wholePlaces u = some res) : sf_Ct l yX4_wholePlaces cX4_wholePlaces 1 (some .int) rm_X4_wholePlaces D (sf_ty cI cJ cK cS) [.ref (hm 0)] (mt_W hm kA ka cI cK u) (some (.int res)) (mt_W hm kA ka cI cK u) := by
  refine sf_met (lv := [(0, .ref (hm 0))]) (by decide) (Nat.le_of_ble_eq_true rfl) rfl ?_
  intro p e s m args below meth c A Q cx hr hQ
  have cx : sf_Cx p m meth c cX4_wholePlaces 1 s args RX4 D (sf_ty cI cJ cK cS) A := cx
  unfold f_X4_wholePlaces at hf
  refine sw_aload_n (pc' := 1) (i := 0) cx dX4_wholePlaces_0 rfl 0 rfl rfl ?_
  refine sw_get (pc' := 4) cx in_X4 0 rfl rfl 5 (Nat.le_of_ble_eq_true rfl) fl_RX4_62 rfl dX4_wholePlaces_1 rfl ?_
  obtain ⟨r1, hr1, hf⟩ := bd_s hf
  refine sw_callS (pc' := 7) (As := [.long u.2]) (rest := []) cx (k_J13_bitCount_95d88 l D cI cJ cK cS u.2 r1 hr1) pk_yJ13_bitCount_95d88 ml_RX4_107 ⟨rfl, rfl⟩ ⟨(Nat.le_of_ble_eq_true rfl), (Nat.le_of_ble_eq_true rfl)⟩ ⟨(Nat.le_of_ble_eq_true rfl), (Nat.le_of_ble_eq_true rfl)⟩ [] rfl rfl rfl (wn := (mt_W hm kA ka cI cK u)) rfl rfl (Nat.le_of_ble_eq_true rfl) rfl dX4_wholePlaces_4 rfl ?_
  obtain rfl := Option.some.inj hf
  exact sw_iret cx hr hQ dX4_wholePlaces_7
abbrev rm_X4_worksOf : Room := ({ frames := 3, cells := 0, slots := 0, locals := 66 } : Room)
set_option maxRecDepth 100000 in
set_option maxHeartbeats 4000000 in
theorem k_X4_worksOf (l : Launch) (D : sf_D) (hm : Nat → Nat) (kA : Nat) (ka : Nat → Nat) (cI cJ cK cS : ClassId) (u : MtS) (a0 : Int32) (res : Int32) (hf : f_X4_worksOf u a0 = some res) : sf_Ct l yX4_worksOf cX4_worksOf 2 (some .int) rm_X4_worksOf D (sf_ty cI cJ cK cS) [.ref (hm 0), .int a0] (mt_W hm kA ka cI cK u) (some (.int res)) (mt_W hm kA ka cI cK u) := by
  refine sf_met (lv := [(0, .ref (hm 0)), (1, .int a0)]) (by decide) (Nat.le_of_ble_eq_true rfl) rfl ?_
  intro p e s m args below meth c A Q cx hr hQ
  have cx : sf_Cx p m meth c cX4_worksOf 2 s args RX4 D (sf_ty cI cJ cK cS) A := cx
  unfold f_X4_worksOf at hf
  refine sw_aload_n (pc' := 1) (i := 0) cx dX4_worksOf_0 rfl 0 rfl rfl ?_
  refine sw_iload_n (pc' := 2) (i := 1) cx dX4_worksOf_1 rfl 1 rfl rfl ?_
  obtain ⟨r1, hr1, hf⟩ := bd_s hf
  refine sw_callVw (pc' := 5) (As := [.int a0]) (rest := []) (w' := (mt_W hm kA ka cI cK u)) cx (k_X4_kindOf l D hm kA ka cI cJ cK cS u a0 r1 hr1) pk_yX4_kindOf ml_RX4_83 ⟨rfl, rfl⟩ ⟨(Nat.le_of_ble_eq_true rfl), (Nat.le_of_ble_eq_true rfl)⟩ ⟨(Nat.le_of_ble_eq_true rfl), (Nat.le_of_ble_eq_true rfl)⟩ 0 rfl rfl rfl rfl (Nat.le_of_ble_eq_true rfl) rfl dX4_worksOf_2 rfl ?_
  refine sw_aload_n (pc' := 6) (i := 0) cx dX4_worksOf_5 rfl 0 rfl rfl ?_
  refine sw_get (pc' := 9) cx in_X4 0 rfl rfl 14 (Nat.le_of_ble_eq_true rfl) fl_RX4_40 rfl dX4_worksOf_6 rfl ?_
  refine sw_iload_n (pc' := 10) (i := 1) cx dX4_worksOf_9 rfl 1 rfl rfl ?_
  obtain ⟨h2, hf⟩ := gx_s hf
  refine sw_iald (pc' := 11) cx 8 0 rfl rfl h2 dX4_worksOf_10 rfl ?_
  refine sw_bipush (pc' := 13) (v := 40) cx dX4_worksOf_11 bipush_40 rfl ?_
  refine sw_aload_n (pc' := 14) (i := 0) cx dX4_worksOf_13 rfl 0 rfl rfl ?_
  obtain ⟨r3, hr3, hf⟩ := bd_s hf
  refine sw_callVw (pc' := 17) (As := []) (rest := [.int (40 : Int32), .int ((u.1 8) (a0).toNatClampNeg), .ref (ka r1)]) (w' := (mt_W hm kA ka cI cK u)) cx (k_X4_wholePlaces l D hm kA ka cI cJ cK cS u  r3 hr3) pk_yX4_wholePlaces ml_RX4_87 ⟨rfl, rfl⟩ ⟨(Nat.le_of_ble_eq_true rfl), (Nat.le_of_ble_eq_true rfl)⟩ ⟨(Nat.le_of_ble_eq_true rfl), (Nat.le_of_ble_eq_true rfl)⟩ 0 rfl rfl rfl rfl (Nat.le_of_ble_eq_true rfl) rfl dX4_worksOf_14 rfl ?_
  refine sw_isub (pc' := 18) cx dX4_worksOf_17 rfl ?_
  obtain ⟨h4, hf⟩ := gk_s hf
  obtain ⟨r5, hr5, hf⟩ := bd_s hf
  refine sw_kworks (pc' := 21) (rest := []) cx 11 (mt_kat _ _ _ _ _ _) r1 h4 hr5 (Nat.le_of_ble_eq_true rfl) (Nat.le_of_ble_eq_true rfl) ⟨(Nat.le_of_ble_eq_true rfl), (Nat.le_of_ble_eq_true rfl)⟩ (Nat.le_of_ble_eq_true rfl) dX4_worksOf_18 rfl ?_
  obtain rfl := Option.some.inj hf
  exact sw_iret cx hr hQ dX4_worksOf_21
abbrev rm_X4_highOf : Room := ({ frames := 3, cells := 0, slots := 0, locals := 63 } : Room)
set_option maxRecDepth 100000 in
set_option maxHeartbeats 4000000 in
theorem k_X4_highOf (l : Launch) (D : sf_D) (hm : Nat → Nat) (kA : Nat) (ka : Nat → Nat) (cI cJ cK cS : ClassId) (u : MtS) (a0 : Int32) (a1 : Int32) (res : Int32) (hf : f_X4_highOf u a0 a1 = some res) : sf_Ct l yX4_highOf cX4_highOf 3 (some .int) rm_X4_highOf D (sf_ty cI cJ cK cS) [.ref (hm 0), .int a0, .int a1] (mt_W hm kA ka cI cK u) (some (.int res)) (mt_W hm kA ka cI cK u) := by
  refine sf_met (lv := [(0, .ref (hm 0)), (1, .int a0), (2, .int a1)]) (by decide) (Nat.le_of_ble_eq_true rfl) rfl ?_
  intro p e s m args below meth c A Q cx hr hQ
  have cx : sf_Cx p m meth c cX4_highOf 3 s args RX4 D (sf_ty cI cJ cK cS) A := cx
  unfold f_X4_highOf at hf
  refine sw_iload_n (pc' := 1) (i := 2) cx dX4_highOf_0 rfl 2 rfl rfl ?_
  obtain ⟨r1, hr1, hf⟩ := bd_s hf
  refine sw_callSN (pc' := 4) (As := [.int a1]) (rest := []) cx (k_X9_isPlace l D cI cJ cK cS a1 r1 hr1) pk_yX9_isPlace mn_RX4_97 ⟨rfl, rfl⟩ ⟨(Nat.le_of_ble_eq_true rfl), (Nat.le_of_ble_eq_true rfl)⟩ ⟨(Nat.le_of_ble_eq_true rfl), (Nat.le_of_ble_eq_true rfl)⟩ [] rfl rfl rfl (wn := (mt_W hm kA ka cI cK u)) rfl rfl (Nat.le_of_ble_eq_true rfl) rfl dX4_highOf_1 rfl ?_
  refine sw_if_eq (pc' := 7) (tgt := 24) cx dX4_highOf_4 (by decide) rfl (fun c2 => ?_) (fun c2 => ?_)
  · replace hf := it_p c2 hf
    refine sw_iconst (pc' := 25) (v := 0) cx dX4_highOf_24 iconst_0 rfl ?_
    obtain rfl := Option.some.inj hf
    exact sw_iret cx hr hQ dX4_highOf_25
  · replace hf := it_n c2 hf
    refine sw_aload_n (pc' := 8) (i := 0) cx dX4_highOf_7 rfl 0 rfl rfl ?_
    refine sw_iload_n (pc' := 9) (i := 1) cx dX4_highOf_8 rfl 1 rfl rfl ?_
    obtain ⟨r3, hr3, hf⟩ := bd_s hf
    refine sw_callVw (pc' := 12) (As := [.int a0]) (rest := []) (w' := (mt_W hm kA ka cI cK u)) cx (k_X4_kindOf l D hm kA ka cI cJ cK cS u a0 r3 hr3) pk_yX4_kindOf ml_RX4_83 ⟨rfl, rfl⟩ ⟨(Nat.le_of_ble_eq_true rfl), (Nat.le_of_ble_eq_true rfl)⟩ ⟨(Nat.le_of_ble_eq_true rfl), (Nat.le_of_ble_eq_true rfl)⟩ 0 rfl rfl rfl rfl (Nat.le_of_ble_eq_true rfl) rfl dX4_highOf_9 rfl ?_
    refine sw_aload_n (pc' := 13) (i := 0) cx dX4_highOf_12 rfl 0 rfl rfl ?_
    refine sw_get (pc' := 16) cx in_X4 0 rfl rfl 1 (Nat.le_of_ble_eq_true rfl) fl_RX4_9 rfl dX4_highOf_13 rfl ?_
    refine sw_iload_n (pc' := 17) (i := 2) cx dX4_highOf_16 rfl 2 rfl rfl ?_
    obtain ⟨h4, hf⟩ := gx_s hf
    refine sw_iald (pc' := 18) cx 1 0 rfl rfl h4 dX4_highOf_17 rfl ?_
    obtain ⟨h5, hf⟩ := gk_s hf
    obtain ⟨r6, hr6, hf⟩ := bd_s hf
    refine sw_kcutsHigh (pc' := 21) (rest := []) cx 11 (mt_kat _ _ _ _ _ _) r3 h5 hr6 (Nat.le_of_ble_eq_true rfl) (Nat.le_of_ble_eq_true rfl) ⟨(Nat.le_of_ble_eq_true rfl), (Nat.le_of_ble_eq_true rfl)⟩ (Nat.le_of_ble_eq_true rfl) dX4_highOf_18 rfl ?_
    refine sw_goto (tgt := 25) cx dX4_highOf_21 (by decide) ?_
    obtain rfl := Option.some.inj hf
    exact sw_iret cx hr hQ dX4_highOf_25
abbrev rm_X4_isWhole : Room := ({ frames := 1, cells := 0, slots := 0, locals := 20 } : Room)
set_option maxRecDepth 100000 in
set_option maxHeartbeats 4000000 in
theorem k_X4_isWhole (l : Launch) (D : sf_D) (hm : Nat → Nat) (kA : Nat) (ka : Nat → Nat) (cI cJ cK cS : ClassId) (u : MtS) (a0 : Int32) (res : Int32) (hf : f_X4_isWhole u a0 = some res) : sf_Ct l yX4_isWhole cX4_isWhole 2 (some .boolean) rm_X4_isWhole D (sf_ty cI cJ cK cS) [.ref (hm 0), .int a0] (mt_W hm kA ka cI cK u) (some (.int res)) (mt_W hm kA ka cI cK u) := by
  refine sf_met (lv := [(0, .ref (hm 0)), (1, .int a0)]) (by decide) (Nat.le_of_ble_eq_true rfl) rfl ?_
  intro p e s m args below meth c A Q cx hr hQ
  have cx : sf_Cx p m meth c cX4_isWhole 2 s args RX4 D (sf_ty cI cJ cK cS) A := cx
  unfold f_X4_isWhole at hf
  refine sw_iload_n (pc' := 1) (i := 1) cx dX4_isWhole_0 rfl 1 rfl rfl ?_
  obtain ⟨r1, hr1, hf⟩ := bd_s hf
  refine sw_callSN (pc' := 4) (As := [.int a0]) (rest := []) cx (k_X9_isPlace l D cI cJ cK cS a0 r1 hr1) pk_yX9_isPlace mn_RX4_97 ⟨rfl, rfl⟩ ⟨(Nat.le_of_ble_eq_true rfl), (Nat.le_of_ble_eq_true rfl)⟩ ⟨(Nat.le_of_ble_eq_true rfl), (Nat.le_of_ble_eq_true rfl)⟩ [] rfl rfl rfl (wn := (mt_W hm kA ka cI cK u)) rfl rfl (Nat.le_of_ble_eq_true rfl) rfl dX4_isWhole_1 rfl ?_
  refine sw_if_eq (pc' := 7) (tgt := 24) cx dX4_isWhole_4 (by decide) rfl (fun c2 => ?_) (fun c2 => ?_)
  · replace hf := it_p c2 hf
    refine sw_iconst (pc' := 25) (v := 0) cx dX4_isWhole_24 iconst_0 rfl ?_
    obtain rfl := Option.some.inj hf
    exact sw_zret cx hr (by decide +kernel) hQ dX4_isWhole_25
  · replace hf := it_n c2 hf
    refine sw_aload_n (pc' := 8) (i := 0) cx dX4_isWhole_7 rfl 0 rfl rfl ?_
    refine sw_get (pc' := 11) cx in_X4 0 rfl rfl 5 (Nat.le_of_ble_eq_true rfl) fl_RX4_62 rfl dX4_isWhole_8 rfl ?_
    refine sw_iload_n (pc' := 12) (i := 1) cx dX4_isWhole_11 rfl 1 rfl rfl ?_
    refine sw_lushr (pc' := 13) cx dX4_isWhole_12 rfl ?_
    refine sw_lconst (pc' := 14) (v := 1) cx dX4_isWhole_13 rfl rfl ?_
    refine sw_land (pc' := 15) cx dX4_isWhole_14 rfl ?_
    refine sw_lconst (pc' := 16) (v := 0) cx dX4_isWhole_15 rfl rfl ?_
    refine sw_lcmp (pc' := 17) cx dX4_isWhole_16 rfl ?_
    refine sw_if_eq (pc' := 20) (tgt := 24) cx dX4_isWhole_17 (by decide) rfl (fun c3 => ?_) (fun c3 => ?_)
    · replace hf := it_p c3 hf
      refine sw_iconst (pc' := 25) (v := 0) cx dX4_isWhole_24 iconst_0 rfl ?_
      obtain rfl := Option.some.inj hf
      exact sw_zret cx hr (by decide +kernel) hQ dX4_isWhole_25
    · replace hf := it_n c3 hf
      refine sw_iconst (pc' := 21) (v := 1) cx dX4_isWhole_20 iconst_1 rfl ?_
      refine sw_goto (tgt := 25) cx dX4_isWhole_21 (by decide) ?_
      obtain rfl := Option.some.inj hf
      exact sw_zret cx hr (by decide +kernel) hQ dX4_isWhole_25
abbrev rm_X4_cutBy : Room := ({ frames := 2, cells := 0, slots := 0, locals := 41 } : Room)
set_option maxRecDepth 100000 in
set_option maxHeartbeats 4000000 in
theorem k_X4_cutBy (l : Launch) (D : sf_D) (hm : Nat → Nat) (kA : Nat) (ka : Nat → Nat) (cI cJ cK cS : ClassId) (u : MtS) (a0 : Int32) (res : Int32) (hf : f_X4_cutBy u a0 = some res) : sf_Ct l yX4_cutBy cX4_cutBy 4 (some .int) rm_X4_cutBy D (sf_ty cI cJ cK cS) [.ref (hm 0), .int a0] (mt_W hm kA ka cI cK u) (some (.int res)) (mt_W hm kA ka cI cK u) := by
  refine sf_met (lv := [(0, .ref (hm 0)), (1, .int a0)]) (by decide) (Nat.le_of_ble_eq_true rfl) rfl ?_
  intro p e s m args below meth c A Q cx hr hQ
  have cx : sf_Cx p m meth c cX4_cutBy 4 s args RX4 D (sf_ty cI cJ cK cS) A := cx
  have B31 : ∀ (kk : Int32 → Int32 → Int32 → Option (Int32)), (∀ (x1 : Int32) (x2 : Int32) (x3 : Int32), kk x1 x2 x3 = some res → sf_W p l e rm_X4_cutBy s m args below meth c 0 0 Q 4 D A (mt_W hm kA ka cI cK u) [(0, .ref (hm 0)), (1, .int x1), (2, .int x2), (3, .int x3)] 4 []) → ∀ (x1 : Int32) (x2 : Int32) (x3 : Int32), f_X4_cutBy_b31 u kk x1 x2 x3 = some res → sf_W p l e rm_X4_cutBy s m args below meth c 0 0 Q 4 D A (mt_W hm kA ka cI cK u) [(0, .ref (hm 0)), (1, .int x1), (2, .int x2), (3, .int x3)] 31 [] := by
    intro kk hkk x1 x2 x3 hf
    unfold f_X4_cutBy_b31 at hf
    refine sw_iinc (pc' := 34) (v := (x3 + (1 : Int32))) (lv' := [(3, .int (x3 + (1 : Int32))), (0, .ref (hm 0)), (1, .int x1), (2, .int x2)]) cx dX4_cutBy_31 3 rfl rfl (Nat.le_of_ble_eq_true rfl) rfl rfl ?_
    refine sw_goto (tgt := 4) cx dX4_cutBy_34 (by decide) ?_
    exact sw_lv [1, 2, 3, 0] rfl (hkk x1 x2 (x3 + (1 : Int32)) hf)
  have B4 : ∀ (n : Nat), ∀ (x1 : Int32) (x2 : Int32) (x3 : Int32), f_X4_cutBy_b4 u n x1 x2 x3 = some res → sf_W p l e rm_X4_cutBy s m args below meth c 0 0 Q 4 D A (mt_W hm kA ka cI cK u) [(0, .ref (hm 0)), (1, .int x1), (2, .int x2), (3, .int x3)] 4 [] := by
    intro n
    induction n with
    | zero => intro x1 x2 x3 hf; rw [f_X4_cutBy_b4] at hf; cases hf
    | succ n ih =>
      intro x1 x2 x3 hf
      rw [f_X4_cutBy_b4] at hf
      refine sw_iload_n (pc' := 5) (i := 3) cx dX4_cutBy_4 rfl 3 rfl rfl ?_
      refine sw_bipush (pc' := 7) (v := 40) cx dX4_cutBy_5 bipush_40 rfl ?_
      refine sw_icmp_ge (pc' := 10) (tgt := 37) cx dX4_cutBy_7 (by decide) rfl (fun c1 => ?_) (fun c1 => ?_)
      · replace hf := it_p c1 hf
        refine sw_iload_n (pc' := 38) (i := 2) cx dX4_cutBy_37 rfl 2 rfl rfl ?_
        obtain rfl := Option.some.inj hf
        exact sw_iret cx hr hQ dX4_cutBy_38
      · replace hf := it_n c1 hf
        refine sw_aload_n (pc' := 11) (i := 0) cx dX4_cutBy_10 rfl 0 rfl rfl ?_
        refine sw_iload_n (pc' := 12) (i := 3) cx dX4_cutBy_11 rfl 3 rfl rfl ?_
        obtain ⟨r2, hr2, hf⟩ := bd_s hf
        refine sw_callVw (pc' := 15) (As := [.int x3]) (rest := []) (w' := (mt_W hm kA ka cI cK u)) cx (k_X4_isWhole l D hm kA ka cI cJ cK cS u x3 r2 hr2) pk_yX4_isWhole ml_RX4_104 ⟨rfl, rfl⟩ ⟨(Nat.le_of_ble_eq_true rfl), (Nat.le_of_ble_eq_true rfl)⟩ ⟨(Nat.le_of_ble_eq_true rfl), (Nat.le_of_ble_eq_true rfl)⟩ 0 rfl rfl rfl rfl (Nat.le_of_ble_eq_true rfl) rfl dX4_cutBy_12 rfl ?_
        refine sw_if_eq (pc' := 18) (tgt := 31) cx dX4_cutBy_15 (by decide) rfl (fun c3 => ?_) (fun c3 => ?_)
        · replace hf := it_p c3 hf
          exact sw_lv [0, 1, 2, 3] rfl (B31 _ ih x1 x2 x3 hf)
        · replace hf := it_n c3 hf
          refine sw_aload_n (pc' := 19) (i := 0) cx dX4_cutBy_18 rfl 0 rfl rfl ?_
          refine sw_get (pc' := 22) cx in_X4 0 rfl rfl 3 (Nat.le_of_ble_eq_true rfl) fl_RX4_18 rfl dX4_cutBy_19 rfl ?_
          refine sw_iload_n (pc' := 23) (i := 3) cx dX4_cutBy_22 rfl 3 rfl rfl ?_
          obtain ⟨h4, hf⟩ := gx_s hf
          refine sw_iald (pc' := 24) cx 3 0 rfl rfl h4 dX4_cutBy_23 rfl ?_
          refine sw_iload_n (pc' := 25) (i := 1) cx dX4_cutBy_24 rfl 1 rfl rfl ?_
          refine sw_icmp_ne (pc' := 28) (tgt := 31) cx dX4_cutBy_25 (by decide) rfl (fun c5 => ?_) (fun c5 => ?_)
          · replace hf := it_n c5 hf
            exact sw_lv [0, 1, 2, 3] rfl (B31 _ ih x1 x2 x3 hf)
          · replace hf := it_p c5 hf
            refine sw_iinc (pc' := 31) (v := (x2 + (1 : Int32))) (lv' := [(2, .int (x2 + (1 : Int32))), (0, .ref (hm 0)), (1, .int x1), (3, .int x3)]) cx dX4_cutBy_28 2 rfl rfl (Nat.le_of_ble_eq_true rfl) rfl rfl ?_
            exact sw_lv [1, 2, 0, 3] rfl (B31 _ ih x1 (x2 + (1 : Int32)) x3 hf)
  unfold f_X4_cutBy at hf
  refine sw_iconst (pc' := 1) (v := 0) cx dX4_cutBy_0 iconst_0 rfl ?_
  refine sw_istore_n (pc' := 2) (i := 2) (lv' := [(2, .int (0 : Int32)), (0, .ref (hm 0)), (1, .int a0)]) cx dX4_cutBy_1 rfl (Nat.le_of_ble_eq_true rfl) rfl rfl ?_
  refine sw_iconst (pc' := 3) (v := 0) cx dX4_cutBy_2 iconst_0 rfl ?_
  refine sw_istore_n (pc' := 4) (i := 3) (lv' := [(3, .int (0 : Int32)), (2, .int (0 : Int32)), (0, .ref (hm 0)), (1, .int a0)]) cx dX4_cutBy_3 rfl (Nat.le_of_ble_eq_true rfl) rfl rfl ?_
  exact sw_lv [2, 3, 1, 0] rfl (B4 1000 a0 (0 : Int32) (0 : Int32) hf)
abbrev rm_X4_owedByAll : Room := ({ frames := 0, cells := 0, slots := 0, locals := 0 } : Room)
set_option maxRecDepth 100000 in
set_option maxHeartbeats 4000000 in
theorem k_X4_owedByAll (l : Launch) (D : sf_D) (hm : Nat → Nat) (kA : Nat) (ka : Nat → Nat) (cI cJ cK cS : ClassId) (u : MtS)  (res : Int32) (hf : f_X4_owedByAll u = some res) : sf_Ct l yX4_owedByAll cX4_owedByAll 3 (some .int) rm_X4_owedByAll D (sf_ty cI cJ cK cS) [.ref (hm 0)] (mt_W hm kA ka cI cK u) (some (.int res)) (mt_W hm kA ka cI cK u) := by
  refine sf_met (lv := [(0, .ref (hm 0))]) (by decide) (Nat.le_of_ble_eq_true rfl) rfl ?_
  intro p e s m args below meth c A Q cx hr hQ
  have cx : sf_Cx p m meth c cX4_owedByAll 3 s args RX4 D (sf_ty cI cJ cK cS) A := cx
  have B4 : ∀ (n : Nat), ∀ (x1 : Int32) (x2 : Int32), f_X4_owedByAll_b4 u n x1 x2 = some res → sf_W p l e rm_X4_owedByAll s m args below meth c 0 0 Q 3 D A (mt_W hm kA ka cI cK u) [(0, .ref (hm 0)), (1, .int x1), (2, .int x2)] 4 [] := by
    intro n
    induction n with
    | zero => intro x1 x2 hf; rw [f_X4_owedByAll_b4] at hf; cases hf
    | succ n ih =>
      intro x1 x2 hf
      rw [f_X4_owedByAll_b4] at hf
      refine sw_iload_n (pc' := 5) (i := 2) cx dX4_owedByAll_4 rfl 2 rfl rfl ?_
      refine sw_aload_n (pc' := 6) (i := 0) cx dX4_owedByAll_5 rfl 0 rfl rfl ?_
      refine sw_get (pc' := 9) cx in_X4 0 rfl rfl 10 (Nat.le_of_ble_eq_true rfl) fl_RX4_72 rfl dX4_owedByAll_6 rfl ?_
      refine sw_icmp_ge (pc' := 12) (tgt := 27) cx dX4_owedByAll_9 (by decide) rfl (fun c1 => ?_) (fun c1 => ?_)
      · replace hf := it_p c1 hf
        refine sw_iload_n (pc' := 28) (i := 1) cx dX4_owedByAll_27 rfl 1 rfl rfl ?_
        obtain rfl := Option.some.inj hf
        exact sw_iret cx hr hQ dX4_owedByAll_28
      · replace hf := it_n c1 hf
        refine sw_iload_n (pc' := 13) (i := 1) cx dX4_owedByAll_12 rfl 1 rfl rfl ?_
        refine sw_aload_n (pc' := 14) (i := 0) cx dX4_owedByAll_13 rfl 0 rfl rfl ?_
        refine sw_get (pc' := 17) cx in_X4 0 rfl rfl 12 (Nat.le_of_ble_eq_true rfl) fl_RX4_34 rfl dX4_owedByAll_14 rfl ?_
        refine sw_iload_n (pc' := 18) (i := 2) cx dX4_owedByAll_17 rfl 2 rfl rfl ?_
        obtain ⟨h2, hf⟩ := gx_s hf
        refine sw_iald (pc' := 19) cx 6 0 rfl rfl h2 dX4_owedByAll_18 rfl ?_
        refine sw_iadd (pc' := 20) cx dX4_owedByAll_19 rfl ?_
        refine sw_istore_n (pc' := 21) (i := 1) (lv' := [(1, .int (x1 + ((u.1 6) (x2).toNatClampNeg))), (0, .ref (hm 0)), (2, .int x2)]) cx dX4_owedByAll_20 rfl (Nat.le_of_ble_eq_true rfl) rfl rfl ?_
        refine sw_iinc (pc' := 24) (v := (x2 + (1 : Int32))) (lv' := [(2, .int (x2 + (1 : Int32))), (1, .int (x1 + ((u.1 6) (x2).toNatClampNeg))), (0, .ref (hm 0))]) cx dX4_owedByAll_21 2 rfl rfl (Nat.le_of_ble_eq_true rfl) rfl rfl ?_
        refine sw_goto (tgt := 4) cx dX4_owedByAll_24 (by decide) ?_
        exact sw_lv [2, 1, 0] rfl (ih (x1 + ((u.1 6) (x2).toNatClampNeg)) (x2 + (1 : Int32)) hf)
  unfold f_X4_owedByAll at hf
  refine sw_iconst (pc' := 1) (v := 0) cx dX4_owedByAll_0 iconst_0 rfl ?_
  refine sw_istore_n (pc' := 2) (i := 1) (lv' := [(1, .int (0 : Int32)), (0, .ref (hm 0))]) cx dX4_owedByAll_1 rfl (Nat.le_of_ble_eq_true rfl) rfl rfl ?_
  refine sw_iconst (pc' := 3) (v := 0) cx dX4_owedByAll_2 iconst_0 rfl ?_
  refine sw_istore_n (pc' := 4) (i := 2) (lv' := [(2, .int (0 : Int32)), (1, .int (0 : Int32)), (0, .ref (hm 0))]) cx dX4_owedByAll_3 rfl (Nat.le_of_ble_eq_true rfl) rfl rfl ?_
  exact sw_lv [2, 1, 0] rfl (B4 1000 (0 : Int32) (0 : Int32) hf)
abbrev rm_X4_highOfAll : Room := ({ frames := 2, cells := 0, slots := 0, locals := 41 } : Room)
set_option maxRecDepth 100000 in
set_option maxHeartbeats 4000000 in
theorem k_X4_highOfAll (l : Launch) (D : sf_D) (hm : Nat → Nat) (kA : Nat) (ka : Nat → Nat) (cI cJ cK cS : ClassId) (u : MtS)  (res : Int32) (hf : f_X4_highOfAll u = some res) : sf_Ct l yX4_highOfAll cX4_highOfAll 3 (some .int) rm_X4_highOfAll D (sf_ty cI cJ cK cS) [.ref (hm 0)] (mt_W hm kA ka cI cK u) (some (.int res)) (mt_W hm kA ka cI cK u) := by
  refine sf_met (lv := [(0, .ref (hm 0))]) (by decide) (Nat.le_of_ble_eq_true rfl) rfl ?_
  intro p e s m args below meth c A Q cx hr hQ
  have cx : sf_Cx p m meth c cX4_highOfAll 3 s args RX4 D (sf_ty cI cJ cK cS) A := cx
  have B27 : ∀ (kk : Int32 → Int32 → Option (Int32)), (∀ (x1 : Int32) (x2 : Int32), kk x1 x2 = some res → sf_W p l e rm_X4_highOfAll s m args below meth c 0 0 Q 3 D A (mt_W hm kA ka cI cK u) [(0, .ref (hm 0)), (1, .int x1), (2, .int x2)] 4 []) → ∀ (x1 : Int32) (x2 : Int32), f_X4_highOfAll_b27 u kk x1 x2 = some res → sf_W p l e rm_X4_highOfAll s m args below meth c 0 0 Q 3 D A (mt_W hm kA ka cI cK u) [(0, .ref (hm 0)), (1, .int x1), (2, .int x2)] 27 [] := by
    intro kk hkk x1 x2 hf
    unfold f_X4_highOfAll_b27 at hf
    refine sw_iinc (pc' := 30) (v := (x2 + (1 : Int32))) (lv' := [(2, .int (x2 + (1 : Int32))), (0, .ref (hm 0)), (1, .int x1)]) cx dX4_highOfAll_27 2 rfl rfl (Nat.le_of_ble_eq_true rfl) rfl rfl ?_
    refine sw_goto (tgt := 4) cx dX4_highOfAll_30 (by decide) ?_
    exact sw_lv [1, 2, 0] rfl (hkk x1 (x2 + (1 : Int32)) hf)
  have B4 : ∀ (n : Nat), ∀ (x1 : Int32) (x2 : Int32), f_X4_highOfAll_b4 u n x1 x2 = some res → sf_W p l e rm_X4_highOfAll s m args below meth c 0 0 Q 3 D A (mt_W hm kA ka cI cK u) [(0, .ref (hm 0)), (1, .int x1), (2, .int x2)] 4 [] := by
    intro n
    induction n with
    | zero => intro x1 x2 hf; rw [f_X4_highOfAll_b4] at hf; cases hf
    | succ n ih =>
      intro x1 x2 hf
      rw [f_X4_highOfAll_b4] at hf
      refine sw_iload_n (pc' := 5) (i := 2) cx dX4_highOfAll_4 rfl 2 rfl rfl ?_
      refine sw_bipush (pc' := 7) (v := 40) cx dX4_highOfAll_5 bipush_40 rfl ?_
      refine sw_icmp_ge (pc' := 10) (tgt := 33) cx dX4_highOfAll_7 (by decide) rfl (fun c1 => ?_) (fun c1 => ?_)
      · replace hf := it_p c1 hf
        refine sw_iload_n (pc' := 34) (i := 1) cx dX4_highOfAll_33 rfl 1 rfl rfl ?_
        obtain rfl := Option.some.inj hf
        exact sw_iret cx hr hQ dX4_highOfAll_34
      · replace hf := it_n c1 hf
        refine sw_aload_n (pc' := 11) (i := 0) cx dX4_highOfAll_10 rfl 0 rfl rfl ?_
        refine sw_iload_n (pc' := 12) (i := 2) cx dX4_highOfAll_11 rfl 2 rfl rfl ?_
        obtain ⟨r2, hr2, hf⟩ := bd_s hf
        refine sw_callVw (pc' := 15) (As := [.int x2]) (rest := []) (w' := (mt_W hm kA ka cI cK u)) cx (k_X4_isWhole l D hm kA ka cI cJ cK cS u x2 r2 hr2) pk_yX4_isWhole ml_RX4_104 ⟨rfl, rfl⟩ ⟨(Nat.le_of_ble_eq_true rfl), (Nat.le_of_ble_eq_true rfl)⟩ ⟨(Nat.le_of_ble_eq_true rfl), (Nat.le_of_ble_eq_true rfl)⟩ 0 rfl rfl rfl rfl (Nat.le_of_ble_eq_true rfl) rfl dX4_highOfAll_12 rfl ?_
        refine sw_if_eq (pc' := 18) (tgt := 27) cx dX4_highOfAll_15 (by decide) rfl (fun c3 => ?_) (fun c3 => ?_)
        · replace hf := it_p c3 hf
          exact sw_lv [0, 1, 2] rfl (B27 _ ih x1 x2 hf)
        · replace hf := it_n c3 hf
          refine sw_iload_n (pc' := 19) (i := 1) cx dX4_highOfAll_18 rfl 1 rfl rfl ?_
          refine sw_aload_n (pc' := 20) (i := 0) cx dX4_highOfAll_19 rfl 0 rfl rfl ?_
          refine sw_get (pc' := 23) cx in_X4 0 rfl rfl 2 (Nat.le_of_ble_eq_true rfl) fl_RX4_15 rfl dX4_highOfAll_20 rfl ?_
          refine sw_iload_n (pc' := 24) (i := 2) cx dX4_highOfAll_23 rfl 2 rfl rfl ?_
          obtain ⟨h4, hf⟩ := gx_s hf
          refine sw_iald (pc' := 25) cx 2 0 rfl rfl h4 dX4_highOfAll_24 rfl ?_
          refine sw_iadd (pc' := 26) cx dX4_highOfAll_25 rfl ?_
          refine sw_istore_n (pc' := 27) (i := 1) (lv' := [(1, .int (x1 + ((u.1 2) (x2).toNatClampNeg))), (0, .ref (hm 0)), (2, .int x2)]) cx dX4_highOfAll_26 rfl (Nat.le_of_ble_eq_true rfl) rfl rfl ?_
          exact sw_lv [1, 0, 2] rfl (B27 _ ih (x1 + ((u.1 2) (x2).toNatClampNeg)) x2 hf)
  unfold f_X4_highOfAll at hf
  refine sw_iconst (pc' := 1) (v := 0) cx dX4_highOfAll_0 iconst_0 rfl ?_
  refine sw_istore_n (pc' := 2) (i := 1) (lv' := [(1, .int (0 : Int32)), (0, .ref (hm 0))]) cx dX4_highOfAll_1 rfl (Nat.le_of_ble_eq_true rfl) rfl rfl ?_
  refine sw_iconst (pc' := 3) (v := 0) cx dX4_highOfAll_2 iconst_0 rfl ?_
  refine sw_istore_n (pc' := 4) (i := 2) (lv' := [(2, .int (0 : Int32)), (1, .int (0 : Int32)), (0, .ref (hm 0))]) cx dX4_highOfAll_3 rfl (Nat.le_of_ble_eq_true rfl) rfl rfl ?_
  exact sw_lv [2, 1, 0] rfl (B4 1000 (0 : Int32) (0 : Int32) hf)
abbrev rm_X4_cut : Room := ({ frames := 0, cells := 0, slots := 0, locals := 0 } : Room)
set_option maxRecDepth 100000 in
set_option maxHeartbeats 4000000 in
theorem k_X4_cut (l : Launch) (D : sf_D) (hm : Nat → Nat) (kA : Nat) (ka : Nat → Nat) (cI cJ cK cS : ClassId) (u : MtS) (a0 : Int32) (a1 : Int32) (a2 : Int32) (res : MtS) (hf : f_X4_cut u a0 a1 a2 = some res) : sf_Ct l yX4_cut cX4_cut 4 none rm_X4_cut D (sf_ty cI cJ cK cS) [.ref (hm 0), .int a0, .int a1, .int a2] (mt_W hm kA ka cI cK u) none (mt_W hm kA ka cI cK res) := by
  refine sf_met (lv := [(0, .ref (hm 0)), (1, .int a0), (2, .int a1), (3, .int a2)]) (by decide) (Nat.le_of_ble_eq_true rfl) rfl ?_
  intro p e s m args below meth c A Q cx hr hQ
  have cx : sf_Cx p m meth c cX4_cut 4 s args RX4 D (sf_ty cI cJ cK cS) A := cx
  unfold f_X4_cut at hf
  refine sw_aload_n (pc' := 1) (i := 0) cx dX4_cut_0 rfl 0 rfl rfl ?_
  refine sw_dup (pc' := 2) cx dX4_cut_1 rfl rfl ?_
  refine sw_get (pc' := 5) cx in_X4 0 rfl rfl 5 (Nat.le_of_ble_eq_true rfl) fl_RX4_62 rfl dX4_cut_2 rfl ?_
  refine sw_lconst (pc' := 6) (v := 1) cx dX4_cut_5 rfl rfl ?_
  refine sw_iload_n (pc' := 7) (i := 1) cx dX4_cut_6 rfl 1 rfl rfl ?_
  refine sw_lshl (pc' := 8) cx dX4_cut_7 rfl ?_
  refine sw_lor (pc' := 9) cx dX4_cut_8 rfl ?_
  refine sw_put (pc' := 12) (ws' := (mt_W hm kA ka cI cK (mt_mk (u.1 0 0) (u.1 0 1) (u.1 0 2) (u.1 0 3) (u.1 0 4) (u.1 1) (u.1 2) (u.1 3) (u.1 4) (u.1 5) (u.1 6) (u.1 7) (u.1 8) (u.1 9) (u.2 ||| ((1 : Int64) <<< ((a0).toInt64 &&& 63)))))) cx in_X4 tyX4 tyX4_ok nmX4 0 rfl rfl 5 (Nat.le_of_ble_eq_true rfl) fl_RX4_62 rfl rfl rfl (Nat.le_of_ble_eq_true rfl) dX4_cut_9 rfl rfl ?_
  refine sw_aload_n (pc' := 13) (i := 0) cx dX4_cut_12 rfl 0 rfl rfl ?_
  refine sw_get (pc' := 16) cx in_X4 0 rfl rfl 2 (Nat.le_of_ble_eq_true rfl) fl_RX4_15 rfl dX4_cut_13 rfl ?_
  refine sw_iload_n (pc' := 17) (i := 1) cx dX4_cut_16 rfl 1 rfl rfl ?_
  refine sw_iload_n (pc' := 18) (i := 2) cx dX4_cut_17 rfl 2 rfl rfl ?_
  obtain ⟨h1, hf⟩ := gx_s hf
  refine sw_iast (pc' := 19) (ws' := (mt_W hm kA ka cI cK (mt_mk (u.1 0 0) (u.1 0 1) (u.1 0 2) (u.1 0 3) (u.1 0 4) (u.1 1) (upd (u.1 2) (a0).toNatClampNeg a1) (u.1 3) (u.1 4) (u.1 5) (u.1 6) (u.1 7) (u.1 8) (u.1 9) (u.2 ||| ((1 : Int64) <<< ((a0).toInt64 &&& 63)))))) cx 2 0 rfl rfl h1 dX4_cut_18 rfl rfl ?_
  refine sw_aload_n (pc' := 20) (i := 0) cx dX4_cut_19 rfl 0 rfl rfl ?_
  refine sw_get (pc' := 23) cx in_X4 0 rfl rfl 3 (Nat.le_of_ble_eq_true rfl) fl_RX4_18 rfl dX4_cut_20 rfl ?_
  refine sw_iload_n (pc' := 24) (i := 1) cx dX4_cut_23 rfl 1 rfl rfl ?_
  refine sw_iload_n (pc' := 25) (i := 3) cx dX4_cut_24 rfl 3 rfl rfl ?_
  obtain ⟨h2, hf⟩ := gx_s hf
  refine sw_iast (pc' := 26) (ws' := (mt_W hm kA ka cI cK (mt_mk (u.1 0 0) (u.1 0 1) (u.1 0 2) (u.1 0 3) (u.1 0 4) (u.1 1) (upd (u.1 2) (a0).toNatClampNeg a1) (upd (u.1 3) (a0).toNatClampNeg a2) (u.1 4) (u.1 5) (u.1 6) (u.1 7) (u.1 8) (u.1 9) (u.2 ||| ((1 : Int64) <<< ((a0).toInt64 &&& 63)))))) cx 3 0 rfl rfl h2 dX4_cut_25 rfl rfl ?_
  refine sw_aload_n (pc' := 27) (i := 0) cx dX4_cut_26 rfl 0 rfl rfl ?_
  refine sw_get (pc' := 30) cx in_X4 0 rfl rfl 4 (Nat.le_of_ble_eq_true rfl) fl_RX4_21 rfl dX4_cut_27 rfl ?_
  refine sw_iload_n (pc' := 31) (i := 1) cx dX4_cut_30 rfl 1 rfl rfl ?_
  refine sw_aload_n (pc' := 32) (i := 0) cx dX4_cut_31 rfl 0 rfl rfl ?_
  refine sw_get (pc' := 35) cx in_X4 0 rfl rfl 6 (Nat.le_of_ble_eq_true rfl) fl_RX4_66 rfl dX4_cut_32 rfl ?_
  obtain ⟨h3, hf⟩ := gx_s hf
  refine sw_iast (pc' := 36) (ws' := (mt_W hm kA ka cI cK (mt_mk (u.1 0 0) (u.1 0 1) (u.1 0 2) (u.1 0 3) (u.1 0 4) (u.1 1) (upd (u.1 2) (a0).toNatClampNeg a1) (upd (u.1 3) (a0).toNatClampNeg a2) (upd (u.1 4) (a0).toNatClampNeg (u.1 0 0)) (u.1 5) (u.1 6) (u.1 7) (u.1 8) (u.1 9) (u.2 ||| ((1 : Int64) <<< ((a0).toInt64 &&& 63)))))) cx 4 0 rfl rfl h3 dX4_cut_35 rfl rfl ?_
  obtain rfl := Option.some.inj hf
  exact sw_vret cx hr hQ dX4_cut_36
abbrev rm_X4_breakUp : Room := ({ frames := 0, cells := 0, slots := 0, locals := 0 } : Room)
set_option maxRecDepth 100000 in
set_option maxHeartbeats 4000000 in
theorem k_X4_breakUp (l : Launch) (D : sf_D) (hm : Nat → Nat) (kA : Nat) (ka : Nat → Nat) (cI cJ cK cS : ClassId) (u : MtS) (a0 : Int32) (res : MtS) (hf : f_X4_breakUp u a0 = some res) : sf_Ct l yX4_breakUp cX4_breakUp 2 none rm_X4_breakUp D (sf_ty cI cJ cK cS) [.ref (hm 0), .int a0] (mt_W hm kA ka cI cK u) none (mt_W hm kA ka cI cK res) := by
  refine sf_met (lv := [(0, .ref (hm 0)), (1, .int a0)]) (by decide) (Nat.le_of_ble_eq_true rfl) rfl ?_
  intro p e s m args below meth c A Q cx hr hQ
  have cx : sf_Cx p m meth c cX4_breakUp 2 s args RX4 D (sf_ty cI cJ cK cS) A := cx
  unfold f_X4_breakUp at hf
  refine sw_aload_n (pc' := 1) (i := 0) cx dX4_breakUp_0 rfl 0 rfl rfl ?_
  refine sw_dup (pc' := 2) cx dX4_breakUp_1 rfl rfl ?_
  refine sw_get (pc' := 5) cx in_X4 0 rfl rfl 5 (Nat.le_of_ble_eq_true rfl) fl_RX4_62 rfl dX4_breakUp_2 rfl ?_
  refine sw_lconst (pc' := 6) (v := 1) cx dX4_breakUp_5 rfl rfl ?_
  refine sw_iload_n (pc' := 7) (i := 1) cx dX4_breakUp_6 rfl 1 rfl rfl ?_
  refine sw_lshl (pc' := 8) cx dX4_breakUp_7 rfl ?_
  refine sw_ldc2_w (pc' := 11) cx cl_RX4_113 dX4_breakUp_8 rfl ?_
  refine sw_lxor (pc' := 12) cx dX4_breakUp_11 rfl ?_
  refine sw_land (pc' := 13) cx dX4_breakUp_12 rfl ?_
  refine sw_put (pc' := 16) (ws' := (mt_W hm kA ka cI cK (mt_mk (u.1 0 0) (u.1 0 1) (u.1 0 2) (u.1 0 3) (u.1 0 4) (u.1 1) (u.1 2) (u.1 3) (u.1 4) (u.1 5) (u.1 6) (u.1 7) (u.1 8) (u.1 9) (u.2 &&& (((1 : Int64) <<< ((a0).toInt64 &&& 63)) ^^^ (-1 : Int64)))))) cx in_X4 tyX4 tyX4_ok nmX4 0 rfl rfl 5 (Nat.le_of_ble_eq_true rfl) fl_RX4_62 rfl rfl rfl (Nat.le_of_ble_eq_true rfl) dX4_breakUp_13 rfl rfl ?_
  obtain rfl := Option.some.inj hf
  exact sw_vret cx hr hQ dX4_breakUp_16
abbrev rm_X4_isPair : Room := ({ frames := 2, cells := 0, slots := 0, locals := 41 } : Room)
set_option maxRecDepth 100000 in
set_option maxHeartbeats 4000000 in
theorem k_X4_isPair (l : Launch) (D : sf_D) (hm : Nat → Nat) (kA : Nat) (ka : Nat → Nat) (cI cJ cK cS : ClassId) (u : MtS) (a0 : Int32) (res : Int32) (hf : f_X4_isPair u a0 = some res) : sf_Ct l yX4_isPair cX4_isPair 2 (some .boolean) rm_X4_isPair D (sf_ty cI cJ cK cS) [.ref (hm 0), .int a0] (mt_W hm kA ka cI cK u) (some (.int res)) (mt_W hm kA ka cI cK u) := by
  refine sf_met (lv := [(0, .ref (hm 0)), (1, .int a0)]) (by decide) (Nat.le_of_ble_eq_true rfl) rfl ?_
  intro p e s m args below meth c A Q cx hr hQ
  have cx : sf_Cx p m meth c cX4_isPair 2 s args RX4 D (sf_ty cI cJ cK cS) A := cx
  unfold f_X4_isPair at hf
  refine sw_aload_n (pc' := 1) (i := 0) cx dX4_isPair_0 rfl 0 rfl rfl ?_
  refine sw_iload_n (pc' := 2) (i := 1) cx dX4_isPair_1 rfl 1 rfl rfl ?_
  obtain ⟨r1, hr1, hf⟩ := bd_s hf
  refine sw_callVw (pc' := 5) (As := [.int a0]) (rest := []) (w' := (mt_W hm kA ka cI cK u)) cx (k_X4_isWhole l D hm kA ka cI cJ cK cS u a0 r1 hr1) pk_yX4_isWhole ml_RX4_104 ⟨rfl, rfl⟩ ⟨(Nat.le_of_ble_eq_true rfl), (Nat.le_of_ble_eq_true rfl)⟩ ⟨(Nat.le_of_ble_eq_true rfl), (Nat.le_of_ble_eq_true rfl)⟩ 0 rfl rfl rfl rfl (Nat.le_of_ble_eq_true rfl) rfl dX4_isPair_2 rfl ?_
  refine sw_if_eq (pc' := 8) (tgt := 22) cx dX4_isPair_5 (by decide) rfl (fun c2 => ?_) (fun c2 => ?_)
  · replace hf := it_p c2 hf
    refine sw_iconst (pc' := 23) (v := 0) cx dX4_isPair_22 iconst_0 rfl ?_
    obtain rfl := Option.some.inj hf
    exact sw_zret cx hr (by decide +kernel) hQ dX4_isPair_23
  · replace hf := it_n c2 hf
    refine sw_aload_n (pc' := 9) (i := 0) cx dX4_isPair_8 rfl 0 rfl rfl ?_
    refine sw_iload_n (pc' := 10) (i := 1) cx dX4_isPair_9 rfl 1 rfl rfl ?_
    refine sw_iconst (pc' := 11) (v := 1) cx dX4_isPair_10 iconst_1 rfl ?_
    refine sw_isub (pc' := 12) cx dX4_isPair_11 rfl ?_
    obtain ⟨r3, hr3, hf⟩ := bd_s hf
    refine sw_callVw (pc' := 15) (As := [.int (a0 - (1 : Int32))]) (rest := []) (w' := (mt_W hm kA ka cI cK u)) cx (k_X4_isWhole l D hm kA ka cI cJ cK cS u (a0 - (1 : Int32)) r3 hr3) pk_yX4_isWhole ml_RX4_104 ⟨rfl, rfl⟩ ⟨(Nat.le_of_ble_eq_true rfl), (Nat.le_of_ble_eq_true rfl)⟩ ⟨(Nat.le_of_ble_eq_true rfl), (Nat.le_of_ble_eq_true rfl)⟩ 0 rfl rfl rfl rfl (Nat.le_of_ble_eq_true rfl) rfl dX4_isPair_12 rfl ?_
    refine sw_if_eq (pc' := 18) (tgt := 22) cx dX4_isPair_15 (by decide) rfl (fun c4 => ?_) (fun c4 => ?_)
    · replace hf := it_p c4 hf
      refine sw_iconst (pc' := 23) (v := 0) cx dX4_isPair_22 iconst_0 rfl ?_
      obtain rfl := Option.some.inj hf
      exact sw_zret cx hr (by decide +kernel) hQ dX4_isPair_23
    · replace hf := it_n c4 hf
      refine sw_iconst (pc' := 19) (v := 1) cx dX4_isPair_18 iconst_1 rfl ?_
      refine sw_goto (tgt := 23) cx dX4_isPair_19 (by decide) ?_
      obtain rfl := Option.some.inj hf
      exact sw_zret cx hr (by decide +kernel) hQ dX4_isPair_23
abbrev rm_X4_isMet : Room := ({ frames := 1, cells := 0, slots := 0, locals := 21 } : Room)
set_option maxRecDepth 100000 in
set_option maxHeartbeats 4000000 in
theorem k_X4_isMet (l : Launch) (D : sf_D) (hm : Nat → Nat) (kA : Nat) (ka : Nat → Nat) (cI cJ cK cS : ClassId) (u : MtS) (a0 : Int32) (a1 : Int32) (res : Int32) (hf : f_X4_isMet u a0 a1 = some res) : sf_Ct l yX4_isMet cX4_isMet 3 (some .boolean) rm_X4_isMet D (sf_ty cI cJ cK cS) [.ref (hm 0), .int a0, .int a1] (mt_W hm kA ka cI cK u) (some (.int res)) (mt_W hm kA ka cI cK u) := by
  refine sf_met (lv := [(0, .ref (hm 0)), (1, .int a0), (2, .int a1)]) (by decide) (Nat.le_of_ble_eq_true rfl) rfl ?_
  intro p e s m args below meth c A Q cx hr hQ
  have cx : sf_Cx p m meth c cX4_isMet 3 s args RX4 D (sf_ty cI cJ cK cS) A := cx
  unfold f_X4_isMet at hf
  refine sw_aload_n (pc' := 1) (i := 0) cx dX4_isMet_0 rfl 0 rfl rfl ?_
  refine sw_get (pc' := 4) cx in_X4 0 rfl rfl 2 (Nat.le_of_ble_eq_true rfl) fl_RX4_15 rfl dX4_isMet_1 rfl ?_
  refine sw_iload_n (pc' := 5) (i := 1) cx dX4_isMet_4 rfl 1 rfl rfl ?_
  obtain ⟨h1, hf⟩ := gx_s hf
  refine sw_iald (pc' := 6) cx 2 0 rfl rfl h1 dX4_isMet_5 rfl ?_
  refine sw_aload_n (pc' := 7) (i := 0) cx dX4_isMet_6 rfl 0 rfl rfl ?_
  refine sw_get (pc' := 10) cx in_X4 0 rfl rfl 2 (Nat.le_of_ble_eq_true rfl) fl_RX4_15 rfl dX4_isMet_7 rfl ?_
  refine sw_iload_n (pc' := 11) (i := 1) cx dX4_isMet_10 rfl 1 rfl rfl ?_
  refine sw_iconst (pc' := 12) (v := 1) cx dX4_isMet_11 iconst_1 rfl ?_
  refine sw_isub (pc' := 13) cx dX4_isMet_12 rfl ?_
  obtain ⟨h2, hf⟩ := gx_s hf
  refine sw_iald (pc' := 14) cx 2 0 rfl rfl h2 dX4_isMet_13 rfl ?_
  refine sw_isub (pc' := 15) cx dX4_isMet_14 rfl ?_
  refine sw_mabs (pc' := 18) cx ml_RX4_115 stat_Lib_Math_abs_name ini_RJ9 code_Lib_Math_abs_name (Nat.le_of_ble_eq_true rfl) (Nat.le_of_ble_eq_true rfl) ⟨(Nat.le_of_ble_eq_true rfl), (Nat.le_of_ble_eq_true rfl)⟩ dX4_isMet_15 rfl ?_
  refine sw_iload_n (pc' := 19) (i := 2) cx dX4_isMet_18 rfl 2 rfl rfl ?_
  refine sw_icmp_gt (pc' := 22) (tgt := 26) cx dX4_isMet_19 (by decide) rfl (fun c3 => ?_) (fun c3 => ?_)
  · replace hf := it_p c3 hf
    refine sw_iconst (pc' := 27) (v := 0) cx dX4_isMet_26 iconst_0 rfl ?_
    obtain rfl := Option.some.inj hf
    exact sw_zret cx hr (by decide +kernel) hQ dX4_isMet_27
  · replace hf := it_n c3 hf
    refine sw_iconst (pc' := 23) (v := 1) cx dX4_isMet_22 iconst_1 rfl ?_
    refine sw_goto (tgt := 27) cx dX4_isMet_23 (by decide) ?_
    obtain rfl := Option.some.inj hf
    exact sw_zret cx hr (by decide +kernel) hQ dX4_isMet_27
abbrev rm_X4_climbWith : Room := ({ frames := 2, cells := 0, slots := 0, locals := 43 } : Room)
set_option maxRecDepth 100000 in
set_option maxHeartbeats 4000000 in
theorem k_X4_climbWith (l : Launch) (D : sf_D) (hm : Nat → Nat) (kA : Nat) (ka : Nat → Nat) (cI cJ cK cS : ClassId) (u : MtS) (a0 : Int32) (res : Int32) (hf : f_X4_climbWith u a0 = some res) : sf_Ct l yX4_climbWith cX4_climbWith 3 (some .int) rm_X4_climbWith D (sf_ty cI cJ cK cS) [.ref (hm 0), .int a0] (mt_W hm kA ka cI cK u) (some (.int res)) (mt_W hm kA ka cI cK u) := by
  refine sf_met (lv := [(0, .ref (hm 0)), (1, .int a0)]) (by decide) (Nat.le_of_ble_eq_true rfl) rfl ?_
  intro p e s m args below meth c A Q cx hr hQ
  have cx : sf_Cx p m meth c cX4_climbWith 3 s args RX4 D (sf_ty cI cJ cK cS) A := cx
  have B12 : ∀ (n : Nat), ∀ (x1 : Int32) (x2 : Int32), f_X4_climbWith_b12 u n x1 x2 = some res → sf_W p l e rm_X4_climbWith s m args below meth c 0 0 Q 3 D A (mt_W hm kA ka cI cK u) [(0, .ref (hm 0)), (1, .int x1), (2, .int x2)] 12 [] := by
    intro n
    induction n with
    | zero => intro x1 x2 hf; rw [f_X4_climbWith_b12] at hf; cases hf
    | succ n ih =>
      intro x1 x2 hf
      rw [f_X4_climbWith_b12] at hf
      refine sw_iload_n (pc' := 13) (i := 2) cx dX4_climbWith_12 rfl 2 rfl rfl ?_
      refine sw_bipush (pc' := 15) (v := 40) cx dX4_climbWith_13 bipush_40 rfl ?_
      refine sw_icmp_ge (pc' := 18) (tgt := 41) cx dX4_climbWith_15 (by decide) rfl (fun c3 => ?_) (fun c3 => ?_)
      · replace hf := it_p c3 hf
        refine sw_iload_n (pc' := 42) (i := 2) cx dX4_climbWith_41 rfl 2 rfl rfl ?_
        obtain rfl := Option.some.inj hf
        exact sw_iret cx hr hQ dX4_climbWith_42
      · replace hf := it_n c3 hf
        refine sw_aload_n (pc' := 19) (i := 0) cx dX4_climbWith_18 rfl 0 rfl rfl ?_
        refine sw_iload_n (pc' := 20) (i := 2) cx dX4_climbWith_19 rfl 2 rfl rfl ?_
        obtain ⟨r4, hr4, hf⟩ := bd_s hf
        refine sw_callVw (pc' := 23) (As := [.int x2]) (rest := []) (w' := (mt_W hm kA ka cI cK u)) cx (k_X4_isWhole l D hm kA ka cI cJ cK cS u x2 r4 hr4) pk_yX4_isWhole ml_RX4_104 ⟨rfl, rfl⟩ ⟨(Nat.le_of_ble_eq_true rfl), (Nat.le_of_ble_eq_true rfl)⟩ ⟨(Nat.le_of_ble_eq_true rfl), (Nat.le_of_ble_eq_true rfl)⟩ 0 rfl rfl rfl rfl (Nat.le_of_ble_eq_true rfl) rfl dX4_climbWith_20 rfl ?_
        refine sw_if_eq (pc' := 26) (tgt := 41) cx dX4_climbWith_23 (by decide) rfl (fun c5 => ?_) (fun c5 => ?_)
        · replace hf := it_p c5 hf
          refine sw_iload_n (pc' := 42) (i := 2) cx dX4_climbWith_41 rfl 2 rfl rfl ?_
          obtain rfl := Option.some.inj hf
          exact sw_iret cx hr hQ dX4_climbWith_42
        · replace hf := it_n c5 hf
          refine sw_aload_n (pc' := 27) (i := 0) cx dX4_climbWith_26 rfl 0 rfl rfl ?_
          refine sw_iload_n (pc' := 28) (i := 2) cx dX4_climbWith_27 rfl 2 rfl rfl ?_
          refine sw_iload_n (pc' := 29) (i := 1) cx dX4_climbWith_28 rfl 1 rfl rfl ?_
          obtain ⟨r6, hr6, hf⟩ := bd_s hf
          refine sw_callVw (pc' := 32) (As := [.int x2, .int x1]) (rest := []) (w' := (mt_W hm kA ka cI cK u)) cx (k_X4_isMet l D hm kA ka cI cJ cK cS u x2 x1 r6 hr6) pk_yX4_isMet ml_RX4_123 ⟨rfl, rfl⟩ ⟨(Nat.le_of_ble_eq_true rfl), (Nat.le_of_ble_eq_true rfl)⟩ ⟨(Nat.le_of_ble_eq_true rfl), (Nat.le_of_ble_eq_true rfl)⟩ 0 rfl rfl rfl rfl (Nat.le_of_ble_eq_true rfl) rfl dX4_climbWith_29 rfl ?_
          refine sw_if_eq (pc' := 35) (tgt := 41) cx dX4_climbWith_32 (by decide) rfl (fun c7 => ?_) (fun c7 => ?_)
          · replace hf := it_p c7 hf
            refine sw_iload_n (pc' := 42) (i := 2) cx dX4_climbWith_41 rfl 2 rfl rfl ?_
            obtain rfl := Option.some.inj hf
            exact sw_iret cx hr hQ dX4_climbWith_42
          · replace hf := it_n c7 hf
            refine sw_iinc (pc' := 38) (v := (x2 + (1 : Int32))) (lv' := [(2, .int (x2 + (1 : Int32))), (0, .ref (hm 0)), (1, .int x1)]) cx dX4_climbWith_35 2 rfl rfl (Nat.le_of_ble_eq_true rfl) rfl rfl ?_
            refine sw_goto (tgt := 12) cx dX4_climbWith_38 (by decide) ?_
            exact sw_lv [1, 2, 0] rfl (ih x1 (x2 + (1 : Int32)) hf)
  unfold f_X4_climbWith at hf
  refine sw_aload_n (pc' := 1) (i := 0) cx dX4_climbWith_0 rfl 0 rfl rfl ?_
  refine sw_iconst (pc' := 2) (v := 0) cx dX4_climbWith_1 iconst_0 rfl ?_
  obtain ⟨r1, hr1, hf⟩ := bd_s hf
  refine sw_callVw (pc' := 5) (As := [.int (0 : Int32)]) (rest := []) (w' := (mt_W hm kA ka cI cK u)) cx (k_X4_isWhole l D hm kA ka cI cJ cK cS u (0 : Int32) r1 hr1) pk_yX4_isWhole ml_RX4_104 ⟨rfl, rfl⟩ ⟨(Nat.le_of_ble_eq_true rfl), (Nat.le_of_ble_eq_true rfl)⟩ ⟨(Nat.le_of_ble_eq_true rfl), (Nat.le_of_ble_eq_true rfl)⟩ 0 rfl rfl rfl rfl (Nat.le_of_ble_eq_true rfl) rfl dX4_climbWith_2 rfl ?_
  refine sw_if_ne (pc' := 8) (tgt := 10) cx dX4_climbWith_5 (by decide) rfl (fun c2 => ?_) (fun c2 => ?_)
  · replace hf := it_n c2 hf
    refine sw_iconst (pc' := 11) (v := 1) cx dX4_climbWith_10 iconst_1 rfl ?_
    refine sw_istore_n (pc' := 12) (i := 2) (lv' := [(2, .int (1 : Int32)), (0, .ref (hm 0)), (1, .int a0)]) cx dX4_climbWith_11 rfl (Nat.le_of_ble_eq_true rfl) rfl rfl ?_
    exact sw_lv [1, 2, 0] rfl (B12 1000 a0 (1 : Int32) hf)
  · replace hf := it_p c2 hf
    refine sw_iconst (pc' := 9) (v := 0) cx dX4_climbWith_8 iconst_0 rfl ?_
    obtain rfl := Option.some.inj hf
    exact sw_iret cx hr hQ dX4_climbWith_9
abbrev rm_X4_climb : Room := ({ frames := 3, cells := 0, slots := 0, locals := 65 } : Room)
set_option maxRecDepth 100000 in
set_option maxHeartbeats 4000000 in
theorem k_X4_climb (l : Launch) (D : sf_D) (hm : Nat → Nat) (kA : Nat) (ka : Nat → Nat) (cI cJ cK cS : ClassId) (u : MtS)  (res : Int32) (hf : f_X4_climb u = some res) : sf_Ct l yX4_climb cX4_climb 1 (some .int) rm_X4_climb D (sf_ty cI cJ cK cS) [.ref (hm 0)] (mt_W hm kA ka cI cK u) (some (.int res)) (mt_W hm kA ka cI cK u) := by
  refine sf_met (lv := [(0, .ref (hm 0))]) (by decide) (Nat.le_of_ble_eq_true rfl) rfl ?_
  intro p e s m args below meth c A Q cx hr hQ
  have cx : sf_Cx p m meth c cX4_climb 1 s args RX4 D (sf_ty cI cJ cK cS) A := cx
  unfold f_X4_climb at hf
  refine sw_aload_n (pc' := 1) (i := 0) cx dX4_climb_0 rfl 0 rfl rfl ?_
  refine sw_aload_n (pc' := 2) (i := 0) cx dX4_climb_1 rfl 0 rfl rfl ?_
  refine sw_get (pc' := 5) cx in_X4 0 rfl rfl 8 (Nat.le_of_ble_eq_true rfl) fl_RX4_24 rfl dX4_climb_2 rfl ?_
  obtain ⟨r1, hr1, hf⟩ := bd_s hf
  refine sw_callVw (pc' := 8) (As := [.int (u.1 0 2)]) (rest := []) (w' := (mt_W hm kA ka cI cK u)) cx (k_X4_climbWith l D hm kA ka cI cJ cK cS u (u.1 0 2) r1 hr1) pk_yX4_climbWith ml_RX4_120 ⟨rfl, rfl⟩ ⟨(Nat.le_of_ble_eq_true rfl), (Nat.le_of_ble_eq_true rfl)⟩ ⟨(Nat.le_of_ble_eq_true rfl), (Nat.le_of_ble_eq_true rfl)⟩ 0 rfl rfl rfl rfl (Nat.le_of_ble_eq_true rfl) rfl dX4_climb_5 rfl ?_
  obtain rfl := Option.some.inj hf
  exact sw_iret cx hr hQ dX4_climb_8
abbrev rm_X4_isAtRest : Room := ({ frames := 1, cells := 0, slots := 0, locals := 22 } : Room)
set_option maxRecDepth 100000 in
set_option maxHeartbeats 4000000 in
theorem k_X4_isAtRest (l : Launch) (D : sf_D) (hm : Nat → Nat) (kA : Nat) (ka : Nat → Nat) (cI cJ cK cS : ClassId) (u : MtS)  (res : Int32) (hf : f_X4_isAtRest u = some res) : sf_Ct l yX4_isAtRest cX4_isAtRest 3 (some .boolean) rm_X4_isAtRest D (sf_ty cI cJ cK cS) [.ref (hm 0)] (mt_W hm kA ka cI cK u) (some (.int res)) (mt_W hm kA ka cI cK u) := by
  refine sf_met (lv := [(0, .ref (hm 0))]) (by decide) (Nat.le_of_ble_eq_true rfl) rfl ?_
  intro p e s m args below meth c A Q cx hr hQ
  have cx : sf_Cx p m meth c cX4_isAtRest 3 s args RX4 D (sf_ty cI cJ cK cS) A := cx
  have B45 : ∀ (x1 : Int32) (s0 : Int32), f_X4_isAtRest_b45 u x1 s0 = some res → sf_W p l e rm_X4_isAtRest s m args below meth c 0 0 Q 3 D A (mt_W hm kA ka cI cK u) [(1, .int x1)] 45 [.int s0] := by
    intro x1 s0 hf
    unfold f_X4_isAtRest_b45 at hf
    refine sw_istore_n (pc' := 46) (i := 2) (lv' := [(2, .int s0), (1, .int x1)]) cx dX4_isAtRest_45 rfl (Nat.le_of_ble_eq_true rfl) rfl rfl ?_
    refine sw_iload_n (pc' := 47) (i := 1) cx dX4_isAtRest_46 rfl 1 rfl rfl ?_
    refine sw_if_ne (pc' := 50) (tgt := 58) cx dX4_isAtRest_47 (by decide) rfl (fun c6 => ?_) (fun c6 => ?_)
    · replace hf := it_n c6 hf
      refine sw_iconst (pc' := 59) (v := 0) cx dX4_isAtRest_58 iconst_0 rfl ?_
      obtain rfl := Option.some.inj hf
      exact sw_zret cx hr (by decide +kernel) hQ dX4_isAtRest_59
    · replace hf := it_p c6 hf
      refine sw_iload_n (pc' := 51) (i := 2) cx dX4_isAtRest_50 rfl 0 rfl rfl ?_
      refine sw_if_ne (pc' := 54) (tgt := 58) cx dX4_isAtRest_51 (by decide) rfl (fun c7 => ?_) (fun c7 => ?_)
      · replace hf := it_n c7 hf
        refine sw_iconst (pc' := 59) (v := 0) cx dX4_isAtRest_58 iconst_0 rfl ?_
        obtain rfl := Option.some.inj hf
        exact sw_zret cx hr (by decide +kernel) hQ dX4_isAtRest_59
      · replace hf := it_p c7 hf
        refine sw_iconst (pc' := 55) (v := 1) cx dX4_isAtRest_54 iconst_1 rfl ?_
        refine sw_goto (tgt := 59) cx dX4_isAtRest_55 (by decide) ?_
        obtain rfl := Option.some.inj hf
        exact sw_zret cx hr (by decide +kernel) hQ dX4_isAtRest_59
  have B44 : ∀ (x1 : Int32), f_X4_isAtRest_b44 u x1 = some res → sf_W p l e rm_X4_isAtRest s m args below meth c 0 0 Q 3 D A (mt_W hm kA ka cI cK u) [(1, .int x1)] 44 [] := by
    intro x1 hf
    unfold f_X4_isAtRest_b44 at hf
    refine sw_iconst (pc' := 45) (v := 0) cx dX4_isAtRest_44 iconst_0 rfl ?_
    exact sw_lv [0] rfl (B45 x1 (0 : Int32) hf)
  have B23 : ∀ (s0 : Int32), f_X4_isAtRest_b23 u s0 = some res → sf_W p l e rm_X4_isAtRest s m args below meth c 0 0 Q 3 D A (mt_W hm kA ka cI cK u) [(0, .ref (hm 0))] 23 [.int s0] := by
    intro s0 hf
    unfold f_X4_isAtRest_b23 at hf
    refine sw_istore_n (pc' := 24) (i := 1) (lv' := [(1, .int s0), (0, .ref (hm 0))]) cx dX4_isAtRest_23 rfl (Nat.le_of_ble_eq_true rfl) rfl rfl ?_
    refine sw_aload_n (pc' := 25) (i := 0) cx dX4_isAtRest_24 rfl 1 rfl rfl ?_
    refine sw_get (pc' := 28) cx in_X4 0 rfl rfl 5 (Nat.le_of_ble_eq_true rfl) fl_RX4_62 rfl dX4_isAtRest_25 rfl ?_
    refine sw_lconst (pc' := 29) (v := 0) cx dX4_isAtRest_28 rfl rfl ?_
    refine sw_lcmp (pc' := 30) cx dX4_isAtRest_29 rfl ?_
    refine sw_if_eq (pc' := 33) (tgt := 44) cx dX4_isAtRest_30 (by decide) rfl (fun c4 => ?_) (fun c4 => ?_)
    · replace hf := it_p c4 hf
      exact sw_lv [0] rfl (B44 s0 hf)
    · replace hf := it_n c4 hf
      refine sw_aload_n (pc' := 34) (i := 0) cx dX4_isAtRest_33 rfl 1 rfl rfl ?_
      refine sw_get (pc' := 37) cx in_X4 0 rfl rfl 7 (Nat.le_of_ble_eq_true rfl) fl_RX4_69 rfl dX4_isAtRest_34 rfl ?_
      refine sw_if_le (pc' := 40) (tgt := 44) cx dX4_isAtRest_37 (by decide) rfl (fun c5 => ?_) (fun c5 => ?_)
      · replace hf := it_p c5 hf
        exact sw_lv [0] rfl (B44 s0 hf)
      · replace hf := it_n c5 hf
        refine sw_iconst (pc' := 41) (v := 1) cx dX4_isAtRest_40 iconst_1 rfl ?_
        refine sw_goto (tgt := 45) cx dX4_isAtRest_41 (by decide) ?_
        exact sw_lv [0] rfl (B45 s0 (1 : Int32) hf)
  have B22 : f_X4_isAtRest_b22 u  = some res → sf_W p l e rm_X4_isAtRest s m args below meth c 0 0 Q 3 D A (mt_W hm kA ka cI cK u) [(0, .ref (hm 0))] 22 [] := by
    intro  hf
    unfold f_X4_isAtRest_b22 at hf
    refine sw_iconst (pc' := 23) (v := 0) cx dX4_isAtRest_22 iconst_0 rfl ?_
    exact sw_lv [0] rfl (B23 (0 : Int32) hf)
  unfold f_X4_isAtRest at hf
  refine sw_aload_n (pc' := 1) (i := 0) cx dX4_isAtRest_0 rfl 0 rfl rfl ?_
  refine sw_get (pc' := 4) cx in_X4 0 rfl rfl 5 (Nat.le_of_ble_eq_true rfl) fl_RX4_62 rfl dX4_isAtRest_1 rfl ?_
  refine sw_ldc2_w (pc' := 7) cx cl_RX4_133 dX4_isAtRest_4 rfl ?_
  refine sw_lcmp (pc' := 8) cx dX4_isAtRest_7 rfl ?_
  refine sw_if_eq (pc' := 11) (tgt := 22) cx dX4_isAtRest_8 (by decide) rfl (fun c1 => ?_) (fun c1 => ?_)
  · replace hf := it_p c1 hf
    exact sw_lv [0] rfl (B22  hf)
  · replace hf := it_n c1 hf
    refine sw_aload_n (pc' := 12) (i := 0) cx dX4_isAtRest_11 rfl 0 rfl rfl ?_
    obtain ⟨r2, hr2, hf⟩ := bd_s hf
    refine sw_callVw (pc' := 15) (As := []) (rest := []) (w' := (mt_W hm kA ka cI cK u)) cx (k_X4_owedByAll l D hm kA ka cI cJ cK cS u  r2 hr2) pk_yX4_owedByAll ml_RX4_135 ⟨rfl, rfl⟩ ⟨(Nat.le_of_ble_eq_true rfl), (Nat.le_of_ble_eq_true rfl)⟩ ⟨(Nat.le_of_ble_eq_true rfl), (Nat.le_of_ble_eq_true rfl)⟩ 0 rfl rfl rfl rfl (Nat.le_of_ble_eq_true rfl) rfl dX4_isAtRest_12 rfl ?_
    refine sw_if_le (pc' := 18) (tgt := 22) cx dX4_isAtRest_15 (by decide) rfl (fun c3 => ?_) (fun c3 => ?_)
    · replace hf := it_p c3 hf
      exact sw_lv [0] rfl (B22  hf)
    · replace hf := it_n c3 hf
      refine sw_iconst (pc' := 19) (v := 1) cx dX4_isAtRest_18 iconst_1 rfl ?_
      refine sw_goto (tgt := 23) cx dX4_isAtRest_19 (by decide) ?_
      exact sw_lv [0] rfl (B23 (1 : Int32) hf)
abbrev rm_X4_goOn : Room := ({ frames := 2, cells := 0, slots := 0, locals := 41 } : Room)
set_option maxRecDepth 100000 in
set_option maxHeartbeats 4000000 in
theorem k_X4_goOn (l : Launch) (D : sf_D) (hm : Nat → Nat) (kA : Nat) (ka : Nat → Nat) (cI cJ cK cS : ClassId) (u : MtS) (a0 : Int32) (res : MtS) (hf : f_X4_goOn u a0 = some res) : sf_Ct l yX4_goOn cX4_goOn 3 none rm_X4_goOn D (sf_ty cI cJ cK cS) [.ref (hm 0), .int a0] (mt_W hm kA ka cI cK u) none (mt_W hm kA ka cI cK res) := by
  refine sf_met (lv := [(0, .ref (hm 0)), (1, .int a0)]) (by decide) (Nat.le_of_ble_eq_true rfl) rfl ?_
  intro p e s m args below meth c A Q cx hr hQ
  have cx : sf_Cx p m meth c cX4_goOn 3 s args RX4 D (sf_ty cI cJ cK cS) A := cx
  have B46 : ∀ (kk : MtS → Int32 → Int32 → Option (MtS)), (∀ (u : MtS) (x1 : Int32) (x2 : Int32), kk u x1 x2 = some res → sf_W p l e rm_X4_goOn s m args below meth c 0 0 Q 3 D A (mt_W hm kA ka cI cK u) [(0, .ref (hm 0)), (1, .int x1), (2, .int x2)] 2 []) → ∀ (u : MtS) (x1 : Int32) (x2 : Int32) (s0 : Int32) (s1 : Int32), f_X4_goOn_b46 kk u x1 x2 s0 s1 = some res → sf_W p l e rm_X4_goOn s m args below meth c 0 0 Q 3 D A (mt_W hm kA ka cI cK u) [(0, .ref (hm 0)), (1, .int x1), (2, .int x2)] 46 [.int s0, .int s1, .ref (hm 0)] := by
    intro kk hkk u x1 x2 s0 s1 hf
    unfold f_X4_goOn_b46 at hf
    obtain ⟨r8, hr8, hf⟩ := bd_s hf
    refine sw_callVw (pc' := 49) (As := [.int s1, .int s0]) (rest := []) (w' := (mt_W hm kA ka cI cK r8)) cx (k_X4_moveFine l D hm kA ka cI cJ cK cS u s1 s0 r8 hr8) pk_yX4_moveFine ml_RX4_149 ⟨rfl, rfl⟩ ⟨(Nat.le_of_ble_eq_true rfl), (Nat.le_of_ble_eq_true rfl)⟩ ⟨(Nat.le_of_ble_eq_true rfl), (Nat.le_of_ble_eq_true rfl)⟩ 0 rfl rfl rfl rfl (Nat.le_of_ble_eq_true rfl) rfl dX4_goOn_46 rfl ?_
    refine sw_iinc (pc' := 52) (v := (x2 + (1 : Int32))) (lv' := [(2, .int (x2 + (1 : Int32))), (0, .ref (hm 0)), (1, .int x1)]) cx dX4_goOn_49 2 rfl rfl (Nat.le_of_ble_eq_true rfl) rfl rfl ?_
    refine sw_goto (tgt := 2) cx dX4_goOn_52 (by decide) ?_
    exact sw_lv [1, 2, 0] rfl (hkk r8 x1 (x2 + (1 : Int32)) hf)
  have B2 : ∀ (n : Nat), ∀ (u : MtS) (x1 : Int32) (x2 : Int32), f_X4_goOn_b2 n u x1 x2 = some res → sf_W p l e rm_X4_goOn s m args below meth c 0 0 Q 3 D A (mt_W hm kA ka cI cK u) [(0, .ref (hm 0)), (1, .int x1), (2, .int x2)] 2 [] := by
    intro n
    induction n with
    | zero => intro u x1 x2 hf; rw [f_X4_goOn_b2] at hf; cases hf
    | succ n ih =>
      intro u x1 x2 hf
      rw [f_X4_goOn_b2] at hf
      refine sw_iload_n (pc' := 3) (i := 2) cx dX4_goOn_2 rfl 2 rfl rfl ?_
      refine sw_bipush (pc' := 5) (v := 40) cx dX4_goOn_3 bipush_40 rfl ?_
      refine sw_icmp_ge (pc' := 8) (tgt := 55) cx dX4_goOn_5 (by decide) rfl (fun c1 => ?_) (fun c1 => ?_)
      · replace hf := it_p c1 hf
        obtain rfl := Option.some.inj hf
        exact sw_vret cx hr hQ dX4_goOn_55
      · replace hf := it_n c1 hf
        refine sw_aload_n (pc' := 9) (i := 0) cx dX4_goOn_8 rfl 0 rfl rfl ?_
        refine sw_aload_n (pc' := 10) (i := 0) cx dX4_goOn_9 rfl 0 rfl rfl ?_
        refine sw_get (pc' := 13) cx in_X4 0 rfl rfl 13 (Nat.le_of_ble_eq_true rfl) fl_RX4_37 rfl dX4_goOn_10 rfl ?_
        refine sw_iload_n (pc' := 14) (i := 1) cx dX4_goOn_13 rfl 1 rfl rfl ?_
        obtain ⟨h2, hf⟩ := gx_s hf
        refine sw_iald (pc' := 15) cx 7 0 rfl rfl h2 dX4_goOn_14 rfl ?_
        obtain ⟨r3, hr3, hf⟩ := bd_s hf
        refine sw_callVw (pc' := 18) (As := [.int ((u.1 7) (x1).toNatClampNeg)]) (rest := []) (w' := (mt_W hm kA ka cI cK u)) cx (k_X4_isWhole l D hm kA ka cI cJ cK cS u ((u.1 7) (x1).toNatClampNeg) r3 hr3) pk_yX4_isWhole ml_RX4_104 ⟨rfl, rfl⟩ ⟨(Nat.le_of_ble_eq_true rfl), (Nat.le_of_ble_eq_true rfl)⟩ ⟨(Nat.le_of_ble_eq_true rfl), (Nat.le_of_ble_eq_true rfl)⟩ 0 rfl rfl rfl rfl (Nat.le_of_ble_eq_true rfl) rfl dX4_goOn_15 rfl ?_
        refine sw_if_eq (pc' := 21) (tgt := 55) cx dX4_goOn_18 (by decide) rfl (fun c4 => ?_) (fun c4 => ?_)
        · replace hf := it_p c4 hf
          obtain rfl := Option.some.inj hf
          exact sw_vret cx hr hQ dX4_goOn_55
        · replace hf := it_n c4 hf
          refine sw_aload_n (pc' := 22) (i := 0) cx dX4_goOn_21 rfl 0 rfl rfl ?_
          refine sw_iload_n (pc' := 23) (i := 1) cx dX4_goOn_22 rfl 1 rfl rfl ?_
          refine sw_aload_n (pc' := 24) (i := 0) cx dX4_goOn_23 rfl 0 rfl rfl ?_
          refine sw_get (pc' := 27) cx in_X4 0 rfl rfl 13 (Nat.le_of_ble_eq_true rfl) fl_RX4_37 rfl dX4_goOn_24 rfl ?_
          refine sw_iload_n (pc' := 28) (i := 1) cx dX4_goOn_27 rfl 1 rfl rfl ?_
          obtain ⟨h5, hf⟩ := gx_s hf
          refine sw_iald (pc' := 29) cx 7 0 rfl rfl h5 dX4_goOn_28 rfl ?_
          refine sw_bipush (pc' := 31) (v := 39) cx dX4_goOn_29 bipush_39 rfl ?_
          refine sw_icmp_ne (pc' := 34) (tgt := 38) cx dX4_goOn_31 (by decide) rfl (fun c6 => ?_) (fun c6 => ?_)
          · replace hf := it_n c6 hf
            refine sw_aload_n (pc' := 39) (i := 0) cx dX4_goOn_38 rfl 0 rfl rfl ?_
            refine sw_get (pc' := 42) cx in_X4 0 rfl rfl 13 (Nat.le_of_ble_eq_true rfl) fl_RX4_37 rfl dX4_goOn_39 rfl ?_
            refine sw_iload_n (pc' := 43) (i := 1) cx dX4_goOn_42 rfl 1 rfl rfl ?_
            obtain ⟨h7, hf⟩ := gx_s hf
            refine sw_iald (pc' := 44) cx 7 0 rfl rfl h7 dX4_goOn_43 rfl ?_
            refine sw_iconst (pc' := 45) (v := 1) cx dX4_goOn_44 iconst_1 rfl ?_
            refine sw_iadd (pc' := 46) cx dX4_goOn_45 rfl ?_
            exact sw_lv [0, 1, 2] rfl (B46 _ ih u x1 x2 (((u.1 7) (x1).toNatClampNeg) + (1 : Int32)) x1 hf)
          · replace hf := it_p c6 hf
            refine sw_iconst (pc' := 35) (v := 0) cx dX4_goOn_34 iconst_0 rfl ?_
            refine sw_goto (tgt := 46) cx dX4_goOn_35 (by decide) ?_
            exact sw_lv [0, 1, 2] rfl (B46 _ ih u x1 x2 (0 : Int32) x1 hf)
  unfold f_X4_goOn at hf
  refine sw_iconst (pc' := 1) (v := 0) cx dX4_goOn_0 iconst_0 rfl ?_
  refine sw_istore_n (pc' := 2) (i := 2) (lv' := [(2, .int (0 : Int32)), (0, .ref (hm 0)), (1, .int a0)]) cx dX4_goOn_1 rfl (Nat.le_of_ble_eq_true rfl) rfl rfl ?_
  exact sw_lv [1, 2, 0] rfl (B2 1000 u a0 (0 : Int32) hf)
abbrev rm_X4_workOn : Room := ({ frames := 3, cells := 0, slots := 0, locals := 66 } : Room)
set_option maxRecDepth 100000 in
set_option maxHeartbeats 4000000 in
theorem k_X4_workOn (l : Launch) (D : sf_D) (hm : Nat → Nat) (kA : Nat) (ka : Nat → Nat) (cI cJ cK cS : ClassId) (u : MtS) (a0 : Int32) (a1 : Int32) (res : MtS) (hf : f_X4_workOn u a0 a1 = some res) : sf_Ct l yX4_workOn cX4_workOn 4 none rm_X4_workOn D (sf_ty cI cJ cK cS) [.ref (hm 0), .int a0, .int a1] (mt_W hm kA ka cI cK u) none (mt_W hm kA ka cI cK res) := by
  refine sf_met (lv := [(0, .ref (hm 0)), (1, .int a0), (2, .int a1)]) (by decide) (Nat.le_of_ble_eq_true rfl) rfl ?_
  intro p e s m args below meth c A Q cx hr hQ
  have cx : sf_Cx p m meth c cX4_workOn 4 s args RX4 D (sf_ty cI cJ cK cS) A := cx
  unfold f_X4_workOn at hf
  refine sw_aload_n (pc' := 1) (i := 0) cx dX4_workOn_0 rfl 0 rfl rfl ?_
  refine sw_iload_n (pc' := 2) (i := 1) cx dX4_workOn_1 rfl 1 rfl rfl ?_
  obtain ⟨r1, hr1, hf⟩ := bd_s hf
  refine sw_callVw (pc' := 5) (As := [.int a0]) (rest := []) (w' := (mt_W hm kA ka cI cK u)) cx (k_X4_kindOf l D hm kA ka cI cJ cK cS u a0 r1 hr1) pk_yX4_kindOf ml_RX4_83 ⟨rfl, rfl⟩ ⟨(Nat.le_of_ble_eq_true rfl), (Nat.le_of_ble_eq_true rfl)⟩ ⟨(Nat.le_of_ble_eq_true rfl), (Nat.le_of_ble_eq_true rfl)⟩ 0 rfl rfl rfl rfl (Nat.le_of_ble_eq_true rfl) rfl dX4_workOn_2 rfl ?_
  refine sw_astore_n (pc' := 6) (i := 3) (lv' := [(3, .ref (ka r1)), (0, .ref (hm 0)), (1, .int a0), (2, .int a1)]) cx dX4_workOn_5 rfl (Nat.le_of_ble_eq_true rfl) rfl rfl ?_
  refine sw_aload_n (pc' := 7) (i := 0) cx dX4_workOn_6 rfl 1 rfl rfl ?_
  refine sw_get (pc' := 10) cx in_X4 0 rfl rfl 15 (Nat.le_of_ble_eq_true rfl) fl_RX4_43 rfl dX4_workOn_7 rfl ?_
  refine sw_iload_n (pc' := 11) (i := 1) cx dX4_workOn_10 rfl 2 rfl rfl ?_
  refine sw_dup2 (pc' := 12) cx dX4_workOn_11 rfl rfl rfl ?_
  obtain ⟨h2, hf⟩ := gx_s hf
  refine sw_iald (pc' := 13) cx 9 0 rfl rfl h2 dX4_workOn_12 rfl ?_
  refine sw_aload_n (pc' := 14) (i := 3) cx dX4_workOn_13 rfl 0 rfl rfl ?_
  refine sw_aload_n (pc' := 15) (i := 0) cx dX4_workOn_14 rfl 1 rfl rfl ?_
  refine sw_get (pc' := 18) cx in_X4 0 rfl rfl 14 (Nat.le_of_ble_eq_true rfl) fl_RX4_40 rfl dX4_workOn_15 rfl ?_
  refine sw_iload_n (pc' := 19) (i := 1) cx dX4_workOn_18 rfl 2 rfl rfl ?_
  obtain ⟨h3, hf⟩ := gx_s hf
  refine sw_iald (pc' := 20) cx 8 0 rfl rfl h3 dX4_workOn_19 rfl ?_
  refine sw_bipush (pc' := 22) (v := 40) cx dX4_workOn_20 bipush_40 rfl ?_
  refine sw_aload_n (pc' := 23) (i := 0) cx dX4_workOn_22 rfl 1 rfl rfl ?_
  obtain ⟨r4, hr4, hf⟩ := bd_s hf
  refine sw_callVw (pc' := 26) (As := []) (rest := [.int (40 : Int32), .int ((u.1 8) (a0).toNatClampNeg), .ref (ka r1), .int ((u.1 9) (a0).toNatClampNeg), .int a0, .ref (hm 9)]) (w' := (mt_W hm kA ka cI cK u)) cx (k_X4_wholePlaces l D hm kA ka cI cJ cK cS u  r4 hr4) pk_yX4_wholePlaces ml_RX4_87 ⟨rfl, rfl⟩ ⟨(Nat.le_of_ble_eq_true rfl), (Nat.le_of_ble_eq_true rfl)⟩ ⟨(Nat.le_of_ble_eq_true rfl), (Nat.le_of_ble_eq_true rfl)⟩ 0 rfl rfl rfl rfl (Nat.le_of_ble_eq_true rfl) rfl dX4_workOn_23 rfl ?_
  refine sw_isub (pc' := 27) cx dX4_workOn_26 rfl ?_
  obtain ⟨h5, hf⟩ := gk_s hf
  obtain ⟨r6, hr6, hf⟩ := bd_s hf
  refine sw_kworks (pc' := 30) (rest := [.int ((u.1 9) (a0).toNatClampNeg), .int a0, .ref (hm 9)]) cx 11 (mt_kat _ _ _ _ _ _) r1 h5 hr6 (Nat.le_of_ble_eq_true rfl) (Nat.le_of_ble_eq_true rfl) ⟨(Nat.le_of_ble_eq_true rfl), (Nat.le_of_ble_eq_true rfl)⟩ (Nat.le_of_ble_eq_true rfl) dX4_workOn_27 rfl ?_
  refine sw_iadd (pc' := 31) cx dX4_workOn_30 rfl ?_
  obtain ⟨h7, hf⟩ := gx_s hf
  refine sw_iast (pc' := 32) (ws' := (mt_W hm kA ka cI cK (mt_mk (u.1 0 0) (u.1 0 1) (u.1 0 2) (u.1 0 3) (u.1 0 4) (u.1 1) (u.1 2) (u.1 3) (u.1 4) (u.1 5) (u.1 6) (u.1 7) (u.1 8) (upd (u.1 9) (a0).toNatClampNeg (((u.1 9) (a0).toNatClampNeg) + r6)) u.2))) cx 9 0 rfl rfl h7 dX4_workOn_31 rfl rfl ?_
  refine sw_iload_n (pc' := 33) (i := 2) cx dX4_workOn_32 rfl 3 rfl rfl ?_
  obtain ⟨r8, hr8, hf⟩ := bd_s hf
  refine sw_callSN (pc' := 36) (As := [.int a1]) (rest := []) cx (k_X9_isPlace l D cI cJ cK cS a1 r8 hr8) pk_yX9_isPlace mn_RX4_97 ⟨rfl, rfl⟩ ⟨(Nat.le_of_ble_eq_true rfl), (Nat.le_of_ble_eq_true rfl)⟩ ⟨(Nat.le_of_ble_eq_true rfl), (Nat.le_of_ble_eq_true rfl)⟩ [] rfl rfl rfl (wn := (mt_W hm kA ka cI cK (mt_mk (u.1 0 0) (u.1 0 1) (u.1 0 2) (u.1 0 3) (u.1 0 4) (u.1 1) (u.1 2) (u.1 3) (u.1 4) (u.1 5) (u.1 6) (u.1 7) (u.1 8) (upd (u.1 9) (a0).toNatClampNeg (((u.1 9) (a0).toNatClampNeg) + r6)) u.2))) rfl rfl (Nat.le_of_ble_eq_true rfl) rfl dX4_workOn_33 rfl ?_
  refine sw_if_eq (pc' := 39) (tgt := 98) cx dX4_workOn_36 (by decide) rfl (fun c9 => ?_) (fun c9 => ?_)
  · replace hf := it_p c9 hf
    obtain rfl := Option.some.inj hf
    exact sw_vret cx hr hQ dX4_workOn_98
  · replace hf := it_n c9 hf
    refine sw_aload_n (pc' := 40) (i := 0) cx dX4_workOn_39 rfl 1 rfl rfl ?_
    refine sw_get (pc' := 43) cx in_X4 0 rfl rfl 15 (Nat.le_of_ble_eq_true rfl) fl_RX4_43 rfl dX4_workOn_40 rfl ?_
    refine sw_iload_n (pc' := 44) (i := 1) cx dX4_workOn_43 rfl 2 rfl rfl ?_
    obtain ⟨h10, hf⟩ := gx_s hf
    refine sw_iald (pc' := 45) cx 9 0 rfl rfl h10 dX4_workOn_44 rfl ?_
    refine sw_aload_n (pc' := 46) (i := 0) cx dX4_workOn_45 rfl 1 rfl rfl ?_
    refine sw_get (pc' := 49) cx in_X4 0 rfl rfl 1 (Nat.le_of_ble_eq_true rfl) fl_RX4_9 rfl dX4_workOn_46 rfl ?_
    refine sw_iload_n (pc' := 50) (i := 2) cx dX4_workOn_49 rfl 3 rfl rfl ?_
    obtain ⟨h11, hf⟩ := gx_s hf
    refine sw_iald (pc' := 51) cx 1 0 rfl rfl h11 dX4_workOn_50 rfl ?_
    refine sw_icmp_lt (pc' := 54) (tgt := 98) cx dX4_workOn_51 (by decide) rfl (fun c12 => ?_) (fun c12 => ?_)
    · replace hf := it_p c12 hf
      obtain rfl := Option.some.inj hf
      exact sw_vret cx hr hQ dX4_workOn_98
    · replace hf := it_n c12 hf
      refine sw_aload_n (pc' := 55) (i := 0) cx dX4_workOn_54 rfl 1 rfl rfl ?_
      refine sw_iload_n (pc' := 56) (i := 2) cx dX4_workOn_55 rfl 3 rfl rfl ?_
      refine sw_aload_n (pc' := 57) (i := 3) cx dX4_workOn_56 rfl 0 rfl rfl ?_
      refine sw_aload_n (pc' := 58) (i := 0) cx dX4_workOn_57 rfl 1 rfl rfl ?_
      refine sw_get (pc' := 61) cx in_X4 0 rfl rfl 1 (Nat.le_of_ble_eq_true rfl) fl_RX4_9 rfl dX4_workOn_58 rfl ?_
      refine sw_iload_n (pc' := 62) (i := 2) cx dX4_workOn_61 rfl 3 rfl rfl ?_
      obtain ⟨h13, hf⟩ := gx_s hf
      refine sw_iald (pc' := 63) cx 1 0 rfl rfl h13 dX4_workOn_62 rfl ?_
      obtain ⟨h14, hf⟩ := gk_s hf
      obtain ⟨r15, hr15, hf⟩ := bd_s hf
      refine sw_kcutsHigh (pc' := 66) (rest := [.int a1, .ref (hm 0)]) cx 11 (mt_kat _ _ _ _ _ _) r1 h14 hr15 (Nat.le_of_ble_eq_true rfl) (Nat.le_of_ble_eq_true rfl) ⟨(Nat.le_of_ble_eq_true rfl), (Nat.le_of_ble_eq_true rfl)⟩ (Nat.le_of_ble_eq_true rfl) dX4_workOn_63 rfl ?_
      refine sw_iload_n (pc' := 67) (i := 1) cx dX4_workOn_66 rfl 2 rfl rfl ?_
      obtain ⟨r16, hr16, hf⟩ := bd_s hf
      refine sw_callVw (pc' := 70) (As := [.int a1, .int r15, .int a0]) (rest := []) (w' := (mt_W hm kA ka cI cK r16)) cx (k_X4_cut l D hm kA ka cI cJ cK cS (mt_mk (u.1 0 0) (u.1 0 1) (u.1 0 2) (u.1 0 3) (u.1 0 4) (u.1 1) (u.1 2) (u.1 3) (u.1 4) (u.1 5) (u.1 6) (u.1 7) (u.1 8) (upd (u.1 9) (a0).toNatClampNeg (((u.1 9) (a0).toNatClampNeg) + r6)) u.2) a1 r15 a0 r16 hr16) pk_yX4_cut ml_RX4_152 ⟨rfl, rfl⟩ ⟨(Nat.le_of_ble_eq_true rfl), (Nat.le_of_ble_eq_true rfl)⟩ ⟨(Nat.le_of_ble_eq_true rfl), (Nat.le_of_ble_eq_true rfl)⟩ 0 rfl rfl rfl rfl (Nat.le_of_ble_eq_true rfl) rfl dX4_workOn_67 rfl ?_
      refine sw_aload_n (pc' := 71) (i := 0) cx dX4_workOn_70 rfl 1 rfl rfl ?_
      refine sw_get (pc' := 74) cx in_X4 0 rfl rfl 12 (Nat.le_of_ble_eq_true rfl) fl_RX4_34 rfl dX4_workOn_71 rfl ?_
      refine sw_iload_n (pc' := 75) (i := 1) cx dX4_workOn_74 rfl 2 rfl rfl ?_
      refine sw_iconst (pc' := 76) (v := 0) cx dX4_workOn_75 iconst_0 rfl ?_
      refine sw_aload_n (pc' := 77) (i := 0) cx dX4_workOn_76 rfl 1 rfl rfl ?_
      refine sw_get (pc' := 80) cx in_X4 0 rfl rfl 12 (Nat.le_of_ble_eq_true rfl) fl_RX4_34 rfl dX4_workOn_77 rfl ?_
      refine sw_iload_n (pc' := 81) (i := 1) cx dX4_workOn_80 rfl 2 rfl rfl ?_
      obtain ⟨h17, hf⟩ := gx_s hf
      refine sw_iald (pc' := 82) cx 6 0 rfl rfl h17 dX4_workOn_81 rfl ?_
      refine sw_aload_n (pc' := 83) (i := 3) cx dX4_workOn_82 rfl 0 rfl rfl ?_
      obtain ⟨h18, hf⟩ := gk_s hf
      obtain ⟨r19, hr19, hf⟩ := bd_s hf
      refine sw_kcounts (pc' := 86) (rest := [.int ((r16.1 6) (a0).toNatClampNeg), .int (0 : Int32), .int a0, .ref (hm 6)]) cx 11 (mt_kat _ _ _ _ _ _) r1 h18 hr19 (Nat.le_of_ble_eq_true rfl) (Nat.le_of_ble_eq_true rfl) ⟨(Nat.le_of_ble_eq_true rfl), (Nat.le_of_ble_eq_true rfl)⟩ (Nat.le_of_ble_eq_true rfl) dX4_workOn_83 rfl ?_
      refine sw_isub (pc' := 87) cx dX4_workOn_86 rfl ?_
      refine sw_mmax (pc' := 90) cx ml_RX4_159 stat_Lib_Math_max_name ini_RJ9 code_Lib_Math_max_name (Nat.le_of_ble_eq_true rfl) (Nat.le_of_ble_eq_true rfl) ⟨(Nat.le_of_ble_eq_true rfl), (Nat.le_of_ble_eq_true rfl)⟩ dX4_workOn_87 rfl ?_
      obtain ⟨h20, hf⟩ := gx_s hf
      refine sw_iast (pc' := 91) (ws' := (mt_W hm kA ka cI cK (mt_mk (r16.1 0 0) (r16.1 0 1) (r16.1 0 2) (r16.1 0 3) (r16.1 0 4) (r16.1 1) (r16.1 2) (r16.1 3) (r16.1 4) (r16.1 5) (upd (r16.1 6) (a0).toNatClampNeg (if (0 : Int32) < (((r16.1 6) (a0).toNatClampNeg) - r19) then (((r16.1 6) (a0).toNatClampNeg) - r19) else (0 : Int32))) (r16.1 7) (r16.1 8) (r16.1 9) r16.2))) cx 6 0 rfl rfl h20 dX4_workOn_90 rfl rfl ?_
      refine sw_aload_n (pc' := 92) (i := 0) cx dX4_workOn_91 rfl 1 rfl rfl ?_
      refine sw_get (pc' := 95) cx in_X4 0 rfl rfl 15 (Nat.le_of_ble_eq_true rfl) fl_RX4_43 rfl dX4_workOn_92 rfl ?_
      refine sw_iload_n (pc' := 96) (i := 1) cx dX4_workOn_95 rfl 2 rfl rfl ?_
      refine sw_iconst (pc' := 97) (v := 0) cx dX4_workOn_96 iconst_0 rfl ?_
      obtain ⟨h21, hf⟩ := gx_s hf
      refine sw_iast (pc' := 98) (ws' := (mt_W hm kA ka cI cK (mt_mk (r16.1 0 0) (r16.1 0 1) (r16.1 0 2) (r16.1 0 3) (r16.1 0 4) (r16.1 1) (r16.1 2) (r16.1 3) (r16.1 4) (r16.1 5) (upd (r16.1 6) (a0).toNatClampNeg (if (0 : Int32) < (((r16.1 6) (a0).toNatClampNeg) - r19) then (((r16.1 6) (a0).toNatClampNeg) - r19) else (0 : Int32))) (r16.1 7) (r16.1 8) (upd (r16.1 9) (a0).toNatClampNeg (0 : Int32)) r16.2))) cx 9 0 rfl rfl h21 dX4_workOn_97 rfl rfl ?_
      obtain rfl := Option.some.inj hf
      exact sw_vret cx hr hQ dX4_workOn_98
abbrev rm_X4_draw : Room := ({ frames := 0, cells := 0, slots := 0, locals := 0 } : Room)
set_option maxRecDepth 100000 in
set_option maxHeartbeats 4000000 in
theorem k_X4_draw (l : Launch) (D : sf_D) (hm : Nat → Nat) (kA : Nat) (ka : Nat → Nat) (cI cJ cK cS : ClassId) (u : MtS)  (res : Int32 × MtS) (hf : f_X4_draw u = some res) : sf_Ct l yX4_draw cX4_draw 1 (some .int) rm_X4_draw D (sf_ty cI cJ cK cS) [.ref (hm 0)] (mt_W hm kA ka cI cK u) (some (.int res.1)) (mt_W hm kA ka cI cK res.2) := by
  refine sf_met (lv := [(0, .ref (hm 0))]) (by decide) (Nat.le_of_ble_eq_true rfl) rfl ?_
  intro p e s m args below meth c A Q cx hr hQ
  have cx : sf_Cx p m meth c cX4_draw 1 s args RX4 D (sf_ty cI cJ cK cS) A := cx
  unfold f_X4_draw at hf
  refine sw_aload_n (pc' := 1) (i := 0) cx dX4_draw_0 rfl 0 rfl rfl ?_
  refine sw_aload_n (pc' := 2) (i := 0) cx dX4_draw_1 rfl 0 rfl rfl ?_
  refine sw_get (pc' := 5) cx in_X4 0 rfl rfl 9 (Nat.le_of_ble_eq_true rfl) fl_RX4_28 rfl dX4_draw_2 rfl ?_
  refine sw_ldc (pc' := 7) cx ct_RX4_168 dX4_draw_5 rfl ?_
  refine sw_imul (pc' := 8) cx dX4_draw_7 rfl ?_
  refine sw_sipush (pc' := 11) (v := 12345) cx dX4_draw_8 sipush_12345 rfl ?_
  refine sw_iadd (pc' := 12) cx dX4_draw_11 rfl ?_
  refine sw_put (pc' := 15) (ws' := (mt_W hm kA ka cI cK (mt_mk (u.1 0 0) (u.1 0 1) (u.1 0 2) (((u.1 0 3) * (1103515245 : Int32)) + (12345 : Int32)) (u.1 0 4) (u.1 1) (u.1 2) (u.1 3) (u.1 4) (u.1 5) (u.1 6) (u.1 7) (u.1 8) (u.1 9) u.2))) cx in_X4 tyX4 tyX4_ok nmX4 0 rfl rfl 9 (Nat.le_of_ble_eq_true rfl) fl_RX4_28 rfl rfl rfl (Nat.le_of_ble_eq_true rfl) dX4_draw_12 rfl rfl ?_
  refine sw_aload_n (pc' := 16) (i := 0) cx dX4_draw_15 rfl 0 rfl rfl ?_
  refine sw_get (pc' := 19) cx in_X4 0 rfl rfl 9 (Nat.le_of_ble_eq_true rfl) fl_RX4_28 rfl dX4_draw_16 rfl ?_
  refine sw_bipush (pc' := 21) (v := 8) cx dX4_draw_19 bipush_8 rfl ?_
  refine sw_iushr (pc' := 22) cx dX4_draw_21 rfl ?_
  refine sw_bipush (pc' := 24) (v := 10) cx dX4_draw_22 bipush_10 rfl ?_
  refine sw_irem (pc' := 25) cx dX4_draw_24 (by decide +kernel) rfl ?_
  obtain rfl := Option.some.inj hf
  exact sw_iret cx hr hQ dX4_draw_25
abbrev rm_X4_freeze : Room := ({ frames := 2, cells := 0, slots := 0, locals := 41 } : Room)
set_option maxRecDepth 100000 in
set_option maxHeartbeats 4000000 in
theorem k_X4_freeze (l : Launch) (D : sf_D) (hm : Nat → Nat) (kA : Nat) (ka : Nat → Nat) (cI cJ cK cS : ClassId) (u : MtS)  (res : MtS) (hf : f_X4_freeze u = some res) : sf_Ct l yX4_freeze cX4_freeze 2 none rm_X4_freeze D (sf_ty cI cJ cK cS) [.ref (hm 0)] (mt_W hm kA ka cI cK u) none (mt_W hm kA ka cI cK res) := by
  refine sf_met (lv := [(0, .ref (hm 0))]) (by decide) (Nat.le_of_ble_eq_true rfl) rfl ?_
  intro p e s m args below meth c A Q cx hr hQ
  have cx : sf_Cx p m meth c cX4_freeze 2 s args RX4 D (sf_ty cI cJ cK cS) A := cx
  have B32 : ∀ (kk : MtS → Int32 → Option (MtS)), (∀ (u : MtS) (x1 : Int32), kk u x1 = some res → sf_W p l e rm_X4_freeze s m args below meth c 0 0 Q 2 D A (mt_W hm kA ka cI cK u) [(0, .ref (hm 0)), (1, .int x1)] 2 []) → ∀ (u : MtS) (x1 : Int32), f_X4_freeze_b32 kk u x1 = some res → sf_W p l e rm_X4_freeze s m args below meth c 0 0 Q 2 D A (mt_W hm kA ka cI cK u) [(0, .ref (hm 0)), (1, .int x1)] 32 [] := by
    intro kk hkk u x1 hf
    unfold f_X4_freeze_b32 at hf
    refine sw_iinc (pc' := 35) (v := (x1 + (1 : Int32))) (lv' := [(1, .int (x1 + (1 : Int32))), (0, .ref (hm 0))]) cx dX4_freeze_32 1 rfl rfl (Nat.le_of_ble_eq_true rfl) rfl rfl ?_
    refine sw_goto (tgt := 2) cx dX4_freeze_35 (by decide) ?_
    exact sw_lv [1, 0] rfl (hkk u (x1 + (1 : Int32)) hf)
  have B2 : ∀ (n : Nat), ∀ (u : MtS) (x1 : Int32), f_X4_freeze_b2 n u x1 = some res → sf_W p l e rm_X4_freeze s m args below meth c 0 0 Q 2 D A (mt_W hm kA ka cI cK u) [(0, .ref (hm 0)), (1, .int x1)] 2 [] := by
    intro n
    induction n with
    | zero => intro u x1 hf; rw [f_X4_freeze_b2] at hf; cases hf
    | succ n ih =>
      intro u x1 hf
      rw [f_X4_freeze_b2] at hf
      refine sw_iload_n (pc' := 3) (i := 1) cx dX4_freeze_2 rfl 1 rfl rfl ?_
      refine sw_bipush (pc' := 5) (v := 40) cx dX4_freeze_3 bipush_40 rfl ?_
      refine sw_icmp_ge (pc' := 8) (tgt := 38) cx dX4_freeze_5 (by decide) rfl (fun c1 => ?_) (fun c1 => ?_)
      · replace hf := it_p c1 hf
        obtain rfl := Option.some.inj hf
        exact sw_vret cx hr hQ dX4_freeze_38
      · replace hf := it_n c1 hf
        refine sw_aload_n (pc' := 9) (i := 0) cx dX4_freeze_8 rfl 0 rfl rfl ?_
        refine sw_iload_n (pc' := 10) (i := 1) cx dX4_freeze_9 rfl 1 rfl rfl ?_
        obtain ⟨r2, hr2, hf⟩ := bd_s hf
        refine sw_callVw (pc' := 13) (As := [.int x1]) (rest := []) (w' := (mt_W hm kA ka cI cK u)) cx (k_X4_isWhole l D hm kA ka cI cJ cK cS u x1 r2 hr2) pk_yX4_isWhole ml_RX4_104 ⟨rfl, rfl⟩ ⟨(Nat.le_of_ble_eq_true rfl), (Nat.le_of_ble_eq_true rfl)⟩ ⟨(Nat.le_of_ble_eq_true rfl), (Nat.le_of_ble_eq_true rfl)⟩ 0 rfl rfl rfl rfl (Nat.le_of_ble_eq_true rfl) rfl dX4_freeze_10 rfl ?_
        refine sw_if_eq (pc' := 16) (tgt := 32) cx dX4_freeze_13 (by decide) rfl (fun c3 => ?_) (fun c3 => ?_)
        · replace hf := it_p c3 hf
          exact sw_lv [0, 1] rfl (B32 _ ih u x1 hf)
        · replace hf := it_n c3 hf
          refine sw_aload_n (pc' := 17) (i := 0) cx dX4_freeze_16 rfl 0 rfl rfl ?_
          obtain ⟨r4, hr4, hf⟩ := bd_s hf
          refine sw_callVw (pc' := 20) (As := []) (rest := []) (w' := (mt_W hm kA ka cI cK r4.2)) cx (k_X4_draw l D hm kA ka cI cJ cK cS u  r4 hr4) pk_yX4_draw ml_RX4_162 ⟨rfl, rfl⟩ ⟨(Nat.le_of_ble_eq_true rfl), (Nat.le_of_ble_eq_true rfl)⟩ ⟨(Nat.le_of_ble_eq_true rfl), (Nat.le_of_ble_eq_true rfl)⟩ 0 rfl rfl rfl rfl (Nat.le_of_ble_eq_true rfl) rfl dX4_freeze_17 rfl ?_
          refine sw_aload_n (pc' := 21) (i := 0) cx dX4_freeze_20 rfl 0 rfl rfl ?_
          refine sw_get (pc' := 24) cx in_X4 0 rfl rfl 7 (Nat.le_of_ble_eq_true rfl) fl_RX4_69 rfl dX4_freeze_21 rfl ?_
          refine sw_icmp_ge (pc' := 27) (tgt := 32) cx dX4_freeze_24 (by decide) rfl (fun c5 => ?_) (fun c5 => ?_)
          · replace hf := it_p c5 hf
            exact sw_lv [0, 1] rfl (B32 _ ih r4.2 x1 hf)
          · replace hf := it_n c5 hf
            refine sw_aload_n (pc' := 28) (i := 0) cx dX4_freeze_27 rfl 0 rfl rfl ?_
            refine sw_iload_n (pc' := 29) (i := 1) cx dX4_freeze_28 rfl 1 rfl rfl ?_
            obtain ⟨r6, hr6, hf⟩ := bd_s hf
            refine sw_callVw (pc' := 32) (As := [.int x1]) (rest := []) (w' := (mt_W hm kA ka cI cK r6)) cx (k_X4_breakUp l D hm kA ka cI cJ cK cS r4.2 x1 r6 hr6) pk_yX4_breakUp ml_RX4_165 ⟨rfl, rfl⟩ ⟨(Nat.le_of_ble_eq_true rfl), (Nat.le_of_ble_eq_true rfl)⟩ ⟨(Nat.le_of_ble_eq_true rfl), (Nat.le_of_ble_eq_true rfl)⟩ 0 rfl rfl rfl rfl (Nat.le_of_ble_eq_true rfl) rfl dX4_freeze_29 rfl ?_
            exact sw_lv [0, 1] rfl (B32 _ ih r6 x1 hf)
  unfold f_X4_freeze at hf
  refine sw_iconst (pc' := 1) (v := 0) cx dX4_freeze_0 iconst_0 rfl ?_
  refine sw_istore_n (pc' := 2) (i := 1) (lv' := [(1, .int (0 : Int32)), (0, .ref (hm 0))]) cx dX4_freeze_1 rfl (Nat.le_of_ble_eq_true rfl) rfl rfl ?_
  exact sw_lv [1, 0] rfl (B2 1000 u (0 : Int32) hf)
abbrev rm_X4_goYear : Room := ({ frames := 4, cells := 0, slots := 0, locals := 89 } : Room)
set_option maxRecDepth 100000 in
set_option maxHeartbeats 4000000 in
theorem k_X4_goYear (l : Launch) (D : sf_D) (hm : Nat → Nat) (kA : Nat) (ka : Nat → Nat) (cI cJ cK cS : ClassId) (u : MtS)  (res : MtS) (hf : f_X4_goYear u = some res) : sf_Ct l yX4_goYear cX4_goYear 2 none rm_X4_goYear D (sf_ty cI cJ cK cS) [.ref (hm 0)] (mt_W hm kA ka cI cK u) none (mt_W hm kA ka cI cK res) := by
  refine sf_met (lv := [(0, .ref (hm 0))]) (by decide) (Nat.le_of_ble_eq_true rfl) rfl ?_
  intro p e s m args below meth c A Q cx hr hQ
  have cx : sf_Cx p m meth c cX4_goYear 2 s args RX4 D (sf_ty cI cJ cK cS) A := cx
  have B46 : ∀ (kk : MtS → Int32 → Option (MtS)), (∀ (u : MtS) (x1 : Int32), kk u x1 = some res → sf_W p l e rm_X4_goYear s m args below meth c 0 0 Q 2 D A (mt_W hm kA ka cI cK u) [(0, .ref (hm 0)), (1, .int x1)] 2 []) → ∀ (u : MtS) (x1 : Int32), f_X4_goYear_b46 kk u x1 = some res → sf_W p l e rm_X4_goYear s m args below meth c 0 0 Q 2 D A (mt_W hm kA ka cI cK u) [(0, .ref (hm 0)), (1, .int x1)] 46 [] := by
    intro kk hkk u x1 hf
    unfold f_X4_goYear_b46 at hf
    refine sw_iinc (pc' := 49) (v := (x1 + (1 : Int32))) (lv' := [(1, .int (x1 + (1 : Int32))), (0, .ref (hm 0))]) cx dX4_goYear_46 1 rfl rfl (Nat.le_of_ble_eq_true rfl) rfl rfl ?_
    refine sw_goto (tgt := 2) cx dX4_goYear_49 (by decide) ?_
    exact sw_lv [1, 0] rfl (hkk u (x1 + (1 : Int32)) hf)
  have B63 : ∀ (u : MtS), f_X4_goYear_b63 u = some res → sf_W p l e rm_X4_goYear s m args below meth c 0 0 Q 2 D A (mt_W hm kA ka cI cK u) [(0, .ref (hm 0))] 63 [] := by
    intro u hf
    unfold f_X4_goYear_b63 at hf
    refine sw_aload_n (pc' := 64) (i := 0) cx dX4_goYear_63 rfl 0 rfl rfl ?_
    refine sw_dup (pc' := 65) cx dX4_goYear_64 rfl rfl ?_
    refine sw_get (pc' := 68) cx in_X4 0 rfl rfl 6 (Nat.le_of_ble_eq_true rfl) fl_RX4_66 rfl dX4_goYear_65 rfl ?_
    refine sw_iconst (pc' := 69) (v := 1) cx dX4_goYear_68 iconst_1 rfl ?_
    refine sw_iadd (pc' := 70) cx dX4_goYear_69 rfl ?_
    refine sw_put (pc' := 73) (ws' := (mt_W hm kA ka cI cK (mt_mk ((u.1 0 0) + (1 : Int32)) (u.1 0 1) (u.1 0 2) (u.1 0 3) (u.1 0 4) (u.1 1) (u.1 2) (u.1 3) (u.1 4) (u.1 5) (u.1 6) (u.1 7) (u.1 8) (u.1 9) u.2))) cx in_X4 tyX4 tyX4_ok nmX4 0 rfl rfl 6 (Nat.le_of_ble_eq_true rfl) fl_RX4_66 rfl rfl rfl (Nat.le_of_ble_eq_true rfl) dX4_goYear_70 rfl rfl ?_
    obtain rfl := Option.some.inj hf
    exact sw_vret cx hr hQ dX4_goYear_73
  have B2 : ∀ (n : Nat), ∀ (u : MtS) (x1 : Int32), f_X4_goYear_b2 n u x1 = some res → sf_W p l e rm_X4_goYear s m args below meth c 0 0 Q 2 D A (mt_W hm kA ka cI cK u) [(0, .ref (hm 0)), (1, .int x1)] 2 [] := by
    intro n
    induction n with
    | zero => intro u x1 hf; rw [f_X4_goYear_b2] at hf; cases hf
    | succ n ih =>
      intro u x1 hf
      rw [f_X4_goYear_b2] at hf
      refine sw_iload_n (pc' := 3) (i := 1) cx dX4_goYear_2 rfl 1 rfl rfl ?_
      refine sw_aload_n (pc' := 4) (i := 0) cx dX4_goYear_3 rfl 0 rfl rfl ?_
      refine sw_get (pc' := 7) cx in_X4 0 rfl rfl 10 (Nat.le_of_ble_eq_true rfl) fl_RX4_72 rfl dX4_goYear_4 rfl ?_
      refine sw_icmp_ge (pc' := 10) (tgt := 52) cx dX4_goYear_7 (by decide) rfl (fun c1 => ?_) (fun c1 => ?_)
      · replace hf := it_p c1 hf
        refine sw_aload_n (pc' := 53) (i := 0) cx dX4_goYear_52 rfl 0 rfl rfl ?_
        refine sw_get (pc' := 56) cx in_X4 0 rfl rfl 7 (Nat.le_of_ble_eq_true rfl) fl_RX4_69 rfl dX4_goYear_53 rfl ?_
        refine sw_if_le (pc' := 59) (tgt := 63) cx dX4_goYear_56 (by decide) rfl (fun c2 => ?_) (fun c2 => ?_)
        · replace hf := it_p c2 hf
          exact sw_lv [0] rfl (B63 u hf)
        · replace hf := it_n c2 hf
          refine sw_aload_n (pc' := 60) (i := 0) cx dX4_goYear_59 rfl 0 rfl rfl ?_
          obtain ⟨r3, hr3, hf⟩ := bd_s hf
          refine sw_callVw (pc' := 63) (As := []) (rest := []) (w' := (mt_W hm kA ka cI cK r3)) cx (k_X4_freeze l D hm kA ka cI cJ cK cS u  r3 hr3) pk_yX4_freeze ml_RX4_146 ⟨rfl, rfl⟩ ⟨(Nat.le_of_ble_eq_true rfl), (Nat.le_of_ble_eq_true rfl)⟩ ⟨(Nat.le_of_ble_eq_true rfl), (Nat.le_of_ble_eq_true rfl)⟩ 0 rfl rfl rfl rfl (Nat.le_of_ble_eq_true rfl) rfl dX4_goYear_60 rfl ?_
          exact sw_lv [0] rfl (B63 r3 hf)
      · replace hf := it_n c1 hf
        refine sw_aload_n (pc' := 11) (i := 0) cx dX4_goYear_10 rfl 0 rfl rfl ?_
        refine sw_get (pc' := 14) cx in_X4 0 rfl rfl 12 (Nat.le_of_ble_eq_true rfl) fl_RX4_34 rfl dX4_goYear_11 rfl ?_
        refine sw_iload_n (pc' := 15) (i := 1) cx dX4_goYear_14 rfl 1 rfl rfl ?_
        obtain ⟨h4, hf⟩ := gx_s hf
        refine sw_iald (pc' := 16) cx 6 0 rfl rfl h4 dX4_goYear_15 rfl ?_
        refine sw_if_le (pc' := 19) (tgt := 46) cx dX4_goYear_16 (by decide) rfl (fun c5 => ?_) (fun c5 => ?_)
        · replace hf := it_p c5 hf
          exact sw_lv [0, 1] rfl (B46 _ ih u x1 hf)
        · replace hf := it_n c5 hf
          refine sw_aload_n (pc' := 20) (i := 0) cx dX4_goYear_19 rfl 0 rfl rfl ?_
          refine sw_get (pc' := 23) cx in_X4 0 rfl rfl 5 (Nat.le_of_ble_eq_true rfl) fl_RX4_62 rfl dX4_goYear_20 rfl ?_
          refine sw_ldc2_w (pc' := 26) cx cl_RX4_133 dX4_goYear_23 rfl ?_
          refine sw_lcmp (pc' := 27) cx dX4_goYear_26 rfl ?_
          refine sw_if_eq (pc' := 30) (tgt := 46) cx dX4_goYear_27 (by decide) rfl (fun c6 => ?_) (fun c6 => ?_)
          · replace hf := it_p c6 hf
            exact sw_lv [0, 1] rfl (B46 _ ih u x1 hf)
          · replace hf := it_n c6 hf
            refine sw_aload_n (pc' := 31) (i := 0) cx dX4_goYear_30 rfl 0 rfl rfl ?_
            refine sw_iload_n (pc' := 32) (i := 1) cx dX4_goYear_31 rfl 1 rfl rfl ?_
            obtain ⟨r7, hr7, hf⟩ := bd_s hf
            refine sw_callVw (pc' := 35) (As := [.int x1]) (rest := []) (w' := (mt_W hm kA ka cI cK r7)) cx (k_X4_goOn l D hm kA ka cI cJ cK cS u x1 r7 hr7) pk_yX4_goOn ml_RX4_138 ⟨rfl, rfl⟩ ⟨(Nat.le_of_ble_eq_true rfl), (Nat.le_of_ble_eq_true rfl)⟩ ⟨(Nat.le_of_ble_eq_true rfl), (Nat.le_of_ble_eq_true rfl)⟩ 0 rfl rfl rfl rfl (Nat.le_of_ble_eq_true rfl) rfl dX4_goYear_32 rfl ?_
            refine sw_aload_n (pc' := 36) (i := 0) cx dX4_goYear_35 rfl 0 rfl rfl ?_
            refine sw_iload_n (pc' := 37) (i := 1) cx dX4_goYear_36 rfl 1 rfl rfl ?_
            refine sw_aload_n (pc' := 38) (i := 0) cx dX4_goYear_37 rfl 0 rfl rfl ?_
            refine sw_get (pc' := 41) cx in_X4 0 rfl rfl 13 (Nat.le_of_ble_eq_true rfl) fl_RX4_37 rfl dX4_goYear_38 rfl ?_
            refine sw_iload_n (pc' := 42) (i := 1) cx dX4_goYear_41 rfl 1 rfl rfl ?_
            obtain ⟨h8, hf⟩ := gx_s hf
            refine sw_iald (pc' := 43) cx 7 0 rfl rfl h8 dX4_goYear_42 rfl ?_
            obtain ⟨r9, hr9, hf⟩ := bd_s hf
            refine sw_callVw (pc' := 46) (As := [.int x1, .int ((r7.1 7) (x1).toNatClampNeg)]) (rest := []) (w' := (mt_W hm kA ka cI cK r9)) cx (k_X4_workOn l D hm kA ka cI cJ cK cS r7 x1 ((r7.1 7) (x1).toNatClampNeg) r9 hr9) pk_yX4_workOn ml_RX4_142 ⟨rfl, rfl⟩ ⟨(Nat.le_of_ble_eq_true rfl), (Nat.le_of_ble_eq_true rfl)⟩ ⟨(Nat.le_of_ble_eq_true rfl), (Nat.le_of_ble_eq_true rfl)⟩ 0 rfl rfl rfl rfl (Nat.le_of_ble_eq_true rfl) rfl dX4_goYear_43 rfl ?_
            exact sw_lv [0, 1] rfl (B46 _ ih r9 x1 hf)
  unfold f_X4_goYear at hf
  refine sw_iconst (pc' := 1) (v := 0) cx dX4_goYear_0 iconst_0 rfl ?_
  refine sw_istore_n (pc' := 2) (i := 1) (lv' := [(1, .int (0 : Int32)), (0, .ref (hm 0))]) cx dX4_goYear_1 rfl (Nat.le_of_ble_eq_true rfl) rfl rfl ?_
  exact sw_lv [1, 0] rfl (B2 1000 u (0 : Int32) hf)
abbrev rm_X4_goYears : Room := ({ frames := 5, cells := 0, slots := 0, locals := 110 } : Room)
set_option maxRecDepth 100000 in
set_option maxHeartbeats 4000000 in
theorem k_X4_goYears (l : Launch) (D : sf_D) (hm : Nat → Nat) (kA : Nat) (ka : Nat → Nat) (cI cJ cK cS : ClassId) (u : MtS) (a0 : Int32) (res : MtS) (hf : f_X4_goYears u a0 = some res) : sf_Ct l yX4_goYears cX4_goYears 3 none rm_X4_goYears D (sf_ty cI cJ cK cS) [.ref (hm 0), .int a0] (mt_W hm kA ka cI cK u) none (mt_W hm kA ka cI cK res) := by
  refine sf_met (lv := [(0, .ref (hm 0)), (1, .int a0)]) (by decide) (Nat.le_of_ble_eq_true rfl) rfl ?_
  intro p e s m args below meth c A Q cx hr hQ
  have cx : sf_Cx p m meth c cX4_goYears 3 s args RX4 D (sf_ty cI cJ cK cS) A := cx
  have B2 : ∀ (n : Nat), ∀ (u : MtS) (x1 : Int32) (x2 : Int32), f_X4_goYears_b2 n u x1 x2 = some res → sf_W p l e rm_X4_goYears s m args below meth c 0 0 Q 3 D A (mt_W hm kA ka cI cK u) [(0, .ref (hm 0)), (1, .int x1), (2, .int x2)] 2 [] := by
    intro n
    induction n with
    | zero => intro u x1 x2 hf; rw [f_X4_goYears_b2] at hf; cases hf
    | succ n ih =>
      intro u x1 x2 hf
      rw [f_X4_goYears_b2] at hf
      refine sw_iload_n (pc' := 3) (i := 2) cx dX4_goYears_2 rfl 2 rfl rfl ?_
      refine sw_iload_n (pc' := 4) (i := 1) cx dX4_goYears_3 rfl 1 rfl rfl ?_
      refine sw_icmp_ge (pc' := 7) (tgt := 37) cx dX4_goYears_4 (by decide) rfl (fun c1 => ?_) (fun c1 => ?_)
      · replace hf := it_p c1 hf
        obtain rfl := Option.some.inj hf
        exact sw_vret cx hr hQ dX4_goYears_37
      · replace hf := it_n c1 hf
        refine sw_aload_n (pc' := 8) (i := 0) cx dX4_goYears_7 rfl 0 rfl rfl ?_
        obtain ⟨r2, hr2, hf⟩ := bd_s hf
        refine sw_callVw (pc' := 11) (As := []) (rest := []) (w' := (mt_W hm kA ka cI cK u)) cx (k_X4_isAtRest l D hm kA ka cI cJ cK cS u  r2 hr2) pk_yX4_isAtRest ml_RX4_127 ⟨rfl, rfl⟩ ⟨(Nat.le_of_ble_eq_true rfl), (Nat.le_of_ble_eq_true rfl)⟩ ⟨(Nat.le_of_ble_eq_true rfl), (Nat.le_of_ble_eq_true rfl)⟩ 0 rfl rfl rfl rfl (Nat.le_of_ble_eq_true rfl) rfl dX4_goYears_8 rfl ?_
        refine sw_if_eq (pc' := 14) (tgt := 27) cx dX4_goYears_11 (by decide) rfl (fun c3 => ?_) (fun c3 => ?_)
        · replace hf := it_p c3 hf
          refine sw_aload_n (pc' := 28) (i := 0) cx dX4_goYears_27 rfl 0 rfl rfl ?_
          obtain ⟨r4, hr4, hf⟩ := bd_s hf
          refine sw_callVw (pc' := 31) (As := []) (rest := []) (w' := (mt_W hm kA ka cI cK r4)) cx (k_X4_goYear l D hm kA ka cI cJ cK cS u  r4 hr4) pk_yX4_goYear ml_RX4_130 ⟨rfl, rfl⟩ ⟨(Nat.le_of_ble_eq_true rfl), (Nat.le_of_ble_eq_true rfl)⟩ ⟨(Nat.le_of_ble_eq_true rfl), (Nat.le_of_ble_eq_true rfl)⟩ 0 rfl rfl rfl rfl (Nat.le_of_ble_eq_true rfl) rfl dX4_goYears_28 rfl ?_
          refine sw_iinc (pc' := 34) (v := (x2 + (1 : Int32))) (lv' := [(2, .int (x2 + (1 : Int32))), (0, .ref (hm 0)), (1, .int x1)]) cx dX4_goYears_31 2 rfl rfl (Nat.le_of_ble_eq_true rfl) rfl rfl ?_
          refine sw_goto (tgt := 2) cx dX4_goYears_34 (by decide) ?_
          exact sw_lv [1, 2, 0] rfl (ih r4 x1 (x2 + (1 : Int32)) hf)
        · replace hf := it_n c3 hf
          refine sw_aload_n (pc' := 15) (i := 0) cx dX4_goYears_14 rfl 0 rfl rfl ?_
          refine sw_dup (pc' := 16) cx dX4_goYears_15 rfl rfl ?_
          refine sw_get (pc' := 19) cx in_X4 0 rfl rfl 6 (Nat.le_of_ble_eq_true rfl) fl_RX4_66 rfl dX4_goYears_16 rfl ?_
          refine sw_iload_n (pc' := 20) (i := 1) cx dX4_goYears_19 rfl 1 rfl rfl ?_
          refine sw_iload_n (pc' := 21) (i := 2) cx dX4_goYears_20 rfl 2 rfl rfl ?_
          refine sw_isub (pc' := 22) cx dX4_goYears_21 rfl ?_
          refine sw_iadd (pc' := 23) cx dX4_goYears_22 rfl ?_
          refine sw_put (pc' := 26) (ws' := (mt_W hm kA ka cI cK (mt_mk ((u.1 0 0) + (x1 - x2)) (u.1 0 1) (u.1 0 2) (u.1 0 3) (u.1 0 4) (u.1 1) (u.1 2) (u.1 3) (u.1 4) (u.1 5) (u.1 6) (u.1 7) (u.1 8) (u.1 9) u.2))) cx in_X4 tyX4 tyX4_ok nmX4 0 rfl rfl 6 (Nat.le_of_ble_eq_true rfl) fl_RX4_66 rfl rfl rfl (Nat.le_of_ble_eq_true rfl) dX4_goYears_23 rfl rfl ?_
          obtain rfl := Option.some.inj hf
          exact sw_vret cx hr hQ dX4_goYears_26
  unfold f_X4_goYears at hf
  refine sw_iconst (pc' := 1) (v := 0) cx dX4_goYears_0 iconst_0 rfl ?_
  refine sw_istore_n (pc' := 2) (i := 2) (lv' := [(2, .int (0 : Int32)), (0, .ref (hm 0)), (1, .int a0)]) cx dX4_goYears_1 rfl (Nat.le_of_ble_eq_true rfl) rfl rfl ?_
  exact sw_lv [1, 2, 0] rfl (B2 1000 u a0 (0 : Int32) hf)
abbrev rm_X7_isMissing : Room := ({ frames := 0, cells := 0, slots := 0, locals := 0 } : Room)
set_option maxRecDepth 100000 in
set_option maxHeartbeats 4000000 in
theorem k_X7_isMissing (l : Launch) (D : sf_D) (a b : Nat) (cI cJ cK cS : ClassId) (num : Nat → Int64) (bit : Int32) (len : Int32)  (res : Int32) (hf : f_X7_isMissing bit = some res) : sf_Ct l yX7_isMissing cX7_isMissing 1 (some .boolean) rm_X7_isMissing D (sf_ty cI cJ cK cS) [.ref a] (sh_W a b cJ num bit len) (some (.int res)) (sh_W a b cJ num bit len) := by
  refine sf_met (lv := [(0, .ref a)]) (by decide) (Nat.le_of_ble_eq_true rfl) rfl ?_
  intro p e s m args below meth c A Q cx hr hQ
  have cx : sf_Cx p m meth c cX7_isMissing 1 s args RX7 D (sf_ty cI cJ cK cS) A := cx
  unfold f_X7_isMissing at hf
  refine sw_aload_n (pc' := 1) (i := 0) cx dX7_isMissing_0 rfl 0 rfl rfl ?_
  refine sw_get (pc' := 4) cx in_X7 0 rfl rfl 1 (Nat.le_of_ble_eq_true rfl) fl_RX7_15 rfl dX7_isMissing_1 rfl ?_
  refine sw_if_ne (pc' := 7) (tgt := 11) cx dX7_isMissing_4 (by decide) rfl (fun c1 => ?_) (fun c1 => ?_)
  · replace hf := it_n c1 hf
    refine sw_iconst (pc' := 12) (v := 0) cx dX7_isMissing_11 iconst_0 rfl ?_
    obtain rfl := Option.some.inj hf
    exact sw_zret cx hr (by decide +kernel) hQ dX7_isMissing_12
  · replace hf := it_p c1 hf
    refine sw_iconst (pc' := 8) (v := 1) cx dX7_isMissing_7 iconst_1 rfl ?_
    refine sw_goto (tgt := 12) cx dX7_isMissing_8 (by decide) ?_
    obtain rfl := Option.some.inj hf
    exact sw_zret cx hr (by decide +kernel) hQ dX7_isMissing_12
abbrev rm_X7_layOut : Room := ({ frames := 1, cells := 0, slots := 0, locals := 24 } : Room)
set_option maxRecDepth 100000 in
set_option maxHeartbeats 4000000 in
theorem k_X7_layOut (l : Launch) (D : sf_D) (a b : Nat) (cI cJ cK cS : ClassId) (num : Nat → Int64) (bit : Int32) (len : Int32) (a0 : Int32) (a1 : Int32) (res : (Nat → Int64) × Int32 × Int32) (hf : f_X7_layOut num bit len a0 a1 = some res) : sf_Ct l yX7_layOut cX7_layOut 3 none rm_X7_layOut D (sf_ty cI cJ cK cS) [.ref a, .int a0, .int a1] (sh_W a b cJ num bit len) none (sh_W a b cJ res.1 res.2.1 res.2.2) := by
  refine sf_met (lv := [(0, .ref a), (1, .int a0), (2, .int a1)]) (by decide) (Nat.le_of_ble_eq_true rfl) rfl ?_
  intro p e s m args below meth c A Q cx hr hQ
  have cx : sf_Cx p m meth c cX7_layOut 3 s args RX7 D (sf_ty cI cJ cK cS) A := cx
  have B15 : ∀ (num : Nat → Int64) (bit : Int32) (len : Int32) (s0 : Int32), f_X7_layOut_b15 num bit len s0 = some res → sf_W p l e rm_X7_layOut s m args below meth c 0 0 Q 3 D A (sh_W a b cJ num bit len) [(0, .ref a)] 15 [.int s0, .ref a] := by
    intro num bit len s0 hf
    unfold f_X7_layOut_b15 at hf
    refine sw_put (pc' := 18) (ws' := (sh_W a b cJ num bit s0)) cx in_X7 tyX7 tyX7_ok nmX7 0 rfl rfl 2 (Nat.le_of_ble_eq_true rfl) fl_RX7_19 rfl rfl rfl (Nat.le_of_ble_eq_true rfl) dX7_layOut_15 rfl rfl ?_
    refine sw_aload_n (pc' := 19) (i := 0) cx dX7_layOut_18 rfl 0 rfl rfl ?_
    refine sw_get (pc' := 22) cx in_X7 0 rfl rfl 0 (Nat.le_of_ble_eq_true rfl) fl_RX7_9 rfl dX7_layOut_19 rfl ?_
    refine sw_lconst (pc' := 23) (v := 0) cx dX7_layOut_22 rfl rfl ?_
    obtain ⟨r2, hr2, hf⟩ := bd_s hf
    refine sw_callS (pc' := 26) (As := [.ref b, .long (0 : Int64)]) (rest := []) cx (k_J7_fill_d0a16 l D b cI cJ cK cS num (0 : Int64) r2 hr2) pk_yJ7_fill_d0a16 ml_RX7_22 ⟨rfl, rfl⟩ ⟨(Nat.le_of_ble_eq_true rfl), (Nat.le_of_ble_eq_true rfl)⟩ ⟨(Nat.le_of_ble_eq_true rfl), (Nat.le_of_ble_eq_true rfl)⟩ [1] rfl rfl rfl (wn := (sh_W a b cJ r2 bit s0)) rfl rfl (Nat.le_of_ble_eq_true rfl) rfl dX7_layOut_23 rfl ?_
    obtain rfl := Option.some.inj hf
    exact sw_vret cx hr hQ dX7_layOut_26
  unfold f_X7_layOut at hf
  refine sw_aload_n (pc' := 1) (i := 0) cx dX7_layOut_0 rfl 0 rfl rfl ?_
  refine sw_iload_n (pc' := 2) (i := 1) cx dX7_layOut_1 rfl 1 rfl rfl ?_
  refine sw_put (pc' := 5) (ws' := (sh_W a b cJ num a0 len)) cx in_X7 tyX7 tyX7_ok nmX7 0 rfl rfl 1 (Nat.le_of_ble_eq_true rfl) fl_RX7_15 rfl rfl rfl (Nat.le_of_ble_eq_true rfl) dX7_layOut_2 rfl rfl ?_
  refine sw_aload_n (pc' := 6) (i := 0) cx dX7_layOut_5 rfl 0 rfl rfl ?_
  refine sw_iload_n (pc' := 7) (i := 1) cx dX7_layOut_6 rfl 1 rfl rfl ?_
  refine sw_if_ne (pc' := 10) (tgt := 14) cx dX7_layOut_7 (by decide) rfl (fun c1 => ?_) (fun c1 => ?_)
  · replace hf := it_n c1 hf
    refine sw_iload_n (pc' := 15) (i := 2) cx dX7_layOut_14 rfl 2 rfl rfl ?_
    exact sw_lv [0] rfl (B15 num a0 len a1 hf)
  · replace hf := it_p c1 hf
    refine sw_iconst (pc' := 11) (v := 0) cx dX7_layOut_10 iconst_0 rfl ?_
    refine sw_goto (tgt := 15) cx dX7_layOut_11 (by decide) ?_
    exact sw_lv [0] rfl (B15 num a0 len (0 : Int32) hf)
abbrev rm_X7_holds : Room := ({ frames := 0, cells := 0, slots := 0, locals := 0 } : Room)
set_option maxRecDepth 100000 in
set_option maxHeartbeats 4000000 in
theorem k_X7_holds (l : Launch) (D : sf_D) (a b : Nat) (cI cJ cK cS : ClassId) (num : Nat → Int64) (bit : Int32) (len : Int32) (a0 : Int32) (a1 : Int32) (res : Int32) (hf : f_X7_holds len a0 a1 = some res) : sf_Ct l yX7_holds cX7_holds 3 (some .boolean) rm_X7_holds D (sf_ty cI cJ cK cS) [.ref a, .int a0, .int a1] (sh_W a b cJ num bit len) (some (.int res)) (sh_W a b cJ num bit len) := by
  refine sf_met (lv := [(0, .ref a), (1, .int a0), (2, .int a1)]) (by decide) (Nat.le_of_ble_eq_true rfl) rfl ?_
  intro p e s m args below meth c A Q cx hr hQ
  have cx : sf_Cx p m meth c cX7_holds 3 s args RX7 D (sf_ty cI cJ cK cS) A := cx
  unfold f_X7_holds at hf
  refine sw_iload_n (pc' := 1) (i := 1) cx dX7_holds_0 rfl 1 rfl rfl ?_
  refine sw_if_lt (pc' := 4) (tgt := 30) cx dX7_holds_1 (by decide) rfl (fun c1 => ?_) (fun c1 => ?_)
  · replace hf := it_p c1 hf
    refine sw_iconst (pc' := 31) (v := 0) cx dX7_holds_30 iconst_0 rfl ?_
    obtain rfl := Option.some.inj hf
    exact sw_zret cx hr (by decide +kernel) hQ dX7_holds_31
  · replace hf := it_n c1 hf
    refine sw_iload_n (pc' := 5) (i := 2) cx dX7_holds_4 rfl 2 rfl rfl ?_
    refine sw_if_lt (pc' := 8) (tgt := 30) cx dX7_holds_5 (by decide) rfl (fun c2 => ?_) (fun c2 => ?_)
    · replace hf := it_p c2 hf
      refine sw_iconst (pc' := 31) (v := 0) cx dX7_holds_30 iconst_0 rfl ?_
      obtain rfl := Option.some.inj hf
      exact sw_zret cx hr (by decide +kernel) hQ dX7_holds_31
    · replace hf := it_n c2 hf
      refine sw_iload_n (pc' := 9) (i := 2) cx dX7_holds_8 rfl 2 rfl rfl ?_
      refine sw_aload_n (pc' := 10) (i := 0) cx dX7_holds_9 rfl 0 rfl rfl ?_
      refine sw_get (pc' := 13) cx in_X7 0 rfl rfl 2 (Nat.le_of_ble_eq_true rfl) fl_RX7_19 rfl dX7_holds_10 rfl ?_
      refine sw_icmp_gt (pc' := 16) (tgt := 30) cx dX7_holds_13 (by decide) rfl (fun c3 => ?_) (fun c3 => ?_)
      · replace hf := it_p c3 hf
        refine sw_iconst (pc' := 31) (v := 0) cx dX7_holds_30 iconst_0 rfl ?_
        obtain rfl := Option.some.inj hf
        exact sw_zret cx hr (by decide +kernel) hQ dX7_holds_31
      · replace hf := it_n c3 hf
        refine sw_iload_n (pc' := 17) (i := 1) cx dX7_holds_16 rfl 1 rfl rfl ?_
        refine sw_aload_n (pc' := 18) (i := 0) cx dX7_holds_17 rfl 0 rfl rfl ?_
        refine sw_get (pc' := 21) cx in_X7 0 rfl rfl 2 (Nat.le_of_ble_eq_true rfl) fl_RX7_19 rfl dX7_holds_18 rfl ?_
        refine sw_iload_n (pc' := 22) (i := 2) cx dX7_holds_21 rfl 2 rfl rfl ?_
        refine sw_isub (pc' := 23) cx dX7_holds_22 rfl ?_
        refine sw_icmp_gt (pc' := 26) (tgt := 30) cx dX7_holds_23 (by decide) rfl (fun c4 => ?_) (fun c4 => ?_)
        · replace hf := it_p c4 hf
          refine sw_iconst (pc' := 31) (v := 0) cx dX7_holds_30 iconst_0 rfl ?_
          obtain rfl := Option.some.inj hf
          exact sw_zret cx hr (by decide +kernel) hQ dX7_holds_31
        · replace hf := it_n c4 hf
          refine sw_iconst (pc' := 27) (v := 1) cx dX7_holds_26 iconst_1 rfl ?_
          refine sw_goto (tgt := 31) cx dX7_holds_27 (by decide) ?_
          obtain rfl := Option.some.inj hf
          exact sw_zret cx hr (by decide +kernel) hQ dX7_holds_31
abbrev rm_X7_lowest : Room := ({ frames := 0, cells := 0, slots := 0, locals := 0 } : Room)
set_option maxRecDepth 100000 in
set_option maxHeartbeats 4000000 in
theorem k_X7_lowest (l : Launch) (D : sf_D) (a b : Nat) (cI cJ cK cS : ClassId) (num : Nat → Int64) (bit : Int32) (len : Int32) (a0 : Int64) (res : Int64) (hf : f_X7_lowest bit a0 = some res) : sf_Ct l yX7_lowest cX7_lowest 3 (some .long) rm_X7_lowest D (sf_ty cI cJ cK cS) [.ref a, .long a0] (sh_W a b cJ num bit len) (some (.long res)) (sh_W a b cJ num bit len) := by
  refine sf_met (lv := [(0, .ref a), (1, .long a0)]) (by decide) (Nat.le_of_ble_eq_true rfl) rfl ?_
  intro p e s m args below meth c A Q cx hr hQ
  have cx : sf_Cx p m meth c cX7_lowest 3 s args RX7 D (sf_ty cI cJ cK cS) A := cx
  unfold f_X7_lowest at hf
  refine sw_aload_n (pc' := 1) (i := 0) cx dX7_lowest_0 rfl 0 rfl rfl ?_
  refine sw_get (pc' := 4) cx in_X7 0 rfl rfl 1 (Nat.le_of_ble_eq_true rfl) fl_RX7_15 rfl dX7_lowest_1 rfl ?_
  refine sw_bipush (pc' := 6) (v := 8) cx dX7_lowest_4 bipush_8 rfl ?_
  refine sw_icmp_ne (pc' := 9) (tgt := 14) cx dX7_lowest_6 (by decide) rfl (fun c1 => ?_) (fun c1 => ?_)
  · replace hf := it_n c1 hf
    refine sw_aload_n (pc' := 15) (i := 0) cx dX7_lowest_14 rfl 0 rfl rfl ?_
    refine sw_get (pc' := 18) cx in_X7 0 rfl rfl 1 (Nat.le_of_ble_eq_true rfl) fl_RX7_15 rfl dX7_lowest_15 rfl ?_
    refine sw_bipush (pc' := 20) (v := 16) cx dX7_lowest_18 bipush_16 rfl ?_
    refine sw_icmp_ne (pc' := 23) (tgt := 30) cx dX7_lowest_20 (by decide) rfl (fun c2 => ?_) (fun c2 => ?_)
    · replace hf := it_n c2 hf
      refine sw_lload_n (pc' := 31) (i := 1) cx dX7_lowest_30 rfl 1 rfl rfl ?_
      obtain rfl := Option.some.inj hf
      exact sw_lret cx hr hQ dX7_lowest_31
    · replace hf := it_p c2 hf
      refine sw_lload_n (pc' := 24) (i := 1) cx dX7_lowest_23 rfl 1 rfl rfl ?_
      refine sw_l2i (pc' := 25) cx dX7_lowest_24 rfl ?_
      refine sw_i2s (pc' := 26) cx dX7_lowest_25 rfl ?_
      refine sw_i2l (pc' := 27) cx dX7_lowest_26 rfl ?_
      refine sw_goto (tgt := 31) cx dX7_lowest_27 (by decide) ?_
      obtain rfl := Option.some.inj hf
      exact sw_lret cx hr hQ dX7_lowest_31
  · replace hf := it_p c1 hf
    refine sw_lload_n (pc' := 10) (i := 1) cx dX7_lowest_9 rfl 1 rfl rfl ?_
    refine sw_l2i (pc' := 11) cx dX7_lowest_10 rfl ?_
    refine sw_i2b (pc' := 12) cx dX7_lowest_11 rfl ?_
    refine sw_i2l (pc' := 13) cx dX7_lowest_12 rfl ?_
    obtain rfl := Option.some.inj hf
    exact sw_lret cx hr hQ dX7_lowest_13
abbrev rm_X7_put : Room := ({ frames := 1, cells := 0, slots := 0, locals := 22 } : Room)
set_option maxRecDepth 100000 in
set_option maxHeartbeats 4000000 in
theorem k_X7_put (l : Launch) (D : sf_D) (a b : Nat) (cI cJ cK cS : ClassId) (num : Nat → Int64) (bit : Int32) (len : Int32) (a0 : Int32) (a1 : Int64) (res : (Nat → Int64)) (hf : f_X7_put num bit len a0 a1 = some res) : sf_Ct l yX7_put cX7_put 4 none rm_X7_put D (sf_ty cI cJ cK cS) [.ref a, .int a0, .long a1] (sh_W a b cJ num bit len) none (sh_W a b cJ res bit len) := by
  refine sf_met (lv := [(0, .ref a), (1, .int a0), (2, .long a1)]) (by decide) (Nat.le_of_ble_eq_true rfl) rfl ?_
  intro p e s m args below meth c A Q cx hr hQ
  have cx : sf_Cx p m meth c cX7_put 4 s args RX7 D (sf_ty cI cJ cK cS) A := cx
  unfold f_X7_put at hf
  refine sw_aload_n (pc' := 1) (i := 0) cx dX7_put_0 rfl 0 rfl rfl ?_
  refine sw_iload_n (pc' := 2) (i := 1) cx dX7_put_1 rfl 1 rfl rfl ?_
  refine sw_iconst (pc' := 3) (v := 1) cx dX7_put_2 iconst_1 rfl ?_
  obtain ⟨r1, hr1, hf⟩ := bd_s hf
  refine sw_callVw (pc' := 6) (As := [.int a0, .int (1 : Int32)]) (rest := []) (w' := (sh_W a b cJ num bit len)) cx (k_X7_holds l D a b cI cJ cK cS num bit len a0 (1 : Int32) r1 hr1) pk_yX7_holds ml_RX7_28 ⟨rfl, rfl⟩ ⟨(Nat.le_of_ble_eq_true rfl), (Nat.le_of_ble_eq_true rfl)⟩ ⟨(Nat.le_of_ble_eq_true rfl), (Nat.le_of_ble_eq_true rfl)⟩ 0 rfl rfl rfl rfl (Nat.le_of_ble_eq_true rfl) rfl dX7_put_3 rfl ?_
  refine sw_if_eq (pc' := 9) (tgt := 20) cx dX7_put_6 (by decide) rfl (fun c2 => ?_) (fun c2 => ?_)
  · replace hf := it_p c2 hf
    obtain rfl := Option.some.inj hf
    exact sw_vret cx hr hQ dX7_put_20
  · replace hf := it_n c2 hf
    refine sw_aload_n (pc' := 10) (i := 0) cx dX7_put_9 rfl 0 rfl rfl ?_
    refine sw_get (pc' := 13) cx in_X7 0 rfl rfl 0 (Nat.le_of_ble_eq_true rfl) fl_RX7_9 rfl dX7_put_10 rfl ?_
    refine sw_iload_n (pc' := 14) (i := 1) cx dX7_put_13 rfl 1 rfl rfl ?_
    refine sw_aload_n (pc' := 15) (i := 0) cx dX7_put_14 rfl 0 rfl rfl ?_
    refine sw_lload_n (pc' := 16) (i := 2) cx dX7_put_15 rfl 2 rfl rfl ?_
    obtain ⟨r3, hr3, hf⟩ := bd_s hf
    refine sw_callVw (pc' := 19) (As := [.long a1]) (rest := [.int a0, .ref b]) (w' := (sh_W a b cJ num bit len)) cx (k_X7_lowest l D a b cI cJ cK cS num bit len a1 r3 hr3) pk_yX7_lowest ml_RX7_32 ⟨rfl, rfl⟩ ⟨(Nat.le_of_ble_eq_true rfl), (Nat.le_of_ble_eq_true rfl)⟩ ⟨(Nat.le_of_ble_eq_true rfl), (Nat.le_of_ble_eq_true rfl)⟩ 0 rfl rfl rfl rfl (Nat.le_of_ble_eq_true rfl) rfl dX7_put_16 rfl ?_
    obtain ⟨h4, hf⟩ := gx_s hf
    refine sw_last (pc' := 20) (ws' := (sh_W a b cJ (vp_updL num (a0).toNatClampNeg r3) bit len)) cx 1 1 rfl rfl h4 dX7_put_19 rfl rfl ?_
    obtain rfl := Option.some.inj hf
    exact sw_vret cx hr hQ dX7_put_20
