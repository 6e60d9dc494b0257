theorem sel_RX9_yX9_found : Cond.selects RX9 yX9_found yX9_found ∈ sf_gtbl := sf_mem 0 (by decide +kernel) rfl
theorem sel_RX9_yX9_againstYears : Cond.selects RX9 yX9_againstYears yX9_againstYears ∈ sf_gtbl := sf_mem 1 (by decide +kernel) rfl
theorem sel_RX9_yX9_isTooLateFor : Cond.selects RX9 yX9_isTooLateFor yX9_isTooLateFor ∈ sf_gtbl := sf_mem 2 (by decide +kernel) rfl
theorem sel_RX4_yX4_isAtRest : Cond.selects RX4 yX4_isAtRest yX4_isAtRest ∈ sf_gtbl := sf_mem 3 (by decide +kernel) rfl
theorem sel_RX4_yX4_goYear : Cond.selects RX4 yX4_goYear yX4_goYear ∈ sf_gtbl := sf_mem 4 (by decide +kernel) rfl
theorem sel_RX4_yX4_goOn : Cond.selects RX4 yX4_goOn yX4_goOn ∈ sf_gtbl := sf_mem 5 (by decide +kernel) rfl
theorem sel_RX4_yX4_workOn : Cond.selects RX4 yX4_workOn yX4_workOn ∈ sf_gtbl := sf_mem 6 (by decide +kernel) rfl
theorem sel_RX4_yX4_freeze : Cond.selects RX4 yX4_freeze yX4_freeze ∈ sf_gtbl := sf_mem 7 (by decide +kernel) rfl
theorem sel_RX4_yX4_draw : Cond.selects RX4 yX4_draw yX4_draw ∈ sf_gtbl := sf_mem 8 (by decide +kernel) rfl
theorem sel_RX9_yX9_startTrial : Cond.selects RX9 yX9_startTrial yX9_startTrial ∈ sf_gtbl := sf_mem 9 (by decide +kernel) rfl
theorem sel_RX8_yX8_advance : Cond.selects RX8 yX8_advance yX8_advance ∈ sf_gtbl := sf_mem 10 (by decide +kernel) rfl
theorem sel_RX8_yX8_item : Cond.selects RX8 yX8_item yX8_item ∈ sf_gtbl := sf_mem 11 (by decide +kernel) rfl
theorem sel_RX8_yX8_isWord : Cond.selects RX8 yX8_isWord yX8_isWord ∈ sf_gtbl := sf_mem 12 (by decide +kernel) rfl
theorem sel_RX8_yX8_fineItem : Cond.selects RX8 yX8_fineItem yX8_fineItem ∈ sf_gtbl := sf_mem 13 (by decide +kernel) rfl
theorem sel_RX8_yX8_take : Cond.selects RX8 yX8_take yX8_take ∈ sf_gtbl := sf_mem 14 (by decide +kernel) rfl
theorem sel_RX8_yX8_takeWord : Cond.selects RX8 yX8_takeWord yX8_takeWord ∈ sf_gtbl := sf_mem 15 (by decide +kernel) rfl
theorem sel_RX8_yX8_rockItem : Cond.selects RX8 yX8_rockItem yX8_rockItem ∈ sf_gtbl := sf_mem 16 (by decide +kernel) rfl
theorem sel_RX7_yX7_lowest : Cond.selects RX7 yX7_lowest yX7_lowest ∈ sf_gtbl := sf_mem 17 (by decide +kernel) rfl
theorem sel_RX10_yX10_finds : Cond.selects RX10 yX10_finds yX10_finds ∈ sf_gtbl := sf_mem 18 (by decide +kernel) rfl
theorem sel_RX10_yX10_addFine : Cond.selects RX10 yX10_addFine yX10_addFine ∈ sf_gtbl := sf_mem 19 (by decide +kernel) rfl
theorem sel_RX10_yX10_sets : Cond.selects RX10 yX10_sets yX10_sets ∈ sf_gtbl := sf_mem 20 (by decide +kernel) rfl
theorem sel_RX10_yX10_isFine : Cond.selects RX10 yX10_isFine yX10_isFine ∈ sf_gtbl := sf_mem 21 (by decide +kernel) rfl
theorem sel_RX10_yX10_its : Cond.selects RX10 yX10_its yX10_its ∈ sf_gtbl := sf_mem 22 (by decide +kernel) rfl
theorem sel_RX10_yX10_works : Cond.selects RX10 yX10_works yX10_works ∈ sf_gtbl := sf_mem 23 (by decide +kernel) rfl
theorem sel_RX10_yX10_fineOf : Cond.selects RX10 yX10_fineOf yX10_fineOf ∈ sf_gtbl := sf_mem 24 (by decide +kernel) rfl
theorem sel_RX10_yX10_wholes : Cond.selects RX10 yX10_wholes yX10_wholes ∈ sf_gtbl := sf_mem 25 (by decide +kernel) rfl
theorem sel_RX10_yX10_highAt : Cond.selects RX10 yX10_highAt yX10_highAt ∈ sf_gtbl := sf_mem 26 (by decide +kernel) rfl
theorem sel_RX10_yX10_cutBy : Cond.selects RX10 yX10_cutBy yX10_cutBy ∈ sf_gtbl := sf_mem 27 (by decide +kernel) rfl
theorem sel_RX10_yX10_isWhole : Cond.selects RX10 yX10_isWhole yX10_isWhole ∈ sf_gtbl := sf_mem 28 (by decide +kernel) rfl
theorem sel_RX10_yX10_wholeSet : Cond.selects RX10 yX10_wholeSet yX10_wholeSet ∈ sf_gtbl := sf_mem 29 (by decide +kernel) rfl
theorem sel_RX10_yX10_cuts : Cond.selects RX10 yX10_cuts yX10_cuts ∈ sf_gtbl := sf_mem 30 (by decide +kernel) rfl
theorem sel_RX10_yX10_breaks : Cond.selects RX10 yX10_breaks yX10_breaks ∈ sf_gtbl := sf_mem 31 (by decide +kernel) rfl
theorem sel_RX10_yX10_reachNow : Cond.selects RX10 yX10_reachNow yX10_reachNow ∈ sf_gtbl := sf_mem 32 (by decide +kernel) rfl
theorem sel_RX10_yX10_meets : Cond.selects RX10 yX10_meets yX10_meets ∈ sf_gtbl := sf_mem 33 (by decide +kernel) rfl
theorem sel_RX10_yX10_rises : Cond.selects RX10 yX10_rises yX10_rises ∈ sf_gtbl := sf_mem 34 (by decide +kernel) rfl
theorem sel_RX10_yX10_areBoth : Cond.selects RX10 yX10_areBoth yX10_areBoth ∈ sf_gtbl := sf_mem 35 (by decide +kernel) rfl
theorem sel_RX10_yX10_isLate : Cond.selects RX10 yX10_isLate yX10_isLate ∈ sf_gtbl := sf_mem 36 (by decide +kernel) rfl
theorem sel_RX10_yX10_go : Cond.selects RX10 yX10_go yX10_go ∈ sf_gtbl := sf_mem 37 (by decide +kernel) rfl
theorem sel_RX10_yX10_yearGoes : Cond.selects RX10 yX10_yearGoes yX10_yearGoes ∈ sf_gtbl := sf_mem 38 (by decide +kernel) rfl
theorem sel_RX10_yX10_serves : Cond.selects RX10 yX10_serves yX10_serves ∈ sf_gtbl := sf_mem 39 (by decide +kernel) rfl
theorem sel_RX10_yX10_freezes : Cond.selects RX10 yX10_freezes yX10_freezes ∈ sf_gtbl := sf_mem 40 (by decide +kernel) rfl
theorem sel_RX10_yX10_lends : Cond.selects RX10 yX10_lends yX10_lends ∈ sf_gtbl := sf_mem 41 (by decide +kernel) rfl
theorem sel_RX10_yX10_reachThen : Cond.selects RX10 yX10_reachThen yX10_reachThen ∈ sf_gtbl := sf_mem 42 (by decide +kernel) rfl
theorem sel_RX10_yX10_moveAll : Cond.selects RX10 yX10_moveAll yX10_moveAll ∈ sf_gtbl := sf_mem 43 (by decide +kernel) rfl
theorem sel_RX10_yX10_advance : Cond.selects RX10 yX10_advance yX10_advance ∈ sf_gtbl := sf_mem 44 (by decide +kernel) rfl
theorem sel_RX10_yX10_byteAt : Cond.selects RX10 yX10_byteAt yX10_byteAt ∈ sf_gtbl := sf_mem 45 (by decide +kernel) rfl
theorem sel_RX10_yX10_wantItem : Cond.selects RX10 yX10_wantItem yX10_wantItem ∈ sf_gtbl := sf_mem 46 (by decide +kernel) rfl
theorem sel_RX10_yX10_kindHere : Cond.selects RX10 yX10_kindHere yX10_kindHere ∈ sf_gtbl := sf_mem 47 (by decide +kernel) rfl
theorem sel_RX10_yX10_isWord : Cond.selects RX10 yX10_isWord yX10_isWord ∈ sf_gtbl := sf_mem 48 (by decide +kernel) rfl
theorem sel_RX10_yX10_wantFine : Cond.selects RX10 yX10_wantFine yX10_wantFine ∈ sf_gtbl := sf_mem 49 (by decide +kernel) rfl
theorem sel_RX10_yX10_wantNumber : Cond.selects RX10 yX10_wantNumber yX10_wantNumber ∈ sf_gtbl := sf_mem 50 (by decide +kernel) rfl
theorem sel_RX10_yX10_wantWord : Cond.selects RX10 yX10_wantWord yX10_wantWord ∈ sf_gtbl := sf_mem 51 (by decide +kernel) rfl
theorem sel_RX10_yX10_mayWant : Cond.selects RX10 yX10_mayWant yX10_mayWant ∈ sf_gtbl := sf_mem 52 (by decide +kernel) rfl
theorem sel_RX10_yX10_wantRock : Cond.selects RX10 yX10_wantRock yX10_wantRock ∈ sf_gtbl := sf_mem 53 (by decide +kernel) rfl
theorem sel_RX10_yX10_wantLet : Cond.selects RX10 yX10_wantLet yX10_wantLet ∈ sf_gtbl := sf_mem 54 (by decide +kernel) rfl
theorem sel_RX10_yX10_isPart_ : Cond.selects RX10 yX10_isPart_ yX10_isPart_ ∈ sf_gtbl := sf_mem 55 (by decide +kernel) rfl
theorem ini_RL : Cond.initialized RL ∈ sf_gtbl := sf_mem 56 (by decide +kernel) rfl
theorem ini_RX9 : Cond.initialized RX9 ∈ sf_gtbl := sf_mem 57 (by decide +kernel) rfl
theorem ini_RX3 : Cond.initialized RX3 ∈ sf_gtbl := sf_mem 58 (by decide +kernel) rfl
theorem ini_RX6 : Cond.initialized RX6 ∈ sf_gtbl := sf_mem 59 (by decide +kernel) rfl
theorem ini_RX0 : Cond.initialized RX0 ∈ sf_gtbl := sf_mem 60 (by decide +kernel) rfl
theorem ini_RX2 : Cond.initialized RX2 ∈ sf_gtbl := sf_mem 61 (by decide +kernel) rfl
theorem ini_RX1 : Cond.initialized RX1 ∈ sf_gtbl := sf_mem 62 (by decide +kernel) rfl
theorem ini_RX5 : Cond.initialized RX5 ∈ sf_gtbl := sf_mem 63 (by decide +kernel) rfl
theorem ini_RX4 : Cond.initialized RX4 ∈ sf_gtbl := sf_mem 64 (by decide +kernel) rfl
theorem ini_RJ7 : Cond.initialized RJ7 ∈ sf_gtbl := sf_mem 65 (by decide +kernel) rfl
theorem ini_RX8 : Cond.initialized RX8 ∈ sf_gtbl := sf_mem 66 (by decide +kernel) rfl
theorem ini_RX7 : Cond.initialized RX7 ∈ sf_gtbl := sf_mem 67 (by decide +kernel) rfl
theorem ini_RX10 : Cond.initialized RX10 ∈ sf_gtbl := sf_mem 68 (by decide +kernel) rfl
theorem ini_RJ13 : Cond.initialized RJ13 ∈ sf_gtbl := sf_mem 69 (by decide +kernel) rfl
theorem ini_RJ9 : Cond.initialized RJ9 ∈ sf_gtbl := sf_mem 70 (by decide +kernel) rfl
theorem ini_RJ10 : Cond.initialized RJ10 ∈ sf_gtbl := sf_mem 71 (by decide +kernel) rfl
theorem ini_RJ0 : Cond.initialized RJ0 ∈ sf_gtbl := sf_mem 72 (by decide +kernel) rfl
theorem ini_RJ1 : Cond.initialized RJ1 ∈ sf_gtbl := sf_mem 73 (by decide +kernel) rfl
theorem ini_RJ3 : Cond.initialized RJ3 ∈ sf_gtbl := sf_mem 74 (by decide +kernel) rfl
theorem ini_RJ2 : Cond.initialized RJ2 ∈ sf_gtbl := sf_mem 75 (by decide +kernel) rfl
theorem cln_RL_7 : Cond.classLink RL 7 RX9 ∈ sf_gtbl := sf_mem 76 (by decide +kernel) rfl
theorem isn_RX9 : Cond.instantiable RX9 7 ∈ sf_gtbl := sf_mem 77 (by decide +kernel) rfl
theorem ml_RL_9 : Cond.methodLink RL 9 yX9_init ∈ sf_gtbl := sf_mem 78 (by decide +kernel) rfl
theorem inst_yX9_init : Cond.instanceMethod yX9_init ∈ sf_gtbl := sf_mem 79 (by decide +kernel) rfl
set_option maxRecDepth 100000 in
theorem code_yX9_init : Cond.code yX9_init cX9_init 2 none ∈ sf_gtbl := sf_mem 80 rfl rfl
theorem ml_RX9_3 : Cond.methodLink RX9 3 objectInit ∈ sf_gtbl := sf_mem 81 (by decide +kernel) rfl
theorem inst_objectInit : Cond.instanceMethod objectInit ∈ sf_gtbl := sf_mem 82 (by decide +kernel) rfl
theorem code_objectInit : Cond.code objectInit ⟨#[0xb1]⟩ 1 none ∈ sf_gtbl := sf_mem 83 (by decide +kernel) rfl
theorem cln_RX9_9 : Cond.classLink RX9 9 RX3 ∈ sf_gtbl := sf_mem 84 (by decide +kernel) rfl
theorem isn_RX3 : Cond.instantiable RX3 0 ∈ sf_gtbl := sf_mem 86 (by decide +kernel) rfl
theorem mn_RX9_11 : Cond.methodLinkNest RX9 11 yX3_init "StairFines" ∈ sf_nwL := sf_memN 31 (by decide +kernel) rfl
theorem inst_yX3_init : Cond.instanceMethod yX3_init ∈ sf_gtbl := sf_mem 88 (by decide +kernel) rfl
set_option maxRecDepth 100000 in
theorem code_yX3_init : Cond.code yX3_init cX3_init 1 none ∈ sf_gtbl := sf_mem 89 rfl rfl
theorem ml_RX3_1 : Cond.methodLink RX3 1 objectInit ∈ sf_gtbl := sf_mem 90 (by decide +kernel) rfl
theorem cln_RX9_12 : Cond.classLink RX9 12 RX6 ∈ sf_gtbl := sf_mem 92 (by decide +kernel) rfl
theorem isn_RX6 : Cond.instantiable RX6 0 ∈ sf_gtbl := sf_mem 93 (by decide +kernel) rfl
theorem mn_RX9_14 : Cond.methodLinkNest RX9 14 yX6_init "StairFines" ∈ sf_nwL := sf_memN 38 (by decide +kernel) rfl
theorem inst_yX6_init : Cond.instanceMethod yX6_init ∈ sf_gtbl := sf_mem 95 (by decide +kernel) rfl
set_option maxRecDepth 100000 in
theorem code_yX6_init : Cond.code yX6_init cX6_init 1 none ∈ sf_gtbl := sf_mem 96 rfl rfl
theorem mn_RX6_1 : Cond.methodLinkNest RX6 1 yX3_init "StairFines" ∈ sf_nwL := sf_memN 41 (by decide +kernel) rfl
theorem sup_RX6_RX3 : Cond.superclass RX6 RX3 ∈ sf_gtbl := sf_mem 98 (by decide +kernel) rfl
theorem cln_RX9_15 : Cond.classLink RX9 15 RX0 ∈ sf_gtbl := sf_mem 99 (by decide +kernel) rfl
theorem isn_RX0 : Cond.instantiable RX0 0 ∈ sf_gtbl := sf_mem 100 (by decide +kernel) rfl
theorem mn_RX9_17 : Cond.methodLinkNest RX9 17 yX0_init "StairFines" ∈ sf_nwL := sf_memN 45 (by decide +kernel) rfl
theorem inst_yX0_init : Cond.instanceMethod yX0_init ∈ sf_gtbl := sf_mem 102 (by decide +kernel) rfl
set_option maxRecDepth 100000 in
theorem code_yX0_init : Cond.code yX0_init cX0_init 1 none ∈ sf_gtbl := sf_mem 103 rfl rfl
theorem mn_RX0_1 : Cond.methodLinkNest RX0 1 yX3_init "StairFines" ∈ sf_nwL := sf_memN 48 (by decide +kernel) rfl
theorem sup_RX0_RX3 : Cond.superclass RX0 RX3 ∈ sf_gtbl := sf_mem 105 (by decide +kernel) rfl
theorem cln_RX9_18 : Cond.classLink RX9 18 RX2 ∈ sf_gtbl := sf_mem 106 (by decide +kernel) rfl
theorem isn_RX2 : Cond.instantiable RX2 0 ∈ sf_gtbl := sf_mem 107 (by decide +kernel) rfl
theorem mn_RX9_20 : Cond.methodLinkNest RX9 20 yX2_init "StairFines" ∈ sf_nwL := sf_memN 52 (by decide +kernel) rfl
theorem inst_yX2_init : Cond.instanceMethod yX2_init ∈ sf_gtbl := sf_mem 109 (by decide +kernel) rfl
set_option maxRecDepth 100000 in
theorem code_yX2_init : Cond.code yX2_init cX2_init 1 none ∈ sf_gtbl := sf_mem 110 rfl rfl
theorem mn_RX2_1 : Cond.methodLinkNest RX2 1 yX3_init "StairFines" ∈ sf_nwL := sf_memN 55 (by decide +kernel) rfl
theorem sup_RX2_RX3 : Cond.superclass RX2 RX3 ∈ sf_gtbl := sf_mem 112 (by decide +kernel) rfl
theorem cln_RX9_21 : Cond.classLink RX9 21 RX1 ∈ sf_gtbl := sf_mem 113 (by decide +kernel) rfl
theorem isn_RX1 : Cond.instantiable RX1 0 ∈ sf_gtbl := sf_mem 114 (by decide +kernel) rfl
theorem mn_RX9_23 : Cond.methodLinkNest RX9 23 yX1_init "StairFines" ∈ sf_nwL := sf_memN 59 (by decide +kernel) rfl
theorem inst_yX1_init : Cond.instanceMethod yX1_init ∈ sf_gtbl := sf_mem 116 (by decide +kernel) rfl
set_option maxRecDepth 100000 in
theorem code_yX1_init : Cond.code yX1_init cX1_init 1 none ∈ sf_gtbl := sf_mem 117 rfl rfl
theorem mn_RX1_1 : Cond.methodLinkNest RX1 1 yX2_init "StairFines" ∈ sf_nwL := sf_memN 62 (by decide +kernel) rfl
theorem sup_RX1_RX2 : Cond.superclass RX1 RX2 ∈ sf_gtbl := sf_mem 119 (by decide +kernel) rfl
theorem cln_RX9_24 : Cond.classLink RX9 24 RX5 ∈ sf_gtbl := sf_mem 120 (by decide +kernel) rfl
theorem isn_RX5 : Cond.instantiable RX5 0 ∈ sf_gtbl := sf_mem 121 (by decide +kernel) rfl
theorem mn_RX9_26 : Cond.methodLinkNest RX9 26 yX5_init "StairFines" ∈ sf_nwL := sf_memN 66 (by decide +kernel) rfl
theorem inst_yX5_init : Cond.instanceMethod yX5_init ∈ sf_gtbl := sf_mem 123 (by decide +kernel) rfl
set_option maxRecDepth 100000 in
theorem code_yX5_init : Cond.code yX5_init cX5_init 1 none ∈ sf_gtbl := sf_mem 124 rfl rfl
theorem mn_RX5_1 : Cond.methodLinkNest RX5 1 yX0_init "StairFines" ∈ sf_nwL := sf_memN 69 (by decide +kernel) rfl
theorem sup_RX5_RX0 : Cond.superclass RX5 RX0 ∈ sf_gtbl := sf_mem 126 (by decide +kernel) rfl
theorem cln_RX9_27 : Cond.classLink RX9 27 RX4 ∈ sf_gtbl := sf_mem 127 (by decide +kernel) rfl
theorem isn_RX4 : Cond.instantiable RX4 16 ∈ sf_gtbl := sf_mem 128 (by decide +kernel) rfl
theorem ml_RX9_29 : Cond.methodLink RX9 29 yX4_init ∈ sf_gtbl := sf_mem 129 (by decide +kernel) rfl
theorem inst_yX4_init : Cond.instanceMethod yX4_init ∈ sf_gtbl := sf_mem 130 (by decide +kernel) rfl
set_option maxRecDepth 100000 in
theorem code_yX4_init : Cond.code yX4_init cX4_init 2 none ∈ sf_gtbl := sf_mem 131 rfl rfl
theorem ml_RX4_3 : Cond.methodLink RX4 3 objectInit ∈ sf_gtbl := sf_mem 132 (by decide +kernel) rfl
theorem ml_RX4_50 : Cond.methodLink RX4 50 yJ7_fill_53178 ∈ sf_gtbl := sf_mem 133 (by decide +kernel) rfl
theorem stat_yJ7_fill_53178 : Cond.static yJ7_fill_53178 ∈ sf_gtbl := sf_mem 134 (by decide +kernel) rfl
set_option maxRecDepth 100000 in
theorem code_yJ7_fill_53178 : Cond.code yJ7_fill_53178 cJ7_fill_53178 4 none ∈ sf_gtbl := sf_mem 135 rfl rfl
theorem fl_RX4_46 : Cond.fieldLink RX4 46 (TX4 0).1 (TX4 0).2.1 (TX4 0).2.2.1 ∈ sf_gtbl := sf_mem 136 (by decide +kernel) rfl
theorem fl_RX4_9 : Cond.fieldLink RX4 9 (TX4 1).1 (TX4 1).2.1 (TX4 1).2.2.1 ∈ sf_gtbl := sf_mem 137 (by decide +kernel) rfl
theorem fn_RX9_72 : Cond.fieldLinkNest RX9 72 (TX4 1).1 (TX4 1).2.1 (TX4 1).2.2.1 "StairFines" ∈ sf_nwL := sf_memN 82 (by decide +kernel) rfl
theorem fn_RX8_94 : Cond.fieldLinkNest RX8 94 (TX4 1).1 (TX4 1).2.1 (TX4 1).2.2.1 "StairFines" ∈ sf_nwL := sf_memN 83 (by decide +kernel) rfl
theorem fl_RX4_15 : Cond.fieldLink RX4 15 (TX4 2).1 (TX4 2).2.1 (TX4 2).2.2.1 ∈ sf_gtbl := sf_mem 140 (by decide +kernel) rfl
theorem fn_RX9_139 : Cond.fieldLinkNest RX9 139 (TX4 2).1 (TX4 2).2.1 (TX4 2).2.2.1 "StairFines" ∈ sf_nwL := sf_memN 85 (by decide +kernel) rfl
theorem fl_RX4_18 : Cond.fieldLink RX4 18 (TX4 3).1 (TX4 3).2.1 (TX4 3).2.2.1 ∈ sf_gtbl := sf_mem 142 (by decide +kernel) rfl
theorem fn_RX9_142 : Cond.fieldLinkNest RX9 142 (TX4 3).1 (TX4 3).2.1 (TX4 3).2.2.1 "StairFines" ∈ sf_nwL := sf_memN 87 (by decide +kernel) rfl
theorem fl_RX4_21 : Cond.fieldLink RX4 21 (TX4 4).1 (TX4 4).2.1 (TX4 4).2.2.1 ∈ sf_gtbl := sf_mem 144 (by decide +kernel) rfl
theorem fn_RX9_145 : Cond.fieldLinkNest RX9 145 (TX4 4).1 (TX4 4).2.1 (TX4 4).2.2.1 "StairFines" ∈ sf_nwL := sf_memN 89 (by decide +kernel) rfl
theorem fl_RX4_62 : Cond.fieldLink RX4 62 (TX4 5).1 (TX4 5).2.1 (TX4 5).2.2.1 ∈ sf_gtbl := sf_mem 146 (by decide +kernel) rfl
theorem fn_RX9_148 : Cond.fieldLinkNest RX9 148 (TX4 5).1 (TX4 5).2.1 (TX4 5).2.2.1 "StairFines" ∈ sf_nwL := sf_memN 91 (by decide +kernel) rfl
theorem fl_RX4_66 : Cond.fieldLink RX4 66 (TX4 6).1 (TX4 6).2.1 (TX4 6).2.2.1 ∈ sf_gtbl := sf_mem 148 (by decide +kernel) rfl
theorem fn_RX9_184 : Cond.fieldLinkNest RX9 184 (TX4 6).1 (TX4 6).2.1 (TX4 6).2.2.1 "StairFines" ∈ sf_nwL := sf_memN 93 (by decide +kernel) rfl
theorem fl_RX4_69 : Cond.fieldLink RX4 69 (TX4 7).1 (TX4 7).2.1 (TX4 7).2.2.1 ∈ sf_gtbl := sf_mem 150 (by decide +kernel) rfl
theorem fn_RX9_75 : Cond.fieldLinkNest RX9 75 (TX4 7).1 (TX4 7).2.1 (TX4 7).2.2.1 "StairFines" ∈ sf_nwL := sf_memN 95 (by decide +kernel) rfl
theorem fn_RX8_70 : Cond.fieldLinkNest RX8 70 (TX4 7).1 (TX4 7).2.1 (TX4 7).2.2.1 "StairFines" ∈ sf_nwL := sf_memN 96 (by decide +kernel) rfl
theorem fl_RX4_24 : Cond.fieldLink RX4 24 (TX4 8).1 (TX4 8).2.1 (TX4 8).2.2.1 ∈ sf_gtbl := sf_mem 153 (by decide +kernel) rfl
theorem fn_RX9_79 : Cond.fieldLinkNest RX9 79 (TX4 8).1 (TX4 8).2.1 (TX4 8).2.2.1 "StairFines" ∈ sf_nwL := sf_memN 98 (by decide +kernel) rfl
theorem fn_RX8_76 : Cond.fieldLinkNest RX8 76 (TX4 8).1 (TX4 8).2.1 (TX4 8).2.2.1 "StairFines" ∈ sf_nwL := sf_memN 99 (by decide +kernel) rfl
theorem fl_RX4_28 : Cond.fieldLink RX4 28 (TX4 9).1 (TX4 9).2.1 (TX4 9).2.2.1 ∈ sf_gtbl := sf_mem 156 (by decide +kernel) rfl
theorem fn_RX9_181 : Cond.fieldLinkNest RX9 181 (TX4 9).1 (TX4 9).2.1 (TX4 9).2.2.1 "StairFines" ∈ sf_nwL := sf_memN 101 (by decide +kernel) rfl
theorem fl_RX4_72 : Cond.fieldLink RX4 72 (TX4 10).1 (TX4 10).2.1 (TX4 10).2.2.1 ∈ sf_gtbl := sf_mem 158 (by decide +kernel) rfl
theorem fn_RX9_93 : Cond.fieldLinkNest RX9 93 (TX4 10).1 (TX4 10).2.1 (TX4 10).2.2.1 "StairFines" ∈ sf_nwL := sf_memN 103 (by decide +kernel) rfl
theorem fl_RX4_31 : Cond.fieldLink RX4 31 (TX4 11).1 (TX4 11).2.1 (TX4 11).2.2.1 ∈ sf_gtbl := sf_mem 160 (by decide +kernel) rfl
theorem fn_RX9_99 : Cond.fieldLinkNest RX9 99 (TX4 11).1 (TX4 11).2.1 (TX4 11).2.2.1 "StairFines" ∈ sf_nwL := sf_memN 105 (by decide +kernel) rfl
theorem fl_RX4_34 : Cond.fieldLink RX4 34 (TX4 12).1 (TX4 12).2.1 (TX4 12).2.2.1 ∈ sf_gtbl := sf_mem 162 (by decide +kernel) rfl
theorem fn_RX9_102 : Cond.fieldLinkNest RX9 102 (TX4 12).1 (TX4 12).2.1 (TX4 12).2.2.1 "StairFines" ∈ sf_nwL := sf_memN 107 (by decide +kernel) rfl
theorem fl_RX4_37 : Cond.fieldLink RX4 37 (TX4 13).1 (TX4 13).2.1 (TX4 13).2.2.1 ∈ sf_gtbl := sf_mem 164 (by decide +kernel) rfl
theorem fn_RX9_105 : Cond.fieldLinkNest RX9 105 (TX4 13).1 (TX4 13).2.1 (TX4 13).2.2.1 "StairFines" ∈ sf_nwL := sf_memN 109 (by decide +kernel) rfl
theorem fl_RX4_40 : Cond.fieldLink RX4 40 (TX4 14).1 (TX4 14).2.1 (TX4 14).2.2.1 ∈ sf_gtbl := sf_mem 166 (by decide +kernel) rfl
theorem fn_RX9_108 : Cond.fieldLinkNest RX9 108 (TX4 14).1 (TX4 14).2.1 (TX4 14).2.2.1 "StairFines" ∈ sf_nwL := sf_memN 111 (by decide +kernel) rfl
theorem fl_RX4_43 : Cond.fieldLink RX4 43 (TX4 15).1 (TX4 15).2.1 (TX4 15).2.2.1 ∈ sf_gtbl := sf_mem 168 (by decide +kernel) rfl
theorem fn_RX9_111 : Cond.fieldLinkNest RX9 111 (TX4 15).1 (TX4 15).2.1 (TX4 15).2.2.1 "StairFines" ∈ sf_nwL := sf_memN 113 (by decide +kernel) rfl
theorem arc_int : Cond.arrayClass .int ∈ sf_gtbl := sf_mem 203 (by decide +kernel) rfl
theorem cln_RX9_42 : Cond.classLink RX9 42 RX8 ∈ sf_gtbl := sf_mem 204 (by decide +kernel) rfl
theorem isn_RX8 : Cond.instantiable RX8 8 ∈ sf_gtbl := sf_mem 205 (by decide +kernel) rfl
theorem ml_RX9_44 : Cond.methodLink RX9 44 yX8_init ∈ sf_gtbl := sf_mem 206 (by decide +kernel) rfl
theorem inst_yX8_init : Cond.instanceMethod yX8_init ∈ sf_gtbl := sf_mem 207 (by decide +kernel) rfl
set_option maxRecDepth 100000 in
theorem code_yX8_init : Cond.code yX8_init cX8_init 2 none ∈ sf_gtbl := sf_mem 208 rfl rfl
theorem ml_RX8_3 : Cond.methodLink RX8 3 objectInit ∈ sf_gtbl := sf_mem 209 (by decide +kernel) rfl
theorem fl_RX8_15 : Cond.fieldLink RX8 15 (TX8 0).1 (TX8 0).2.1 (TX8 0).2.2.1 ∈ sf_gtbl := sf_mem 210 (by decide +kernel) rfl
theorem fl_RX8_9 : Cond.fieldLink RX8 9 (TX8 1).1 (TX8 1).2.1 (TX8 1).2.2.1 ∈ sf_gtbl := sf_mem 211 (by decide +kernel) rfl
theorem fl_RX8_19 : Cond.fieldLink RX8 19 (TX8 2).1 (TX8 2).2.1 (TX8 2).2.2.1 ∈ sf_gtbl := sf_mem 212 (by decide +kernel) rfl
theorem fn_RX9_204 : Cond.fieldLinkNest RX9 204 (TX8 2).1 (TX8 2).2.1 (TX8 2).2.2.1 "StairFines" ∈ sf_nwL := sf_memN 157 (by decide +kernel) rfl
theorem fl_RX8_36 : Cond.fieldLink RX8 36 (TX8 3).1 (TX8 3).2.1 (TX8 3).2.2.1 ∈ sf_gtbl := sf_mem 214 (by decide +kernel) rfl
theorem fl_RX8_33 : Cond.fieldLink RX8 33 (TX8 4).1 (TX8 4).2.1 (TX8 4).2.2.1 ∈ sf_gtbl := sf_mem 215 (by decide +kernel) rfl
theorem fl_RX8_23 : Cond.fieldLink RX8 23 (TX8 5).1 (TX8 5).2.1 (TX8 5).2.2.1 ∈ sf_gtbl := sf_mem 216 (by decide +kernel) rfl
theorem fl_RX8_96 : Cond.fieldLink RX8 96 (TX8 6).1 (TX8 6).2.1 (TX8 6).2.2.1 ∈ sf_gtbl := sf_mem 217 (by decide +kernel) rfl
theorem fl_RX8_67 : Cond.fieldLink RX8 67 (TX8 7).1 (TX8 7).2.1 (TX8 7).2.2.1 ∈ sf_gtbl := sf_mem 218 (by decide +kernel) rfl
theorem cln_RX9_49 : Cond.classLink RX9 49 RX7 ∈ sf_gtbl := sf_mem 236 (by decide +kernel) rfl
theorem isn_RX7 : Cond.instantiable RX7 3 ∈ sf_gtbl := sf_mem 238 (by decide +kernel) rfl
theorem mn_RX9_51 : Cond.methodLinkNest RX9 51 yX7_init "StairFines" ∈ sf_nwL := sf_memN 183 (by decide +kernel) rfl
theorem inst_yX7_init : Cond.instanceMethod yX7_init ∈ sf_gtbl := sf_mem 240 (by decide +kernel) rfl
set_option maxRecDepth 100000 in
theorem code_yX7_init : Cond.code yX7_init cX7_init 1 none ∈ sf_gtbl := sf_mem 241 rfl rfl
theorem ml_RX7_3 : Cond.methodLink RX7 3 objectInit ∈ sf_gtbl := sf_mem 242 (by decide +kernel) rfl
theorem fl_RX7_9 : Cond.fieldLink RX7 9 (TX7 0).1 (TX7 0).2.1 (TX7 0).2.2.1 ∈ sf_gtbl := sf_mem 243 (by decide +kernel) rfl
theorem fn_RX9_231 : Cond.fieldLinkNest RX9 231 (TX7 0).1 (TX7 0).2.1 (TX7 0).2.2.1 "StairFines" ∈ sf_nwL := sf_memN 188 (by decide +kernel) rfl
theorem fl_RX7_15 : Cond.fieldLink RX7 15 (TX7 1).1 (TX7 1).2.1 (TX7 1).2.2.1 ∈ sf_gtbl := sf_mem 245 (by decide +kernel) rfl
theorem fn_RX9_239 : Cond.fieldLinkNest RX9 239 (TX7 1).1 (TX7 1).2.1 (TX7 1).2.2.1 "StairFines" ∈ sf_nwL := sf_memN 190 (by decide +kernel) rfl
theorem fl_RX7_19 : Cond.fieldLink RX7 19 (TX7 2).1 (TX7 2).2.1 (TX7 2).2.2.1 ∈ sf_gtbl := sf_mem 247 (by decide +kernel) rfl
theorem fn_RX9_224 : Cond.fieldLinkNest RX9 224 (TX7 2).1 (TX7 2).2.1 (TX7 2).2.2.1 "StairFines" ∈ sf_nwL := sf_memN 192 (by decide +kernel) rfl
theorem arc_long : Cond.arrayClass .long ∈ sf_gtbl := sf_mem 256 (by decide +kernel) rfl
theorem fl_RX9_32 : Cond.fieldLink RX9 32 (TX9 0).1 (TX9 0).2.1 (TX9 0).2.2.1 ∈ sf_gtbl := sf_mem 257 (by decide +kernel) rfl
theorem fl_RX9_36 : Cond.fieldLink RX9 36 (TX9 1).1 (TX9 1).2.1 (TX9 1).2.2.1 ∈ sf_gtbl := sf_mem 258 (by decide +kernel) rfl
theorem fl_RX9_39 : Cond.fieldLink RX9 39 (TX9 2).1 (TX9 2).2.1 (TX9 2).2.2.1 ∈ sf_gtbl := sf_mem 259 (by decide +kernel) rfl
theorem fl_RX9_250 : Cond.fieldLink RX9 250 (TX9 3).1 (TX9 3).2.1 (TX9 3).2.2.1 ∈ sf_gtbl := sf_mem 260 (by decide +kernel) rfl
theorem fl_RX9_45 : Cond.fieldLink RX9 45 (TX9 4).1 (TX9 4).2.1 (TX9 4).2.2.1 ∈ sf_gtbl := sf_mem 261 (by decide +kernel) rfl
theorem fl_RX9_52 : Cond.fieldLink RX9 52 (TX9 5).1 (TX9 5).2.1 (TX9 5).2.2.1 ∈ sf_gtbl := sf_mem 262 (by decide +kernel) rfl
theorem fl_RX9_56 : Cond.fieldLink RX9 56 (TX9 6).1 (TX9 6).2.1 (TX9 6).2.2.1 ∈ sf_gtbl := sf_mem 263 (by decide +kernel) rfl
theorem ml_RL_13 : Cond.methodLink RL 13 yX9_rock ∈ sf_gtbl := sf_mem 279 (by decide +kernel) rfl
theorem inst_yX9_rock : Cond.instanceMethod yX9_rock ∈ sf_gtbl := sf_mem 280 (by decide +kernel) rfl
theorem sel_RX9_yX9_rock : Cond.selects RX9 yX9_rock yX9_rock ∈ sf_gtbl := sf_mem 281 (by decide +kernel) rfl
set_option maxRecDepth 100000 in
theorem code_yX9_rock : Cond.code yX9_rock cX9_rock 4 (some .int) ∈ sf_gtbl := sf_mem 282 rfl rfl
theorem ml_RX9_60 : Cond.methodLink RX9 60 yX9_isPlace ∈ sf_gtbl := sf_mem 283 (by decide +kernel) rfl
theorem stat_yX9_isPlace : Cond.static yX9_isPlace ∈ sf_gtbl := sf_mem 284 (by decide +kernel) rfl
set_option maxRecDepth 100000 in
theorem code_yX9_isPlace : Cond.code yX9_isPlace cX9_isPlace 1 (some .boolean) ∈ sf_gtbl := sf_mem 285 rfl rfl
theorem ml_RX9_64 : Cond.methodLink RX9 64 yX9_isWithin ∈ sf_gtbl := sf_mem 286 (by decide +kernel) rfl
theorem stat_yX9_isWithin : Cond.static yX9_isWithin ∈ sf_gtbl := sf_mem 287 (by decide +kernel) rfl
set_option maxRecDepth 100000 in
theorem code_yX9_isWithin : Cond.code yX9_isWithin cX9_isWithin 3 (some .boolean) ∈ sf_gtbl := sf_mem 288 rfl rfl
theorem ml_RX9_68 : Cond.methodLink RX9 68 yX9_found ∈ sf_gtbl := sf_mem 289 (by decide +kernel) rfl
theorem inst_yX9_found : Cond.instanceMethod yX9_found ∈ sf_gtbl := sf_mem 291 (by decide +kernel) rfl
set_option maxRecDepth 100000 in
theorem code_yX9_found : Cond.code yX9_found cX9_found 2 (some .int) ∈ sf_gtbl := sf_mem 292 rfl rfl
theorem ct_RX9_257 : Cond.constant RX9 257 (-1000000001) ∈ sf_gtbl := sf_mem 293 (by decide +kernel) rfl
theorem ml_RL_18 : Cond.methodLink RL 18 yX9_let ∈ sf_gtbl := sf_mem 294 (by decide +kernel) rfl
theorem inst_yX9_let : Cond.instanceMethod yX9_let ∈ sf_gtbl := sf_mem 295 (by decide +kernel) rfl
theorem sel_RX9_yX9_let : Cond.selects RX9 yX9_let yX9_let ∈ sf_gtbl := sf_mem 296 (by decide +kernel) rfl
set_option maxRecDepth 100000 in
theorem code_yX9_let : Cond.code yX9_let cX9_let 4 (some .int) ∈ sf_gtbl := sf_mem 297 rfl rfl
theorem ml_RL_22 : Cond.methodLink RL 22 yX9_fine ∈ sf_gtbl := sf_mem 298 (by decide +kernel) rfl
theorem inst_yX9_fine : Cond.instanceMethod yX9_fine ∈ sf_gtbl := sf_mem 299 (by decide +kernel) rfl
theorem sel_RX9_yX9_fine : Cond.selects RX9 yX9_fine yX9_fine ∈ sf_gtbl := sf_mem 300 (by decide +kernel) rfl
set_option maxRecDepth 100000 in
theorem code_yX9_fine : Cond.code yX9_fine cX9_fine 4 (some .int) ∈ sf_gtbl := sf_mem 301 rfl rfl
theorem ml_RX9_82 : Cond.methodLink RX9 82 yX9_isKind ∈ sf_gtbl := sf_mem 302 (by decide +kernel) rfl
theorem stat_yX9_isKind : Cond.static yX9_isKind ∈ sf_gtbl := sf_mem 303 (by decide +kernel) rfl
set_option maxRecDepth 100000 in
theorem code_yX9_isKind : Cond.code yX9_isKind cX9_isKind 1 (some .boolean) ∈ sf_gtbl := sf_mem 304 rfl rfl
theorem ml_RX9_85 : Cond.methodLink RX9 85 yX4_isFull ∈ sf_gtbl := sf_mem 305 (by decide +kernel) rfl
theorem inst_yX4_isFull : Cond.instanceMethod yX4_isFull ∈ sf_gtbl := sf_mem 306 (by decide +kernel) rfl
theorem sel_RX4_yX4_isFull : Cond.selects RX4 yX4_isFull yX4_isFull ∈ sf_gtbl := sf_mem 307 (by decide +kernel) rfl
set_option maxRecDepth 100000 in
theorem code_yX4_isFull : Cond.code yX4_isFull cX4_isFull 1 (some .boolean) ∈ sf_gtbl := sf_mem 308 rfl rfl
theorem ml_RX9_89 : Cond.methodLink RX9 89 yX4_addFine ∈ sf_gtbl := sf_mem 309 (by decide +kernel) rfl
theorem inst_yX4_addFine : Cond.instanceMethod yX4_addFine ∈ sf_gtbl := sf_mem 310 (by decide +kernel) rfl
theorem sel_RX4_yX4_addFine : Cond.selects RX4 yX4_addFine yX4_addFine ∈ sf_gtbl := sf_mem 311 (by decide +kernel) rfl
set_option maxRecDepth 100000 in
theorem code_yX4_addFine : Cond.code yX4_addFine cX4_addFine 5 none ∈ sf_gtbl := sf_mem 312 rfl rfl
theorem ml_RX4_75 : Cond.methodLink RX4 75 yX4_isFull ∈ sf_gtbl := sf_mem 313 (by decide +kernel) rfl
theorem ml_RL_27 : Cond.methodLink RL 27 yX9_of ∈ sf_gtbl := sf_mem 314 (by decide +kernel) rfl
theorem inst_yX9_of : Cond.instanceMethod yX9_of ∈ sf_gtbl := sf_mem 315 (by decide +kernel) rfl
theorem sel_RX9_yX9_of : Cond.selects RX9 yX9_of yX9_of ∈ sf_gtbl := sf_mem 316 (by decide +kernel) rfl
set_option maxRecDepth 100000 in
theorem code_yX9_of : Cond.code yX9_of cX9_of 3 (some .int) ∈ sf_gtbl := sf_mem 317 rfl rfl
theorem ml_RX9_96 : Cond.methodLink RX9 96 yX4_hasFine ∈ sf_gtbl := sf_mem 318 (by decide +kernel) rfl
theorem inst_yX4_hasFine : Cond.instanceMethod yX4_hasFine ∈ sf_gtbl := sf_mem 319 (by decide +kernel) rfl
theorem sel_RX4_yX4_hasFine : Cond.selects RX4 yX4_hasFine yX4_hasFine ∈ sf_gtbl := sf_mem 320 (by decide +kernel) rfl
set_option maxRecDepth 100000 in
theorem code_yX4_hasFine : Cond.code yX4_hasFine cX4_hasFine 2 (some .boolean) ∈ sf_gtbl := sf_mem 321 rfl rfl
theorem ml_RX9_114 : Cond.methodLink RX9 114 yX4_worksOf ∈ sf_gtbl := sf_mem 322 (by decide +kernel) rfl
theorem inst_yX4_worksOf : Cond.instanceMethod yX4_worksOf ∈ sf_gtbl := sf_mem 323 (by decide +kernel) rfl
theorem sel_RX4_yX4_worksOf : Cond.selects RX4 yX4_worksOf yX4_worksOf ∈ sf_gtbl := sf_mem 324 (by decide +kernel) rfl
set_option maxRecDepth 100000 in
theorem code_yX4_worksOf : Cond.code yX4_worksOf cX4_worksOf 2 (some .int) ∈ sf_gtbl := sf_mem 325 rfl rfl
theorem ml_RX4_83 : Cond.methodLink RX4 83 yX4_kindOf ∈ sf_gtbl := sf_mem 326 (by decide +kernel) rfl
theorem inst_yX4_kindOf : Cond.instanceMethod yX4_kindOf ∈ sf_gtbl := sf_mem 327 (by decide +kernel) rfl
theorem sel_RX4_yX4_kindOf : Cond.selects RX4 yX4_kindOf yX4_kindOf ∈ sf_gtbl := sf_mem 328 (by decide +kernel) rfl
set_option maxRecDepth 100000 in
theorem code_yX4_kindOf : Cond.code yX4_kindOf cX4_kindOf 3 (some (.object "StairFines$Kind")) ∈ sf_gtbl := sf_mem 329 rfl rfl
theorem mn_RX4_79 : Cond.methodLinkNest RX4 79 yX9_isKind "StairFines" ∈ sf_nwL := sf_memN 274 (by decide +kernel) rfl
theorem ml_RX4_87 : Cond.methodLink RX4 87 yX4_wholePlaces ∈ sf_gtbl := sf_mem 331 (by decide +kernel) rfl
theorem inst_yX4_wholePlaces : Cond.instanceMethod yX4_wholePlaces ∈ sf_gtbl := sf_mem 332 (by decide +kernel) rfl
theorem sel_RX4_yX4_wholePlaces : Cond.selects RX4 yX4_wholePlaces yX4_wholePlaces ∈ sf_gtbl := sf_mem 333 (by decide +kernel) rfl
set_option maxRecDepth 100000 in
theorem code_yX4_wholePlaces : Cond.code yX4_wholePlaces cX4_wholePlaces 1 (some .int) ∈ sf_gtbl := sf_mem 334 rfl rfl
theorem ml_RX4_107 : Cond.methodLink RX4 107 yJ13_bitCount_95d88 ∈ sf_gtbl := sf_mem 335 (by decide +kernel) rfl
theorem stat_yJ13_bitCount_95d88 : Cond.static yJ13_bitCount_95d88 ∈ sf_gtbl := sf_mem 336 (by decide +kernel) rfl
set_option maxRecDepth 100000 in
theorem code_yJ13_bitCount_95d88 : Cond.code yJ13_bitCount_95d88 cJ13_bitCount_95d88 2 (some .int) ∈ sf_gtbl := sf_mem 337 rfl rfl
theorem cl_RJ13_314 : Cond.constantLong RJ13 314 (6148914691236517205) ∈ sf_gtbl := sf_mem 338 (by decide +kernel) rfl
theorem cl_RJ13_316 : Cond.constantLong RJ13 316 (3689348814741910323) ∈ sf_gtbl := sf_mem 339 (by decide +kernel) rfl
theorem cl_RJ13_318 : Cond.constantLong RJ13 318 (1085102592571150095) ∈ sf_gtbl := sf_mem 340 (by decide +kernel) rfl
theorem ml_RX4_91 : Cond.methodLink RX4 91 yX3_works ∈ sf_gtbl := sf_mem 341 (by decide +kernel) rfl
theorem inst_yX3_works : Cond.instanceMethod yX3_works ∈ sf_gtbl := sf_mem 342 (by decide +kernel) rfl
theorem sel_RX3_yX3_works : Cond.selects RX3 yX3_works yX3_works ∈ sf_gtbl := sf_mem 343 (by decide +kernel) rfl
theorem same_StairFines_Kind_StairFines_Kind_works__II_I : Cond.sameMethod "StairFines$Kind" "StairFines$Kind" "works" "(II)I" ∈ sf_gtbl := sf_mem 344 (by decide +kernel) rfl
theorem sel_RX0_yX3_works : Cond.selects RX0 yX3_works yX3_works ∈ sf_gtbl := sf_mem 345 (by decide +kernel) rfl
theorem sel_RX1_yX3_works_yX1_works : Cond.selects RX1 yX3_works yX1_works ∈ sf_gtbl := sf_mem 346 (by decide +kernel) rfl
theorem inst_yX1_works : Cond.instanceMethod yX1_works ∈ sf_gtbl := sf_mem 347 (by decide +kernel) rfl
set_option maxRecDepth 100000 in
theorem code_yX1_works : Cond.code yX1_works cX1_works 3 (some .int) ∈ sf_gtbl := sf_mem 348 rfl rfl
theorem ml_RX1_9 : Cond.methodLink RX1 9 yX2_works ∈ sf_gtbl := sf_mem 349 (by decide +kernel) rfl
theorem inst_yX2_works : Cond.instanceMethod yX2_works ∈ sf_gtbl := sf_mem 350 (by decide +kernel) rfl
set_option maxRecDepth 100000 in
theorem code_yX2_works : Cond.code yX2_works cX2_works 3 (some .int) ∈ sf_gtbl := sf_mem 351 rfl rfl
theorem ml_RX2_9 : Cond.methodLink RX2 9 yX3_works ∈ sf_gtbl := sf_mem 352 (by decide +kernel) rfl
theorem sel_RX2_yX3_works_yX2_works : Cond.selects RX2 yX3_works yX2_works ∈ sf_gtbl := sf_mem 353 (by decide +kernel) rfl
theorem sel_RX5_yX3_works_yX5_works : Cond.selects RX5 yX3_works yX5_works ∈ sf_gtbl := sf_mem 354 (by decide +kernel) rfl
theorem inst_yX5_works : Cond.instanceMethod yX5_works ∈ sf_gtbl := sf_mem 355 (by decide +kernel) rfl
set_option maxRecDepth 100000 in
theorem code_yX5_works : Cond.code yX5_works cX5_works 3 (some .int) ∈ sf_gtbl := sf_mem 356 rfl rfl
theorem ml_RX5_9 : Cond.methodLink RX5 9 ⟨"StairFines$Alms", "works", "(II)I"⟩ ∈ sf_gtbl := sf_mem 357 (by decide +kernel) rfl
theorem same_StairFines_Alms_StairFines_Kind_works__II_I : Cond.sameMethod "StairFines$Alms" "StairFines$Kind" "works" "(II)I" ∈ sf_gtbl := sf_mem 358 (by decide +kernel) rfl
theorem sel_RX6_yX3_works_yX6_works : Cond.selects RX6 yX3_works yX6_works ∈ sf_gtbl := sf_mem 360 (by decide +kernel) rfl
theorem inst_yX6_works : Cond.instanceMethod yX6_works ∈ sf_gtbl := sf_mem 361 (by decide +kernel) rfl
set_option maxRecDepth 100000 in
theorem code_yX6_works : Cond.code yX6_works cX6_works 3 (some .int) ∈ sf_gtbl := sf_mem 362 rfl rfl
theorem ml_RX6_9 : Cond.methodLink RX6 9 yX3_works ∈ sf_gtbl := sf_mem 363 (by decide +kernel) rfl
set_option maxRecDepth 100000 in
theorem code_yX3_works : Cond.code yX3_works cX3_works 3 (some .int) ∈ sf_gtbl := sf_mem 364 rfl rfl
theorem ml_RX9_117 : Cond.methodLink RX9 117 yX4_highOf ∈ sf_gtbl := sf_mem 365 (by decide +kernel) rfl
theorem inst_yX4_highOf : Cond.instanceMethod yX4_highOf ∈ sf_gtbl := sf_mem 366 (by decide +kernel) rfl
theorem sel_RX4_yX4_highOf : Cond.selects RX4 yX4_highOf yX4_highOf ∈ sf_gtbl := sf_mem 367 (by decide +kernel) rfl
set_option maxRecDepth 100000 in
theorem code_yX4_highOf : Cond.code yX4_highOf cX4_highOf 3 (some .int) ∈ sf_gtbl := sf_mem 368 rfl rfl
theorem mn_RX4_97 : Cond.methodLinkNest RX4 97 yX9_isPlace "StairFines" ∈ sf_nwL := sf_memN 313 (by decide +kernel) rfl
theorem ml_RX4_100 : Cond.methodLink RX4 100 yX3_cutsHigh ∈ sf_gtbl := sf_mem 370 (by decide +kernel) rfl
theorem inst_yX3_cutsHigh : Cond.instanceMethod yX3_cutsHigh ∈ sf_gtbl := sf_mem 371 (by decide +kernel) rfl
theorem sel_RX3_yX3_cutsHigh : Cond.selects RX3 yX3_cutsHigh yX3_cutsHigh ∈ sf_gtbl := sf_mem 372 (by decide +kernel) rfl
theorem same_StairFines_Kind_StairFines_Kind_cutsHigh__I_I : Cond.sameMethod "StairFines$Kind" "StairFines$Kind" "cutsHigh" "(I)I" ∈ sf_gtbl := sf_mem 373 (by decide +kernel) rfl
theorem sel_RX0_yX3_cutsHigh_yX0_cutsHigh : Cond.selects RX0 yX3_cutsHigh yX0_cutsHigh ∈ sf_gtbl := sf_mem 374 (by decide +kernel) rfl
theorem inst_yX0_cutsHigh : Cond.instanceMethod yX0_cutsHigh ∈ sf_gtbl := sf_mem 375 (by decide +kernel) rfl
set_option maxRecDepth 100000 in
theorem code_yX0_cutsHigh : Cond.code yX0_cutsHigh cX0_cutsHigh 2 (some .int) ∈ sf_gtbl := sf_mem 376 rfl rfl
theorem ml_RX0_9 : Cond.methodLink RX0 9 yX3_cutsHigh ∈ sf_gtbl := sf_mem 377 (by decide +kernel) rfl
theorem sel_RX1_yX3_cutsHigh_yX1_cutsHigh : Cond.selects RX1 yX3_cutsHigh yX1_cutsHigh ∈ sf_gtbl := sf_mem 378 (by decide +kernel) rfl
theorem inst_yX1_cutsHigh : Cond.instanceMethod yX1_cutsHigh ∈ sf_gtbl := sf_mem 379 (by decide +kernel) rfl
set_option maxRecDepth 100000 in
theorem code_yX1_cutsHigh : Cond.code yX1_cutsHigh cX1_cutsHigh 2 (some .int) ∈ sf_gtbl := sf_mem 380 rfl rfl
theorem ml_RX1_13 : Cond.methodLink RX1 13 yX2_cutsHigh ∈ sf_gtbl := sf_mem 381 (by decide +kernel) rfl
theorem inst_yX2_cutsHigh : Cond.instanceMethod yX2_cutsHigh ∈ sf_gtbl := sf_mem 382 (by decide +kernel) rfl
set_option maxRecDepth 100000 in
theorem code_yX2_cutsHigh : Cond.code yX2_cutsHigh cX2_cutsHigh 2 (some .int) ∈ sf_gtbl := sf_mem 383 rfl rfl
theorem ml_RX2_13 : Cond.methodLink RX2 13 yX3_cutsHigh ∈ sf_gtbl := sf_mem 384 (by decide +kernel) rfl
theorem sel_RX2_yX3_cutsHigh_yX2_cutsHigh : Cond.selects RX2 yX3_cutsHigh yX2_cutsHigh ∈ sf_gtbl := sf_mem 385 (by decide +kernel) rfl
theorem sel_RX5_yX3_cutsHigh_yX5_cutsHigh : Cond.selects RX5 yX3_cutsHigh yX5_cutsHigh ∈ sf_gtbl := sf_mem 386 (by decide +kernel) rfl
theorem inst_yX5_cutsHigh : Cond.instanceMethod yX5_cutsHigh ∈ sf_gtbl := sf_mem 387 (by decide +kernel) rfl
set_option maxRecDepth 100000 in
theorem code_yX5_cutsHigh : Cond.code yX5_cutsHigh cX5_cutsHigh 2 (some .int) ∈ sf_gtbl := sf_mem 388 rfl rfl
theorem ml_RX5_13 : Cond.methodLink RX5 13 yX0_cutsHigh ∈ sf_gtbl := sf_mem 389 (by decide +kernel) rfl
theorem sel_RX6_yX3_cutsHigh : Cond.selects RX6 yX3_cutsHigh yX3_cutsHigh ∈ sf_gtbl := sf_mem 390 (by decide +kernel) rfl
set_option maxRecDepth 100000 in
theorem code_yX3_cutsHigh : Cond.code yX3_cutsHigh cX3_cutsHigh 2 (some .int) ∈ sf_gtbl := sf_mem 391 rfl rfl
theorem ml_RX9_121 : Cond.methodLink RX9 121 yX4_cutBy ∈ sf_gtbl := sf_mem 392 (by decide +kernel) rfl
theorem inst_yX4_cutBy : Cond.instanceMethod yX4_cutBy ∈ sf_gtbl := sf_mem 393 (by decide +kernel) rfl
theorem sel_RX4_yX4_cutBy : Cond.selects RX4 yX4_cutBy yX4_cutBy ∈ sf_gtbl := sf_mem 394 (by decide +kernel) rfl
set_option maxRecDepth 100000 in
theorem code_yX4_cutBy : Cond.code yX4_cutBy cX4_cutBy 4 (some .int) ∈ sf_gtbl := sf_mem 395 rfl rfl
theorem ml_RX4_104 : Cond.methodLink RX4 104 yX4_isWhole ∈ sf_gtbl := sf_mem 396 (by decide +kernel) rfl
theorem inst_yX4_isWhole : Cond.instanceMethod yX4_isWhole ∈ sf_gtbl := sf_mem 397 (by decide +kernel) rfl
theorem sel_RX4_yX4_isWhole : Cond.selects RX4 yX4_isWhole yX4_isWhole ∈ sf_gtbl := sf_mem 398 (by decide +kernel) rfl
set_option maxRecDepth 100000 in
theorem code_yX4_isWhole : Cond.code yX4_isWhole cX4_isWhole 2 (some .boolean) ∈ sf_gtbl := sf_mem 399 rfl rfl
theorem ml_RL_31 : Cond.methodLink RL 31 yX9_set ∈ sf_gtbl := sf_mem 400 (by decide +kernel) rfl
theorem inst_yX9_set : Cond.instanceMethod yX9_set ∈ sf_gtbl := sf_mem 401 (by decide +kernel) rfl
theorem sel_RX9_yX9_set : Cond.selects RX9 yX9_set yX9_set ∈ sf_gtbl := sf_mem 402 (by decide +kernel) rfl
set_option maxRecDepth 100000 in
theorem code_yX9_set : Cond.code yX9_set cX9_set 5 (some .int) ∈ sf_gtbl := sf_mem 403 rfl rfl
theorem ml_RX9_124 : Cond.methodLink RX9 124 yX4_moveFine ∈ sf_gtbl := sf_mem 404 (by decide +kernel) rfl
theorem inst_yX4_moveFine : Cond.instanceMethod yX4_moveFine ∈ sf_gtbl := sf_mem 405 (by decide +kernel) rfl
theorem sel_RX4_yX4_moveFine : Cond.selects RX4 yX4_moveFine yX4_moveFine ∈ sf_gtbl := sf_mem 406 (by decide +kernel) rfl
set_option maxRecDepth 100000 in
theorem code_yX4_moveFine : Cond.code yX4_moveFine cX4_moveFine 3 none ∈ sf_gtbl := sf_mem 407 rfl rfl
theorem ml_RL_35 : Cond.methodLink RL 35 yX9_turn ∈ sf_gtbl := sf_mem 408 (by decide +kernel) rfl
theorem inst_yX9_turn : Cond.instanceMethod yX9_turn ∈ sf_gtbl := sf_mem 409 (by decide +kernel) rfl
theorem sel_RX9_yX9_turn : Cond.selects RX9 yX9_turn yX9_turn ∈ sf_gtbl := sf_mem 410 (by decide +kernel) rfl
set_option maxRecDepth 100000 in
theorem code_yX9_turn : Cond.code yX9_turn cX9_turn 4 (some .int) ∈ sf_gtbl := sf_mem 411 rfl rfl
theorem ml_RL_39 : Cond.methodLink RL 39 yX9_as ∈ sf_gtbl := sf_mem 412 (by decide +kernel) rfl
theorem inst_yX9_as : Cond.instanceMethod yX9_as ∈ sf_gtbl := sf_mem 413 (by decide +kernel) rfl
theorem sel_RX9_yX9_as : Cond.selects RX9 yX9_as yX9_as ∈ sf_gtbl := sf_mem 414 (by decide +kernel) rfl
set_option maxRecDepth 100000 in
theorem code_yX9_as : Cond.code yX9_as cX9_as 3 (some .int) ∈ sf_gtbl := sf_mem 415 rfl rfl
theorem ml_RX9_128 : Cond.methodLink RX9 128 yX4_kindOf ∈ sf_gtbl := sf_mem 416 (by decide +kernel) rfl
theorem ml_RX9_132 : Cond.methodLink RX9 132 yX9_isOfKind ∈ sf_gtbl := sf_mem 417 (by decide +kernel) rfl
theorem stat_yX9_isOfKind : Cond.static yX9_isOfKind ∈ sf_gtbl := sf_mem 418 (by decide +kernel) rfl
set_option maxRecDepth 100000 in
theorem code_yX9_isOfKind : Cond.code yX9_isOfKind cX9_isOfKind 2 (some .boolean) ∈ sf_gtbl := sf_mem 419 rfl rfl
theorem ml_RL_43 : Cond.methodLink RL 43 yX9_placeOf ∈ sf_gtbl := sf_mem 420 (by decide +kernel) rfl
theorem inst_yX9_placeOf : Cond.instanceMethod yX9_placeOf ∈ sf_gtbl := sf_mem 421 (by decide +kernel) rfl
theorem sel_RX9_yX9_placeOf : Cond.selects RX9 yX9_placeOf yX9_placeOf ∈ sf_gtbl := sf_mem 422 (by decide +kernel) rfl
set_option maxRecDepth 100000 in
theorem code_yX9_placeOf : Cond.code yX9_placeOf cX9_placeOf 3 (some .int) ∈ sf_gtbl := sf_mem 423 rfl rfl
theorem ml_RX9_136 : Cond.methodLink RX9 136 yX4_isWhole ∈ sf_gtbl := sf_mem 424 (by decide +kernel) rfl
theorem ml_RL_47 : Cond.methodLink RL 47 yX9_whole ∈ sf_gtbl := sf_mem 425 (by decide +kernel) rfl
theorem inst_yX9_whole : Cond.instanceMethod yX9_whole ∈ sf_gtbl := sf_mem 426 (by decide +kernel) rfl
theorem sel_RX9_yX9_whole : Cond.selects RX9 yX9_whole yX9_whole ∈ sf_gtbl := sf_mem 427 (by decide +kernel) rfl
set_option maxRecDepth 100000 in
theorem code_yX9_whole : Cond.code yX9_whole cX9_whole 1 (some .long) ∈ sf_gtbl := sf_mem 428 rfl rfl
theorem ml_RL_52 : Cond.methodLink RL 52 yX9_make ∈ sf_gtbl := sf_mem 429 (by decide +kernel) rfl
theorem inst_yX9_make : Cond.instanceMethod yX9_make ∈ sf_gtbl := sf_mem 430 (by decide +kernel) rfl
theorem sel_RX9_yX9_make : Cond.selects RX9 yX9_make yX9_make ∈ sf_gtbl := sf_mem 431 (by decide +kernel) rfl
set_option maxRecDepth 100000 in
theorem code_yX9_make : Cond.code yX9_make cX9_make 4 (some .int) ∈ sf_gtbl := sf_mem 432 rfl rfl
theorem ml_RX9_152 : Cond.methodLink RX9 152 yX4_cut ∈ sf_gtbl := sf_mem 433 (by decide +kernel) rfl
theorem inst_yX4_cut : Cond.instanceMethod yX4_cut ∈ sf_gtbl := sf_mem 434 (by decide +kernel) rfl
theorem sel_RX4_yX4_cut : Cond.selects RX4 yX4_cut yX4_cut ∈ sf_gtbl := sf_mem 435 (by decide +kernel) rfl
set_option maxRecDepth 100000 in
theorem code_yX4_cut : Cond.code yX4_cut cX4_cut 4 none ∈ sf_gtbl := sf_mem 436 rfl rfl
theorem ml_RX9_156 : Cond.methodLink RX9 156 yX4_breakUp ∈ sf_gtbl := sf_mem 437 (by decide +kernel) rfl
theorem inst_yX4_breakUp : Cond.instanceMethod yX4_breakUp ∈ sf_gtbl := sf_mem 438 (by decide +kernel) rfl
theorem sel_RX4_yX4_breakUp : Cond.selects RX4 yX4_breakUp yX4_breakUp ∈ sf_gtbl := sf_mem 439 (by decide +kernel) rfl
set_option maxRecDepth 100000 in
theorem code_yX4_breakUp : Cond.code yX4_breakUp cX4_breakUp 2 none ∈ sf_gtbl := sf_mem 440 rfl rfl
theorem cl_RX4_113 : Cond.constantLong RX4 113 (-1) ∈ sf_gtbl := sf_mem 441 (by decide +kernel) rfl
theorem ml_RL_57 : Cond.methodLink RL 57 yX9_reach ∈ sf_gtbl := sf_mem 442 (by decide +kernel) rfl
theorem inst_yX9_reach : Cond.instanceMethod yX9_reach ∈ sf_gtbl := sf_mem 443 (by decide +kernel) rfl
theorem sel_RX9_yX9_reach : Cond.selects RX9 yX9_reach yX9_reach ∈ sf_gtbl := sf_mem 444 (by decide +kernel) rfl
set_option maxRecDepth 100000 in
theorem code_yX9_reach : Cond.code yX9_reach cX9_reach 1 (some .int) ∈ sf_gtbl := sf_mem 445 rfl rfl
theorem ml_RX9_160 : Cond.methodLink RX9 160 yX4_climb ∈ sf_gtbl := sf_mem 446 (by decide +kernel) rfl
theorem inst_yX4_climb : Cond.instanceMethod yX4_climb ∈ sf_gtbl := sf_mem 447 (by decide +kernel) rfl
theorem sel_RX4_yX4_climb : Cond.selects RX4 yX4_climb yX4_climb ∈ sf_gtbl := sf_mem 448 (by decide +kernel) rfl
set_option maxRecDepth 100000 in
theorem code_yX4_climb : Cond.code yX4_climb cX4_climb 1 (some .int) ∈ sf_gtbl := sf_mem 449 rfl rfl
theorem ml_RX4_120 : Cond.methodLink RX4 120 yX4_climbWith ∈ sf_gtbl := sf_mem 450 (by decide +kernel) rfl
theorem inst_yX4_climbWith : Cond.instanceMethod yX4_climbWith ∈ sf_gtbl := sf_mem 451 (by decide +kernel) rfl
theorem sel_RX4_yX4_climbWith : Cond.selects RX4 yX4_climbWith yX4_climbWith ∈ sf_gtbl := sf_mem 452 (by decide +kernel) rfl
set_option maxRecDepth 100000 in
theorem code_yX4_climbWith : Cond.code yX4_climbWith cX4_climbWith 3 (some .int) ∈ sf_gtbl := sf_mem 453 rfl rfl
theorem ml_RX4_123 : Cond.methodLink RX4 123 yX4_isMet ∈ sf_gtbl := sf_mem 454 (by decide +kernel) rfl
theorem inst_yX4_isMet : Cond.instanceMethod yX4_isMet ∈ sf_gtbl := sf_mem 455 (by decide +kernel) rfl
theorem sel_RX4_yX4_isMet : Cond.selects RX4 yX4_isMet yX4_isMet ∈ sf_gtbl := sf_mem 456 (by decide +kernel) rfl
set_option maxRecDepth 100000 in
theorem code_yX4_isMet : Cond.code yX4_isMet cX4_isMet 3 (some .boolean) ∈ sf_gtbl := sf_mem 457 rfl rfl
theorem ml_RX4_115 : Cond.methodLink RX4 115 Lib.Math.abs.name ∈ sf_gtbl := sf_mem 458 (by decide +kernel) rfl
theorem stat_Lib_Math_abs_name : Cond.static Lib.Math.abs.name ∈ sf_gtbl := sf_mem 459 (by decide +kernel) rfl
theorem code_Lib_Math_abs_name : Cond.code Lib.Math.abs.name Lib.Math.abs.code 1 (some .int) ∈ sf_gtbl := sf_mem 460 (by decide +kernel) rfl
theorem ml_RL_62 : Cond.methodLink RL 62 yX9_faults ∈ sf_gtbl := sf_mem 461 (by decide +kernel) rfl
theorem inst_yX9_faults : Cond.instanceMethod yX9_faults ∈ sf_gtbl := sf_mem 462 (by decide +kernel) rfl
theorem sel_RX9_yX9_faults : Cond.selects RX9 yX9_faults yX9_faults ∈ sf_gtbl := sf_mem 463 (by decide +kernel) rfl
set_option maxRecDepth 100000 in
theorem code_yX9_faults : Cond.code yX9_faults cX9_faults 4 (some .long) ∈ sf_gtbl := sf_mem 464 rfl rfl
theorem ml_RX9_164 : Cond.methodLink RX9 164 yX4_isPair ∈ sf_gtbl := sf_mem 465 (by decide +kernel) rfl
theorem inst_yX4_isPair : Cond.instanceMethod yX4_isPair ∈ sf_gtbl := sf_mem 466 (by decide +kernel) rfl
theorem sel_RX4_yX4_isPair : Cond.selects RX4 yX4_isPair yX4_isPair ∈ sf_gtbl := sf_mem 467 (by decide +kernel) rfl
set_option maxRecDepth 100000 in
theorem code_yX4_isPair : Cond.code yX4_isPair cX4_isPair 2 (some .boolean) ∈ sf_gtbl := sf_mem 468 rfl rfl
theorem ml_RX9_167 : Cond.methodLink RX9 167 yX4_isMet ∈ sf_gtbl := sf_mem 469 (by decide +kernel) rfl
theorem ml_RL_66 : Cond.methodLink RL 66 yX9_years ∈ sf_gtbl := sf_mem 470 (by decide +kernel) rfl
theorem inst_yX9_years : Cond.instanceMethod yX9_years ∈ sf_gtbl := sf_mem 471 (by decide +kernel) rfl
theorem sel_RX9_yX9_years : Cond.selects RX9 yX9_years yX9_years ∈ sf_gtbl := sf_mem 472 (by decide +kernel) rfl
set_option maxRecDepth 100000 in
theorem code_yX9_years : Cond.code yX9_years cX9_years 3 (some .int) ∈ sf_gtbl := sf_mem 473 rfl rfl
theorem ml_RX9_171 : Cond.methodLink RX9 171 yX9_againstYears ∈ sf_gtbl := sf_mem 474 (by decide +kernel) rfl
theorem inst_yX9_againstYears : Cond.instanceMethod yX9_againstYears ∈ sf_gtbl := sf_mem 476 (by decide +kernel) rfl
set_option maxRecDepth 100000 in
theorem code_yX9_againstYears : Cond.code yX9_againstYears cX9_againstYears 4 (some .int) ∈ sf_gtbl := sf_mem 477 rfl rfl
theorem ml_RX9_193 : Cond.methodLink RX9 193 yX9_isTooLateFor ∈ sf_gtbl := sf_mem 478 (by decide +kernel) rfl
theorem inst_yX9_isTooLateFor : Cond.instanceMethod yX9_isTooLateFor ∈ sf_gtbl := sf_mem 480 (by decide +kernel) rfl
set_option maxRecDepth 100000 in
theorem code_yX9_isTooLateFor : Cond.code yX9_isTooLateFor cX9_isTooLateFor 2 (some .boolean) ∈ sf_gtbl := sf_mem 481 rfl rfl
theorem ml_RX9_175 : Cond.methodLink RX9 175 yX4_goYears ∈ sf_gtbl := sf_mem 482 (by decide +kernel) rfl
theorem inst_yX4_goYears : Cond.instanceMethod yX4_goYears ∈ sf_gtbl := sf_mem 483 (by decide +kernel) rfl
theorem sel_RX4_yX4_goYears : Cond.selects RX4 yX4_goYears yX4_goYears ∈ sf_gtbl := sf_mem 484 (by decide +kernel) rfl
set_option maxRecDepth 100000 in
theorem code_yX4_goYears : Cond.code yX4_goYears cX4_goYears 3 none ∈ sf_gtbl := sf_mem 485 rfl rfl
theorem ml_RX4_127 : Cond.methodLink RX4 127 yX4_isAtRest ∈ sf_gtbl := sf_mem 486 (by decide +kernel) rfl
theorem inst_yX4_isAtRest : Cond.instanceMethod yX4_isAtRest ∈ sf_gtbl := sf_mem 488 (by decide +kernel) rfl
set_option maxRecDepth 100000 in
theorem code_yX4_isAtRest : Cond.code yX4_isAtRest cX4_isAtRest 3 (some .boolean) ∈ sf_gtbl := sf_mem 489 rfl rfl
theorem cl_RX4_133 : Cond.constantLong RX4 133 (1099511627775) ∈ sf_gtbl := sf_mem 490 (by decide +kernel) rfl
theorem ml_RX4_135 : Cond.methodLink RX4 135 yX4_owedByAll ∈ sf_gtbl := sf_mem 491 (by decide +kernel) rfl
theorem inst_yX4_owedByAll : Cond.instanceMethod yX4_owedByAll ∈ sf_gtbl := sf_mem 492 (by decide +kernel) rfl
theorem sel_RX4_yX4_owedByAll : Cond.selects RX4 yX4_owedByAll yX4_owedByAll ∈ sf_gtbl := sf_mem 493 (by decide +kernel) rfl
set_option maxRecDepth 100000 in
theorem code_yX4_owedByAll : Cond.code yX4_owedByAll cX4_owedByAll 3 (some .int) ∈ sf_gtbl := sf_mem 494 rfl rfl
theorem ml_RX4_130 : Cond.methodLink RX4 130 yX4_goYear ∈ sf_gtbl := sf_mem 495 (by decide +kernel) rfl
theorem inst_yX4_goYear : Cond.instanceMethod yX4_goYear ∈ sf_gtbl := sf_mem 497 (by decide +kernel) rfl
set_option maxRecDepth 100000 in
theorem code_yX4_goYear : Cond.code yX4_goYear cX4_goYear 2 none ∈ sf_gtbl := sf_mem 498 rfl rfl
theorem ml_RX4_138 : Cond.methodLink RX4 138 yX4_goOn ∈ sf_gtbl := sf_mem 499 (by decide +kernel) rfl
theorem inst_yX4_goOn : Cond.instanceMethod yX4_goOn ∈ sf_gtbl := sf_mem 501 (by decide +kernel) rfl
set_option maxRecDepth 100000 in
theorem code_yX4_goOn : Cond.code yX4_goOn cX4_goOn 3 none ∈ sf_gtbl := sf_mem 502 rfl rfl
theorem ml_RX4_149 : Cond.methodLink RX4 149 yX4_moveFine ∈ sf_gtbl := sf_mem 503 (by decide +kernel) rfl
theorem ml_RX4_142 : Cond.methodLink RX4 142 yX4_workOn ∈ sf_gtbl := sf_mem 504 (by decide +kernel) rfl
theorem inst_yX4_workOn : Cond.instanceMethod yX4_workOn ∈ sf_gtbl := sf_mem 506 (by decide +kernel) rfl
set_option maxRecDepth 100000 in
theorem code_yX4_workOn : Cond.code yX4_workOn cX4_workOn 4 none ∈ sf_gtbl := sf_mem 507 rfl rfl
theorem ml_RX4_152 : Cond.methodLink RX4 152 yX4_cut ∈ sf_gtbl := sf_mem 508 (by decide +kernel) rfl
theorem ml_RX4_156 : Cond.methodLink RX4 156 yX3_counts ∈ sf_gtbl := sf_mem 509 (by decide +kernel) rfl
theorem inst_yX3_counts : Cond.instanceMethod yX3_counts ∈ sf_gtbl := sf_mem 510 (by decide +kernel) rfl
theorem sel_RX3_yX3_counts : Cond.selects RX3 yX3_counts yX3_counts ∈ sf_gtbl := sf_mem 511 (by decide +kernel) rfl
theorem same_StairFines_Kind_StairFines_Kind_counts___I : Cond.sameMethod "StairFines$Kind" "StairFines$Kind" "counts" "()I" ∈ sf_gtbl := sf_mem 512 (by decide +kernel) rfl
theorem sel_RX0_yX3_counts : Cond.selects RX0 yX3_counts yX3_counts ∈ sf_gtbl := sf_mem 513 (by decide +kernel) rfl
theorem sel_RX1_yX3_counts_yX1_counts : Cond.selects RX1 yX3_counts yX1_counts ∈ sf_gtbl := sf_mem 514 (by decide +kernel) rfl
theorem inst_yX1_counts : Cond.instanceMethod yX1_counts ∈ sf_gtbl := sf_mem 515 (by decide +kernel) rfl
set_option maxRecDepth 100000 in
theorem code_yX1_counts : Cond.code yX1_counts cX1_counts 1 (some .int) ∈ sf_gtbl := sf_mem 516 rfl rfl
theorem sel_RX2_yX3_counts : Cond.selects RX2 yX3_counts yX3_counts ∈ sf_gtbl := sf_mem 517 (by decide +kernel) rfl
theorem sel_RX5_yX3_counts : Cond.selects RX5 yX3_counts yX3_counts ∈ sf_gtbl := sf_mem 518 (by decide +kernel) rfl
theorem sel_RX6_yX3_counts : Cond.selects RX6 yX3_counts yX3_counts ∈ sf_gtbl := sf_mem 519 (by decide +kernel) rfl
set_option maxRecDepth 100000 in
theorem code_yX3_counts : Cond.code yX3_counts cX3_counts 1 (some .int) ∈ sf_gtbl := sf_mem 520 rfl rfl
theorem ml_RX4_159 : Cond.methodLink RX4 159 Lib.Math.max.name ∈ sf_gtbl := sf_mem 521 (by decide +kernel) rfl
theorem stat_Lib_Math_max_name : Cond.static Lib.Math.max.name ∈ sf_gtbl := sf_mem 522 (by decide +kernel) rfl
theorem code_Lib_Math_max_name : Cond.code Lib.Math.max.name Lib.Math.max.code 2 (some .int) ∈ sf_gtbl := sf_mem 523 (by decide +kernel) rfl
theorem ml_RX4_146 : Cond.methodLink RX4 146 yX4_freeze ∈ sf_gtbl := sf_mem 524 (by decide +kernel) rfl
theorem inst_yX4_freeze : Cond.instanceMethod yX4_freeze ∈ sf_gtbl := sf_mem 526 (by decide +kernel) rfl
set_option maxRecDepth 100000 in
theorem code_yX4_freeze : Cond.code yX4_freeze cX4_freeze 2 none ∈ sf_gtbl := sf_mem 527 rfl rfl
theorem ml_RX4_162 : Cond.methodLink RX4 162 yX4_draw ∈ sf_gtbl := sf_mem 528 (by decide +kernel) rfl
theorem inst_yX4_draw : Cond.instanceMethod yX4_draw ∈ sf_gtbl := sf_mem 530 (by decide +kernel) rfl
set_option maxRecDepth 100000 in
theorem code_yX4_draw : Cond.code yX4_draw cX4_draw 1 (some .int) ∈ sf_gtbl := sf_mem 531 rfl rfl
theorem ct_RX4_168 : Cond.constant RX4 168 (1103515245) ∈ sf_gtbl := sf_mem 532 (by decide +kernel) rfl
theorem ml_RX4_165 : Cond.methodLink RX4 165 yX4_breakUp ∈ sf_gtbl := sf_mem 533 (by decide +kernel) rfl
theorem ml_RX9_178 : Cond.methodLink RX9 178 yX4_wholePlaces ∈ sf_gtbl := sf_mem 534 (by decide +kernel) rfl
theorem ml_RL_71 : Cond.methodLink RL 71 yX9_seed ∈ sf_gtbl := sf_mem 535 (by decide +kernel) rfl
theorem inst_yX9_seed : Cond.instanceMethod yX9_seed ∈ sf_gtbl := sf_mem 536 (by decide +kernel) rfl
theorem sel_RX9_yX9_seed : Cond.selects RX9 yX9_seed yX9_seed ∈ sf_gtbl := sf_mem 537 (by decide +kernel) rfl
set_option maxRecDepth 100000 in
theorem code_yX9_seed : Cond.code yX9_seed cX9_seed 3 (some .int) ∈ sf_gtbl := sf_mem 538 rfl rfl
theorem ml_RL_75 : Cond.methodLink RL 75 yX9_now ∈ sf_gtbl := sf_mem 539 (by decide +kernel) rfl
theorem inst_yX9_now : Cond.instanceMethod yX9_now ∈ sf_gtbl := sf_mem 540 (by decide +kernel) rfl
theorem sel_RX9_yX9_now : Cond.selects RX9 yX9_now yX9_now ∈ sf_gtbl := sf_mem 541 (by decide +kernel) rfl
set_option maxRecDepth 100000 in
theorem code_yX9_now : Cond.code yX9_now cX9_now 2 (some .int) ∈ sf_gtbl := sf_mem 542 rfl rfl
theorem ml_RX9_187 : Cond.methodLink RX9 187 yX4_owedByAll ∈ sf_gtbl := sf_mem 543 (by decide +kernel) rfl
theorem ml_RL_79 : Cond.methodLink RL 79 yX9_on ∈ sf_gtbl := sf_mem 544 (by decide +kernel) rfl
theorem inst_yX9_on : Cond.instanceMethod yX9_on ∈ sf_gtbl := sf_mem 545 (by decide +kernel) rfl
theorem sel_RX9_yX9_on : Cond.selects RX9 yX9_on yX9_on ∈ sf_gtbl := sf_mem 546 (by decide +kernel) rfl
set_option maxRecDepth 100000 in
theorem code_yX9_on : Cond.code yX9_on cX9_on 3 (some .long) ∈ sf_gtbl := sf_mem 547 rfl rfl
theorem ml_RX9_190 : Cond.methodLink RX9 190 yX9_startTrial ∈ sf_gtbl := sf_mem 548 (by decide +kernel) rfl
theorem inst_yX9_startTrial : Cond.instanceMethod yX9_startTrial ∈ sf_gtbl := sf_mem 550 (by decide +kernel) rfl
set_option maxRecDepth 100000 in
theorem code_yX9_startTrial : Cond.code yX9_startTrial cX9_startTrial 1 none ∈ sf_gtbl := sf_mem 551 rfl rfl
theorem ml_RX9_214 : Cond.methodLink RX9 214 yX4_become ∈ sf_gtbl := sf_mem 552 (by decide +kernel) rfl
theorem inst_yX4_become : Cond.instanceMethod yX4_become ∈ sf_gtbl := sf_mem 553 (by decide +kernel) rfl
theorem sel_RX4_yX4_become : Cond.selects RX4 yX4_become yX4_become ∈ sf_gtbl := sf_mem 554 (by decide +kernel) rfl
set_option maxRecDepth 100000 in
theorem code_yX4_become : Cond.code yX4_become cX4_become 2 none ∈ sf_gtbl := sf_mem 555 rfl rfl
theorem ml_RX4_56 : Cond.methodLink RX4 56 arraycopyName ∈ sf_gtbl := sf_mem 556 (by decide +kernel) rfl
theorem stat_arraycopyName : Cond.static arraycopyName ∈ sf_gtbl := sf_mem 557 (by decide +kernel) rfl
theorem nat_arraycopyName : Cond.native arraycopyName ∈ sf_gtbl := sf_mem 558 (by decide +kernel) rfl
theorem ml_RL_84 : Cond.methodLink RL 84 yX9_reachOn ∈ sf_gtbl := sf_mem 559 (by decide +kernel) rfl
theorem inst_yX9_reachOn : Cond.instanceMethod yX9_reachOn ∈ sf_gtbl := sf_mem 560 (by decide +kernel) rfl
theorem sel_RX9_yX9_reachOn : Cond.selects RX9 yX9_reachOn yX9_reachOn ∈ sf_gtbl := sf_mem 561 (by decide +kernel) rfl
set_option maxRecDepth 100000 in
theorem code_yX9_reachOn : Cond.code yX9_reachOn cX9_reachOn 3 (some .int) ∈ sf_gtbl := sf_mem 562 rfl rfl
theorem ml_RL_88 : Cond.methodLink RL 88 yX9_pass ∈ sf_gtbl := sf_mem 563 (by decide +kernel) rfl
theorem inst_yX9_pass : Cond.instanceMethod yX9_pass ∈ sf_gtbl := sf_mem 564 (by decide +kernel) rfl
theorem sel_RX9_yX9_pass : Cond.selects RX9 yX9_pass yX9_pass ∈ sf_gtbl := sf_mem 565 (by decide +kernel) rfl
set_option maxRecDepth 100000 in
theorem code_yX9_pass : Cond.code yX9_pass cX9_pass 2 (some .int) ∈ sf_gtbl := sf_mem 566 rfl rfl
theorem ml_RL_92 : Cond.methodLink RL 92 yX9_paid ∈ sf_gtbl := sf_mem 567 (by decide +kernel) rfl
theorem inst_yX9_paid : Cond.instanceMethod yX9_paid ∈ sf_gtbl := sf_mem 568 (by decide +kernel) rfl
theorem sel_RX9_yX9_paid : Cond.selects RX9 yX9_paid yX9_paid ∈ sf_gtbl := sf_mem 569 (by decide +kernel) rfl
set_option maxRecDepth 100000 in
theorem code_yX9_paid : Cond.code yX9_paid cX9_paid 3 (some .int) ∈ sf_gtbl := sf_mem 570 rfl rfl
theorem ml_RL_96 : Cond.methodLink RL 96 yX9_farthest ∈ sf_gtbl := sf_mem 571 (by decide +kernel) rfl
theorem inst_yX9_farthest : Cond.instanceMethod yX9_farthest ∈ sf_gtbl := sf_mem 572 (by decide +kernel) rfl
theorem sel_RX9_yX9_farthest : Cond.selects RX9 yX9_farthest yX9_farthest ∈ sf_gtbl := sf_mem 573 (by decide +kernel) rfl
set_option maxRecDepth 100000 in
theorem code_yX9_farthest : Cond.code yX9_farthest cX9_farthest 5 (some .int) ∈ sf_gtbl := sf_mem 574 rfl rfl
theorem ml_RX9_196 : Cond.methodLink RX9 196 Lib.Math.max.name ∈ sf_gtbl := sf_mem 575 (by decide +kernel) rfl
theorem ml_RL_100 : Cond.methodLink RL 100 yX9_best ∈ sf_gtbl := sf_mem 576 (by decide +kernel) rfl
theorem inst_yX9_best : Cond.instanceMethod yX9_best ∈ sf_gtbl := sf_mem 577 (by decide +kernel) rfl
theorem sel_RX9_yX9_best : Cond.selects RX9 yX9_best yX9_best ∈ sf_gtbl := sf_mem 578 (by decide +kernel) rfl
set_option maxRecDepth 100000 in
theorem code_yX9_best : Cond.code yX9_best cX9_best 9 (some .int) ∈ sf_gtbl := sf_mem 579 rfl rfl
theorem ml_RL_104 : Cond.methodLink RL 104 yX9_kind ∈ sf_gtbl := sf_mem 580 (by decide +kernel) rfl
theorem inst_yX9_kind : Cond.instanceMethod yX9_kind ∈ sf_gtbl := sf_mem 581 (by decide +kernel) rfl
theorem sel_RX9_yX9_kind : Cond.selects RX9 yX9_kind yX9_kind ∈ sf_gtbl := sf_mem 582 (by decide +kernel) rfl
set_option maxRecDepth 100000 in
theorem code_yX9_kind : Cond.code yX9_kind cX9_kind 8 (some .int) ∈ sf_gtbl := sf_mem 583 rfl rfl
theorem ml_RL_108 : Cond.methodLink RL 108 yX9_mend ∈ sf_gtbl := sf_mem 584 (by decide +kernel) rfl
theorem inst_yX9_mend : Cond.instanceMethod yX9_mend ∈ sf_gtbl := sf_mem 585 (by decide +kernel) rfl
theorem sel_RX9_yX9_mend : Cond.selects RX9 yX9_mend yX9_mend ∈ sf_gtbl := sf_mem 586 (by decide +kernel) rfl
set_option maxRecDepth 100000 in
theorem code_yX9_mend : Cond.code yX9_mend cX9_mend 2 (some .int) ∈ sf_gtbl := sf_mem 587 rfl rfl
theorem ml_RL_112 : Cond.methodLink RL 112 yX9_needed ∈ sf_gtbl := sf_mem 588 (by decide +kernel) rfl
theorem inst_yX9_needed : Cond.instanceMethod yX9_needed ∈ sf_gtbl := sf_mem 589 (by decide +kernel) rfl
theorem sel_RX9_yX9_needed : Cond.selects RX9 yX9_needed yX9_needed ∈ sf_gtbl := sf_mem 590 (by decide +kernel) rfl
set_option maxRecDepth 100000 in
theorem code_yX9_needed : Cond.code yX9_needed cX9_needed 7 (some .int) ∈ sf_gtbl := sf_mem 591 rfl rfl
theorem ml_RL_116 : Cond.methodLink RL 116 yX9_steepest ∈ sf_gtbl := sf_mem 592 (by decide +kernel) rfl
theorem inst_yX9_steepest : Cond.instanceMethod yX9_steepest ∈ sf_gtbl := sf_mem 593 (by decide +kernel) rfl
theorem sel_RX9_yX9_steepest : Cond.selects RX9 yX9_steepest yX9_steepest ∈ sf_gtbl := sf_mem 594 (by decide +kernel) rfl
set_option maxRecDepth 100000 in
theorem code_yX9_steepest : Cond.code yX9_steepest cX9_steepest 5 (some .int) ∈ sf_gtbl := sf_mem 595 rfl rfl
theorem ml_RL_120 : Cond.methodLink RL 120 yX9_whose ∈ sf_gtbl := sf_mem 596 (by decide +kernel) rfl
theorem inst_yX9_whose : Cond.instanceMethod yX9_whose ∈ sf_gtbl := sf_mem 597 (by decide +kernel) rfl
theorem sel_RX9_yX9_whose : Cond.selects RX9 yX9_whose yX9_whose ∈ sf_gtbl := sf_mem 598 (by decide +kernel) rfl
set_option maxRecDepth 100000 in
theorem code_yX9_whose : Cond.code yX9_whose cX9_whose 5 (some .int) ∈ sf_gtbl := sf_mem 599 rfl rfl
theorem ml_RL_124 : Cond.methodLink RL 124 yX9_bears ∈ sf_gtbl := sf_mem 600 (by decide +kernel) rfl
theorem inst_yX9_bears : Cond.instanceMethod yX9_bears ∈ sf_gtbl := sf_mem 601 (by decide +kernel) rfl
theorem sel_RX9_yX9_bears : Cond.selects RX9 yX9_bears yX9_bears ∈ sf_gtbl := sf_mem 602 (by decide +kernel) rfl
set_option maxRecDepth 100000 in
theorem code_yX9_bears : Cond.code yX9_bears cX9_bears 4 (some .int) ∈ sf_gtbl := sf_mem 603 rfl rfl
theorem ml_RL_128 : Cond.methodLink RL 128 yX9_meetsFor ∈ sf_gtbl := sf_mem 604 (by decide +kernel) rfl
theorem inst_yX9_meetsFor : Cond.instanceMethod yX9_meetsFor ∈ sf_gtbl := sf_mem 605 (by decide +kernel) rfl
theorem sel_RX9_yX9_meetsFor : Cond.selects RX9 yX9_meetsFor yX9_meetsFor ∈ sf_gtbl := sf_mem 606 (by decide +kernel) rfl
set_option maxRecDepth 100000 in
theorem code_yX9_meetsFor : Cond.code yX9_meetsFor cX9_meetsFor 3 (some .int) ∈ sf_gtbl := sf_mem 607 rfl rfl
theorem ml_RX9_201 : Cond.methodLink RX9 201 yX4_climbWith ∈ sf_gtbl := sf_mem 608 (by decide +kernel) rfl
theorem ml_RL_132 : Cond.methodLink RL 132 yX9_alone ∈ sf_gtbl := sf_mem 609 (by decide +kernel) rfl
theorem inst_yX9_alone : Cond.instanceMethod yX9_alone ∈ sf_gtbl := sf_mem 610 (by decide +kernel) rfl
theorem sel_RX9_yX9_alone : Cond.selects RX9 yX9_alone yX9_alone ∈ sf_gtbl := sf_mem 611 (by decide +kernel) rfl
set_option maxRecDepth 100000 in
theorem code_yX9_alone : Cond.code yX9_alone cX9_alone 5 (some .int) ∈ sf_gtbl := sf_mem 612 rfl rfl
theorem ml_RL_136 : Cond.methodLink RL 136 yX9_feed ∈ sf_gtbl := sf_mem 613 (by decide +kernel) rfl
theorem inst_yX9_feed : Cond.instanceMethod yX9_feed ∈ sf_gtbl := sf_mem 614 (by decide +kernel) rfl
theorem sel_RX9_yX9_feed : Cond.selects RX9 yX9_feed yX9_feed ∈ sf_gtbl := sf_mem 615 (by decide +kernel) rfl
set_option maxRecDepth 100000 in
theorem code_yX9_feed : Cond.code yX9_feed cX9_feed 4 (some .int) ∈ sf_gtbl := sf_mem 616 rfl rfl
theorem ml_RX9_207 : Cond.methodLink RX9 207 yX8_append ∈ sf_gtbl := sf_mem 617 (by decide +kernel) rfl
theorem inst_yX8_append : Cond.instanceMethod yX8_append ∈ sf_gtbl := sf_mem 618 (by decide +kernel) rfl
theorem sel_RX8_yX8_append : Cond.selects RX8 yX8_append yX8_append ∈ sf_gtbl := sf_mem 619 (by decide +kernel) rfl
set_option maxRecDepth 100000 in
theorem code_yX8_append : Cond.code yX8_append cX8_append 2 none ∈ sf_gtbl := sf_mem 620 rfl rfl
theorem ml_RL_140 : Cond.methodLink RL 140 yX9_wipe ∈ sf_gtbl := sf_mem 621 (by decide +kernel) rfl
theorem inst_yX9_wipe : Cond.instanceMethod yX9_wipe ∈ sf_gtbl := sf_mem 622 (by decide +kernel) rfl
theorem sel_RX9_yX9_wipe : Cond.selects RX9 yX9_wipe yX9_wipe ∈ sf_gtbl := sf_mem 623 (by decide +kernel) rfl
set_option maxRecDepth 100000 in
theorem code_yX9_wipe : Cond.code yX9_wipe cX9_wipe 2 (some .int) ∈ sf_gtbl := sf_mem 624 rfl rfl
theorem ml_RL_144 : Cond.methodLink RL 144 yX9_court ∈ sf_gtbl := sf_mem 625 (by decide +kernel) rfl
theorem inst_yX9_court : Cond.instanceMethod yX9_court ∈ sf_gtbl := sf_mem 626 (by decide +kernel) rfl
theorem sel_RX9_yX9_court : Cond.selects RX9 yX9_court yX9_court ∈ sf_gtbl := sf_mem 627 (by decide +kernel) rfl
set_option maxRecDepth 100000 in
theorem code_yX9_court : Cond.code yX9_court cX9_court 2 (some .int) ∈ sf_gtbl := sf_mem 628 rfl rfl
theorem ml_RX9_210 : Cond.methodLink RX9 210 yX8_tell ∈ sf_gtbl := sf_mem 629 (by decide +kernel) rfl
theorem inst_yX8_tell : Cond.instanceMethod yX8_tell ∈ sf_gtbl := sf_mem 630 (by decide +kernel) rfl
theorem sel_RX8_yX8_tell : Cond.selects RX8 yX8_tell yX8_tell ∈ sf_gtbl := sf_mem 631 (by decide +kernel) rfl
set_option maxRecDepth 100000 in
theorem code_yX8_tell : Cond.code yX8_tell cX8_tell 3 (some .int) ∈ sf_gtbl := sf_mem 632 rfl rfl
theorem ml_RX8_26 : Cond.methodLink RX8 26 yX8_advance ∈ sf_gtbl := sf_mem 633 (by decide +kernel) rfl
theorem inst_yX8_advance : Cond.instanceMethod yX8_advance ∈ sf_gtbl := sf_mem 635 (by decide +kernel) rfl
set_option maxRecDepth 100000 in
theorem code_yX8_advance : Cond.code yX8_advance cX8_advance 2 none ∈ sf_gtbl := sf_mem 636 rfl rfl
theorem ml_RX8_112 : Cond.methodLink RX8 112 yX8_isLetter ∈ sf_gtbl := sf_mem 637 (by decide +kernel) rfl
theorem stat_yX8_isLetter : Cond.static yX8_isLetter ∈ sf_gtbl := sf_mem 638 (by decide +kernel) rfl
set_option maxRecDepth 100000 in
theorem code_yX8_isLetter : Cond.code yX8_isLetter cX8_isLetter 1 (some .boolean) ∈ sf_gtbl := sf_mem 639 rfl rfl
theorem ml_RX8_116 : Cond.methodLink RX8 116 yX8_isDigit ∈ sf_gtbl := sf_mem 640 (by decide +kernel) rfl
theorem stat_yX8_isDigit : Cond.static yX8_isDigit ∈ sf_gtbl := sf_mem 641 (by decide +kernel) rfl
set_option maxRecDepth 100000 in
theorem code_yX8_isDigit : Cond.code yX8_isDigit cX8_isDigit 1 (some .boolean) ∈ sf_gtbl := sf_mem 642 rfl rfl
theorem ml_RX8_119 : Cond.methodLink RX8 119 Lib.Math.min.name ∈ sf_gtbl := sf_mem 643 (by decide +kernel) rfl
theorem stat_Lib_Math_min_name : Cond.static Lib.Math.min.name ∈ sf_gtbl := sf_mem 644 (by decide +kernel) rfl
theorem code_Lib_Math_min_name : Cond.code Lib.Math.min.name Lib.Math.min.code 2 (some .int) ∈ sf_gtbl := sf_mem 645 (by decide +kernel) rfl
theorem ml_RX8_29 : Cond.methodLink RX8 29 yX8_item ∈ sf_gtbl := sf_mem 646 (by decide +kernel) rfl
theorem inst_yX8_item : Cond.instanceMethod yX8_item ∈ sf_gtbl := sf_mem 648 (by decide +kernel) rfl
set_option maxRecDepth 100000 in
theorem code_yX8_item : Cond.code yX8_item cX8_item 3 (some .boolean) ∈ sf_gtbl := sf_mem 649 rfl rfl
theorem ml_RX8_39 : Cond.methodLink RX8 39 yX3_name ∈ sf_gtbl := sf_mem 650 (by decide +kernel) rfl
theorem inst_yX3_name : Cond.instanceMethod yX3_name ∈ sf_gtbl := sf_mem 651 (by decide +kernel) rfl
theorem sel_RX3_yX3_name : Cond.selects RX3 yX3_name yX3_name ∈ sf_gtbl := sf_mem 652 (by decide +kernel) rfl
theorem same_StairFines_Kind_StairFines_Kind_name___Ljava_lang_String_ : Cond.sameMethod "StairFines$Kind" "StairFines$Kind" "name" "()Ljava/lang/String;" ∈ sf_gtbl := sf_mem 653 (by decide +kernel) rfl
theorem sel_RX0_yX3_name_yX0_name : Cond.selects RX0 yX3_name yX0_name ∈ sf_gtbl := sf_mem 654 (by decide +kernel) rfl
theorem inst_yX0_name : Cond.instanceMethod yX0_name ∈ sf_gtbl := sf_mem 655 (by decide +kernel) rfl
set_option maxRecDepth 100000 in
theorem code_yX0_name : Cond.code yX0_name cX0_name 1 (some (.object "java/lang/String")) ∈ sf_gtbl := sf_mem 656 rfl rfl
theorem sel_RX1_yX3_name_yX1_name : Cond.selects RX1 yX3_name yX1_name ∈ sf_gtbl := sf_mem 658 (by decide +kernel) rfl
theorem inst_yX1_name : Cond.instanceMethod yX1_name ∈ sf_gtbl := sf_mem 659 (by decide +kernel) rfl
set_option maxRecDepth 100000 in
theorem code_yX1_name : Cond.code yX1_name cX1_name 1 (some (.object "java/lang/String")) ∈ sf_gtbl := sf_mem 660 rfl rfl
theorem sel_RX2_yX3_name_yX2_name : Cond.selects RX2 yX3_name yX2_name ∈ sf_gtbl := sf_mem 662 (by decide +kernel) rfl
theorem inst_yX2_name : Cond.instanceMethod yX2_name ∈ sf_gtbl := sf_mem 663 (by decide +kernel) rfl
set_option maxRecDepth 100000 in
theorem code_yX2_name : Cond.code yX2_name cX2_name 1 (some (.object "java/lang/String")) ∈ sf_gtbl := sf_mem 664 rfl rfl
theorem sel_RX5_yX3_name_yX5_name : Cond.selects RX5 yX3_name yX5_name ∈ sf_gtbl := sf_mem 666 (by decide +kernel) rfl
theorem inst_yX5_name : Cond.instanceMethod yX5_name ∈ sf_gtbl := sf_mem 667 (by decide +kernel) rfl
set_option maxRecDepth 100000 in
theorem code_yX5_name : Cond.code yX5_name cX5_name 1 (some (.object "java/lang/String")) ∈ sf_gtbl := sf_mem 668 rfl rfl
theorem sel_RX6_yX3_name_yX6_name : Cond.selects RX6 yX3_name yX6_name ∈ sf_gtbl := sf_mem 670 (by decide +kernel) rfl
theorem inst_yX6_name : Cond.instanceMethod yX6_name ∈ sf_gtbl := sf_mem 671 (by decide +kernel) rfl
set_option maxRecDepth 100000 in
theorem code_yX6_name : Cond.code yX6_name cX6_name 1 (some (.object "java/lang/String")) ∈ sf_gtbl := sf_mem 672 rfl rfl
set_option maxRecDepth 100000 in
theorem code_yX3_name : Cond.code yX3_name cX3_name 1 (some (.object "java/lang/String")) ∈ sf_gtbl := sf_mem 674 rfl rfl
theorem ml_RX8_45 : Cond.methodLink RX8 45 yX8_isWord ∈ sf_gtbl := sf_mem 676 (by decide +kernel) rfl
theorem inst_yX8_isWord : Cond.instanceMethod yX8_isWord ∈ sf_gtbl := sf_mem 678 (by decide +kernel) rfl
set_option maxRecDepth 100000 in
theorem code_yX8_isWord : Cond.code yX8_isWord cX8_isWord 3 (some .boolean) ∈ sf_gtbl := sf_mem 679 rfl rfl
theorem ml_RX8_103 : Cond.methodLink RX8 103 yJ0_length_8abf5 ∈ sf_gtbl := sf_mem 680 (by decide +kernel) rfl
theorem inst_yJ0_length_8abf5 : Cond.instanceMethod yJ0_length_8abf5 ∈ sf_gtbl := sf_mem 681 (by decide +kernel) rfl
theorem sel_RJ0_yJ0_length_8abf5 : Cond.selects RJ0 yJ0_length_8abf5 yJ0_length_8abf5 ∈ sf_gtbl := sf_mem 682 (by decide +kernel) rfl
set_option maxRecDepth 100000 in
theorem code_yJ0_length_8abf5 : Cond.code yJ0_length_8abf5 cJ0_length_8abf5 1 (some .int) ∈ sf_gtbl := sf_mem 683 rfl rfl
theorem ml_RJ0_335 : Cond.methodLink RJ0 335 yJ0_coder_7d493 ∈ sf_gtbl := sf_mem 684 (by decide +kernel) rfl
theorem inst_yJ0_coder_7d493 : Cond.instanceMethod yJ0_coder_7d493 ∈ sf_gtbl := sf_mem 685 (by decide +kernel) rfl
theorem sel_RJ0_yJ0_coder_7d493 : Cond.selects RJ0 yJ0_coder_7d493 yJ0_coder_7d493 ∈ sf_gtbl := sf_mem 686 (by decide +kernel) rfl
set_option maxRecDepth 100000 in
theorem code_yJ0_coder_7d493 : Cond.code yJ0_coder_7d493 cJ0_coder_7d493 1 (some .byte) ∈ sf_gtbl := sf_mem 687 rfl rfl
theorem ml_RX8_108 : Cond.methodLink RX8 108 yJ0_charAt_5068e ∈ sf_gtbl := sf_mem 690 (by decide +kernel) rfl
theorem inst_yJ0_charAt_5068e : Cond.instanceMethod yJ0_charAt_5068e ∈ sf_gtbl := sf_mem 691 (by decide +kernel) rfl
theorem sel_RJ0_yJ0_charAt_5068e : Cond.selects RJ0 yJ0_charAt_5068e yJ0_charAt_5068e ∈ sf_gtbl := sf_mem 692 (by decide +kernel) rfl
set_option maxRecDepth 100000 in
theorem code_yJ0_charAt_5068e : Cond.code yJ0_charAt_5068e cJ0_charAt_5068e 2 (some .char) ∈ sf_gtbl := sf_mem 693 rfl rfl
theorem ml_RJ0_492 : Cond.methodLink RJ0 492 yJ0_isLatin1_aae02 ∈ sf_gtbl := sf_mem 694 (by decide +kernel) rfl
theorem inst_yJ0_isLatin1_aae02 : Cond.instanceMethod yJ0_isLatin1_aae02 ∈ sf_gtbl := sf_mem 695 (by decide +kernel) rfl
theorem sel_RJ0_yJ0_isLatin1_aae02 : Cond.selects RJ0 yJ0_isLatin1_aae02 yJ0_isLatin1_aae02 ∈ sf_gtbl := sf_mem 696 (by decide +kernel) rfl
set_option maxRecDepth 100000 in
theorem code_yJ0_isLatin1_aae02 : Cond.code yJ0_isLatin1_aae02 cJ0_isLatin1_aae02 1 (some .boolean) ∈ sf_gtbl := sf_mem 697 rfl rfl
theorem ml_RJ0_495 : Cond.methodLink RJ0 495 yJ1_charAt_3b067 ∈ sf_gtbl := sf_mem 698 (by decide +kernel) rfl
theorem stat_yJ1_charAt_3b067 : Cond.static yJ1_charAt_3b067 ∈ sf_gtbl := sf_mem 699 (by decide +kernel) rfl
set_option maxRecDepth 100000 in
theorem code_yJ1_charAt_3b067 : Cond.code yJ1_charAt_3b067 cJ1_charAt_3b067 2 (some .char) ∈ sf_gtbl := sf_mem 700 rfl rfl
theorem ml_RJ1_9 : Cond.methodLink RJ1 9 yJ0_checkIndex_df160 ∈ sf_gtbl := sf_mem 701 (by decide +kernel) rfl
theorem stat_yJ0_checkIndex_df160 : Cond.static yJ0_checkIndex_df160 ∈ sf_gtbl := sf_mem 702 (by decide +kernel) rfl
set_option maxRecDepth 100000 in
theorem code_yJ0_checkIndex_df160 : Cond.code yJ0_checkIndex_df160 cJ0_checkIndex_df160 2 none ∈ sf_gtbl := sf_mem 703 rfl rfl
theorem ml_RJ0_1059 : Cond.methodLink RJ0 1059 yJ3_checkIndex_8e157 ∈ sf_gtbl := sf_mem 706 (by decide +kernel) rfl
theorem stat_yJ3_checkIndex_8e157 : Cond.static yJ3_checkIndex_8e157 ∈ sf_gtbl := sf_mem 707 (by decide +kernel) rfl
set_option maxRecDepth 100000 in
theorem code_yJ3_checkIndex_8e157 : Cond.code yJ3_checkIndex_8e157 cJ3_checkIndex_8e157 3 (some .int) ∈ sf_gtbl := sf_mem 708 rfl rfl
theorem ml_RJ0_498 : Cond.methodLink RJ0 498 yJ2_charAt_3b067 ∈ sf_gtbl := sf_mem 709 (by decide +kernel) rfl
theorem stat_yJ2_charAt_3b067 : Cond.static yJ2_charAt_3b067 ∈ sf_gtbl := sf_mem 710 (by decide +kernel) rfl
set_option maxRecDepth 100000 in
theorem code_yJ2_charAt_3b067 : Cond.code yJ2_charAt_3b067 cJ2_charAt_3b067 2 (some .char) ∈ sf_gtbl := sf_mem 711 rfl rfl
theorem ml_RJ2_67 : Cond.methodLink RJ2 67 yJ2_checkIndex_2214a ∈ sf_gtbl := sf_mem 712 (by decide +kernel) rfl
theorem stat_yJ2_checkIndex_2214a : Cond.static yJ2_checkIndex_2214a ∈ sf_gtbl := sf_mem 713 (by decide +kernel) rfl
set_option maxRecDepth 100000 in
theorem code_yJ2_checkIndex_2214a : Cond.code yJ2_checkIndex_2214a cJ2_checkIndex_2214a 2 none ∈ sf_gtbl := sf_mem 714 rfl rfl
theorem ml_RJ2_48 : Cond.methodLink RJ2 48 yJ2_length_9d52b ∈ sf_gtbl := sf_mem 715 (by decide +kernel) rfl
theorem stat_yJ2_length_9d52b : Cond.static yJ2_length_9d52b ∈ sf_gtbl := sf_mem 716 (by decide +kernel) rfl
set_option maxRecDepth 100000 in
theorem code_yJ2_length_9d52b : Cond.code yJ2_length_9d52b cJ2_length_9d52b 1 (some .int) ∈ sf_gtbl := sf_mem 717 rfl rfl
theorem ml_RJ2_414 : Cond.methodLink RJ2 414 yJ0_checkIndex_df160 ∈ sf_gtbl := sf_mem 718 (by decide +kernel) rfl
theorem ml_RJ2_71 : Cond.methodLink RJ2 71 yJ2_getChar_3b067 ∈ sf_gtbl := sf_mem 719 (by decide +kernel) rfl
theorem stat_yJ2_getChar_3b067 : Cond.static yJ2_getChar_3b067 ∈ sf_gtbl := sf_mem 720 (by decide +kernel) rfl
set_option maxRecDepth 100000 in
theorem code_yJ2_getChar_3b067 : Cond.code yJ2_getChar_3b067 cJ2_getChar_3b067 2 (some .char) ∈ sf_gtbl := sf_mem 721 rfl rfl
theorem ml_RX8_49 : Cond.methodLink RX8 49 yX8_fineItem ∈ sf_gtbl := sf_mem 728 (by decide +kernel) rfl
theorem inst_yX8_fineItem : Cond.instanceMethod yX8_fineItem ∈ sf_gtbl := sf_mem 730 (by decide +kernel) rfl
set_option maxRecDepth 100000 in
theorem code_yX8_fineItem : Cond.code yX8_fineItem cX8_fineItem 6 (some .boolean) ∈ sf_gtbl := sf_mem 731 rfl rfl
theorem ml_RX8_78 : Cond.methodLink RX8 78 yX4_isFull ∈ sf_gtbl := sf_mem 732 (by decide +kernel) rfl
theorem ml_RX8_63 : Cond.methodLink RX8 63 yX8_take ∈ sf_gtbl := sf_mem 733 (by decide +kernel) rfl
theorem inst_yX8_take : Cond.instanceMethod yX8_take ∈ sf_gtbl := sf_mem 735 (by decide +kernel) rfl
set_option maxRecDepth 100000 in
theorem code_yX8_take : Cond.code yX8_take cX8_take 3 (some .boolean) ∈ sf_gtbl := sf_mem 736 rfl rfl
theorem mn_RX8_99 : Cond.methodLinkNest RX8 99 yX9_isWithin "StairFines" ∈ sf_nwL := sf_memN 681 (by decide +kernel) rfl
theorem ml_RX8_55 : Cond.methodLink RX8 55 yX8_takeWord ∈ sf_gtbl := sf_mem 739 (by decide +kernel) rfl
theorem inst_yX8_takeWord : Cond.instanceMethod yX8_takeWord ∈ sf_gtbl := sf_mem 741 (by decide +kernel) rfl
set_option maxRecDepth 100000 in
theorem code_yX8_takeWord : Cond.code yX8_takeWord cX8_takeWord 2 (some .boolean) ∈ sf_gtbl := sf_mem 742 rfl rfl
theorem ml_RX8_86 : Cond.methodLink RX8 86 yX4_addFine ∈ sf_gtbl := sf_mem 744 (by decide +kernel) rfl
theorem ml_RX8_58 : Cond.methodLink RX8 58 yX8_rockItem ∈ sf_gtbl := sf_mem 746 (by decide +kernel) rfl
theorem inst_yX8_rockItem : Cond.instanceMethod yX8_rockItem ∈ sf_gtbl := sf_mem 748 (by decide +kernel) rfl
set_option maxRecDepth 100000 in
theorem code_yX8_rockItem : Cond.code yX8_rockItem cX8_rockItem 5 (some .boolean) ∈ sf_gtbl := sf_mem 749 rfl rfl
theorem arc_byte : Cond.arrayClass .byte ∈ sf_gtbl := sf_mem 754 (by decide +kernel) rfl
theorem ml_RL_148 : Cond.methodLink RL 148 yX9_sheet ∈ sf_gtbl := sf_mem 755 (by decide +kernel) rfl
theorem inst_yX9_sheet : Cond.instanceMethod yX9_sheet ∈ sf_gtbl := sf_mem 756 (by decide +kernel) rfl
theorem sel_RX9_yX9_sheet : Cond.selects RX9 yX9_sheet yX9_sheet ∈ sf_gtbl := sf_mem 757 (by decide +kernel) rfl
set_option maxRecDepth 100000 in
theorem code_yX9_sheet : Cond.code yX9_sheet cX9_sheet 4 (some .int) ∈ sf_gtbl := sf_mem 758 rfl rfl
theorem ml_RX9_218 : Cond.methodLink RX9 218 yX9_isSheet ∈ sf_gtbl := sf_mem 759 (by decide +kernel) rfl
theorem stat_yX9_isSheet : Cond.static yX9_isSheet ∈ sf_gtbl := sf_mem 760 (by decide +kernel) rfl
set_option maxRecDepth 100000 in
theorem code_yX9_isSheet : Cond.code yX9_isSheet cX9_isSheet 1 (some .boolean) ∈ sf_gtbl := sf_mem 761 rfl rfl
theorem ml_RX9_221 : Cond.methodLink RX9 221 yX7_layOut ∈ sf_gtbl := sf_mem 762 (by decide +kernel) rfl
theorem inst_yX7_layOut : Cond.instanceMethod yX7_layOut ∈ sf_gtbl := sf_mem 763 (by decide +kernel) rfl
theorem sel_RX7_yX7_layOut : Cond.selects RX7 yX7_layOut yX7_layOut ∈ sf_gtbl := sf_mem 764 (by decide +kernel) rfl
set_option maxRecDepth 100000 in
theorem code_yX7_layOut : Cond.code yX7_layOut cX7_layOut 3 none ∈ sf_gtbl := sf_mem 765 rfl rfl
theorem ml_RX7_22 : Cond.methodLink RX7 22 yJ7_fill_d0a16 ∈ sf_gtbl := sf_mem 766 (by decide +kernel) rfl
theorem stat_yJ7_fill_d0a16 : Cond.static yJ7_fill_d0a16 ∈ sf_gtbl := sf_mem 767 (by decide +kernel) rfl
set_option maxRecDepth 100000 in
theorem code_yJ7_fill_d0a16 : Cond.code yJ7_fill_d0a16 cJ7_fill_d0a16 5 none ∈ sf_gtbl := sf_mem 768 rfl rfl
theorem ml_RL_154 : Cond.methodLink RL 154 yX9_write ∈ sf_gtbl := sf_mem 769 (by decide +kernel) rfl
theorem inst_yX9_write : Cond.instanceMethod yX9_write ∈ sf_gtbl := sf_mem 770 (by decide +kernel) rfl
theorem sel_RX9_yX9_write : Cond.selects RX9 yX9_write yX9_write ∈ sf_gtbl := sf_mem 771 (by decide +kernel) rfl
set_option maxRecDepth 100000 in
theorem code_yX9_write : Cond.code yX9_write cX9_write 8 (some .long) ∈ sf_gtbl := sf_mem 772 rfl rfl
theorem ml_RX9_225 : Cond.methodLink RX9 225 yX7_isMissing ∈ sf_gtbl := sf_mem 773 (by decide +kernel) rfl
theorem inst_yX7_isMissing : Cond.instanceMethod yX7_isMissing ∈ sf_gtbl := sf_mem 774 (by decide +kernel) rfl
theorem sel_RX7_yX7_isMissing : Cond.selects RX7 yX7_isMissing yX7_isMissing ∈ sf_gtbl := sf_mem 775 (by decide +kernel) rfl
set_option maxRecDepth 100000 in
theorem code_yX7_isMissing : Cond.code yX7_isMissing cX7_isMissing 1 (some .boolean) ∈ sf_gtbl := sf_mem 776 rfl rfl
theorem ml_RX9_228 : Cond.methodLink RX9 228 yX7_holds ∈ sf_gtbl := sf_mem 777 (by decide +kernel) rfl
theorem inst_yX7_holds : Cond.instanceMethod yX7_holds ∈ sf_gtbl := sf_mem 778 (by decide +kernel) rfl
theorem sel_RX7_yX7_holds : Cond.selects RX7 yX7_holds yX7_holds ∈ sf_gtbl := sf_mem 779 (by decide +kernel) rfl
set_option maxRecDepth 100000 in
theorem code_yX7_holds : Cond.code yX7_holds cX7_holds 3 (some .boolean) ∈ sf_gtbl := sf_mem 780 rfl rfl
theorem ml_RX9_235 : Cond.methodLink RX9 235 yX7_put ∈ sf_gtbl := sf_mem 781 (by decide +kernel) rfl
theorem inst_yX7_put : Cond.instanceMethod yX7_put ∈ sf_gtbl := sf_mem 782 (by decide +kernel) rfl
theorem sel_RX7_yX7_put : Cond.selects RX7 yX7_put yX7_put ∈ sf_gtbl := sf_mem 783 (by decide +kernel) rfl
set_option maxRecDepth 100000 in
theorem code_yX7_put : Cond.code yX7_put cX7_put 4 none ∈ sf_gtbl := sf_mem 784 rfl rfl
theorem ml_RX7_28 : Cond.methodLink RX7 28 yX7_holds ∈ sf_gtbl := sf_mem 785 (by decide +kernel) rfl
theorem ml_RX7_32 : Cond.methodLink RX7 32 yX7_lowest ∈ sf_gtbl := sf_mem 786 (by decide +kernel) rfl
theorem inst_yX7_lowest : Cond.instanceMethod yX7_lowest ∈ sf_gtbl := sf_mem 788 (by decide +kernel) rfl
set_option maxRecDepth 100000 in
theorem code_yX7_lowest : Cond.code yX7_lowest cX7_lowest 3 (some .long) ∈ sf_gtbl := sf_mem 789 rfl rfl
theorem ml_RL_159 : Cond.methodLink RL 159 yX9_copy ∈ sf_gtbl := sf_mem 790 (by decide +kernel) rfl
theorem inst_yX9_copy : Cond.instanceMethod yX9_copy ∈ sf_gtbl := sf_mem 791 (by decide +kernel) rfl
theorem sel_RX9_yX9_copy : Cond.selects RX9 yX9_copy yX9_copy ∈ sf_gtbl := sf_mem 792 (by decide +kernel) rfl
set_option maxRecDepth 100000 in
theorem code_yX9_copy : Cond.code yX9_copy cX9_copy 8 (some .int) ∈ sf_gtbl := sf_mem 793 rfl rfl
theorem ml_RX9_242 : Cond.methodLink RX9 242 arraycopyName ∈ sf_gtbl := sf_mem 794 (by decide +kernel) rfl
theorem ml_RL_164 : Cond.methodLink RL 164 yX9_lays ∈ sf_gtbl := sf_mem 795 (by decide +kernel) rfl
theorem inst_yX9_lays : Cond.instanceMethod yX9_lays ∈ sf_gtbl := sf_mem 796 (by decide +kernel) rfl
theorem sel_RX9_yX9_lays : Cond.selects RX9 yX9_lays yX9_lays ∈ sf_gtbl := sf_mem 797 (by decide +kernel) rfl
set_option maxRecDepth 100000 in
theorem code_yX9_lays : Cond.code yX9_lays cX9_lays 7 (some .int) ∈ sf_gtbl := sf_mem 798 rfl rfl
theorem cl_RX9_248 : Cond.constantLong RX9 248 (9) ∈ sf_gtbl := sf_mem 799 (by decide +kernel) rfl
theorem ml_RL_168 : Cond.methodLink RL 168 yX9_stair ∈ sf_gtbl := sf_mem 800 (by decide +kernel) rfl
theorem inst_yX9_stair : Cond.instanceMethod yX9_stair ∈ sf_gtbl := sf_mem 801 (by decide +kernel) rfl
theorem sel_RX9_yX9_stair : Cond.selects RX9 yX9_stair yX9_stair ∈ sf_gtbl := sf_mem 802 (by decide +kernel) rfl
set_option maxRecDepth 100000 in
theorem code_yX9_stair : Cond.code yX9_stair cX9_stair 7 (some .int) ∈ sf_gtbl := sf_mem 803 rfl rfl
theorem ml_RL_172 : Cond.methodLink RL 172 yX9_read ∈ sf_gtbl := sf_mem 804 (by decide +kernel) rfl
theorem inst_yX9_read : Cond.instanceMethod yX9_read ∈ sf_gtbl := sf_mem 805 (by decide +kernel) rfl
theorem sel_RX9_yX9_read : Cond.selects RX9 yX9_read yX9_read ∈ sf_gtbl := sf_mem 806 (by decide +kernel) rfl
set_option maxRecDepth 100000 in
theorem code_yX9_read : Cond.code yX9_read cX9_read 4 (some .int) ∈ sf_gtbl := sf_mem 807 rfl rfl
theorem ml_RL_176 : Cond.methodLink RL 176 yX9_image ∈ sf_gtbl := sf_mem 808 (by decide +kernel) rfl
theorem inst_yX9_image : Cond.instanceMethod yX9_image ∈ sf_gtbl := sf_mem 809 (by decide +kernel) rfl
theorem sel_RX9_yX9_image : Cond.selects RX9 yX9_image yX9_image ∈ sf_gtbl := sf_mem 810 (by decide +kernel) rfl
set_option maxRecDepth 100000 in
theorem code_yX9_image : Cond.code yX9_image cX9_image 1 (some .int) ∈ sf_gtbl := sf_mem 811 rfl rfl
theorem ml_RL_180 : Cond.methodLink RL 180 yX9_undo ∈ sf_gtbl := sf_mem 812 (by decide +kernel) rfl
theorem inst_yX9_undo : Cond.instanceMethod yX9_undo ∈ sf_gtbl := sf_mem 813 (by decide +kernel) rfl
theorem sel_RX9_yX9_undo : Cond.selects RX9 yX9_undo yX9_undo ∈ sf_gtbl := sf_mem 814 (by decide +kernel) rfl
set_option maxRecDepth 100000 in
theorem code_yX9_undo : Cond.code yX9_undo cX9_undo 1 (some .int) ∈ sf_gtbl := sf_mem 815 rfl rfl
theorem ml_RL_184 : Cond.methodLink RL 184 yX9_tear ∈ sf_gtbl := sf_mem 816 (by decide +kernel) rfl
theorem inst_yX9_tear : Cond.instanceMethod yX9_tear ∈ sf_gtbl := sf_mem 817 (by decide +kernel) rfl
theorem sel_RX9_yX9_tear : Cond.selects RX9 yX9_tear yX9_tear ∈ sf_gtbl := sf_mem 818 (by decide +kernel) rfl
set_option maxRecDepth 100000 in
theorem code_yX9_tear : Cond.code yX9_tear cX9_tear 2 (some .int) ∈ sf_gtbl := sf_mem 819 rfl rfl
theorem ml_RL_188 : Cond.methodLink RL 188 yX9_count ∈ sf_gtbl := sf_mem 820 (by decide +kernel) rfl
theorem inst_yX9_count : Cond.instanceMethod yX9_count ∈ sf_gtbl := sf_mem 821 (by decide +kernel) rfl
theorem sel_RX9_yX9_count : Cond.selects RX9 yX9_count yX9_count ∈ sf_gtbl := sf_mem 822 (by decide +kernel) rfl
set_option maxRecDepth 100000 in
theorem code_yX9_count : Cond.code yX9_count cX9_count 2 (some .int) ∈ sf_gtbl := sf_mem 823 rfl rfl
theorem ml_RX9_254 : Cond.methodLink RX9 254 yX4_highOfAll ∈ sf_gtbl := sf_mem 824 (by decide +kernel) rfl
theorem inst_yX4_highOfAll : Cond.instanceMethod yX4_highOfAll ∈ sf_gtbl := sf_mem 825 (by decide +kernel) rfl
theorem sel_RX4_yX4_highOfAll : Cond.selects RX4 yX4_highOfAll yX4_highOfAll ∈ sf_gtbl := sf_mem 826 (by decide +kernel) rfl
set_option maxRecDepth 100000 in
theorem code_yX4_highOfAll : Cond.code yX4_highOfAll cX4_highOfAll 3 (some .int) ∈ sf_gtbl := sf_mem 827 rfl rfl
theorem ml_RL_192 : Cond.methodLink RL 192 yX9_status ∈ sf_gtbl := sf_mem 828 (by decide +kernel) rfl
theorem inst_yX9_status : Cond.instanceMethod yX9_status ∈ sf_gtbl := sf_mem 829 (by decide +kernel) rfl
theorem sel_RX9_yX9_status : Cond.selects RX9 yX9_status yX9_status ∈ sf_gtbl := sf_mem 830 (by decide +kernel) rfl
set_option maxRecDepth 100000 in
theorem code_yX9_status : Cond.code yX9_status cX9_status 4 (some .int) ∈ sf_gtbl := sf_mem 831 rfl rfl
theorem cln_RL_10 : Cond.classLink RL 10 RX10 ∈ sf_gtbl := sf_mem 832 (by decide +kernel) rfl
theorem isn_RX10 : Cond.instantiable RX10 18 ∈ sf_gtbl := sf_mem 833 (by decide +kernel) rfl
theorem ml_RL_12 : Cond.methodLink RL 12 yX10_init ∈ sf_gtbl := sf_mem 834 (by decide +kernel) rfl
theorem inst_yX10_init : Cond.instanceMethod yX10_init ∈ sf_gtbl := sf_mem 835 (by decide +kernel) rfl
set_option maxRecDepth 100000 in
theorem code_yX10_init : Cond.code yX10_init cX10_init 2 none ∈ sf_gtbl := sf_mem 836 rfl rfl
theorem ml_RX10_1 : Cond.methodLink RX10 1 objectInit ∈ sf_gtbl := sf_mem 837 (by decide +kernel) rfl
theorem fl_RX10_7 : Cond.fieldLink RX10 7 (TX10 0).1 (TX10 0).2.1 (TX10 0).2.2.1 ∈ sf_gtbl := sf_mem 838 (by decide +kernel) rfl
theorem fl_RX10_39 : Cond.fieldLink RX10 39 (TX10 1).1 (TX10 1).2.1 (TX10 1).2.2.1 ∈ sf_gtbl := sf_mem 839 (by decide +kernel) rfl
theorem fl_RX10_13 : Cond.fieldLink RX10 13 (TX10 2).1 (TX10 2).2.1 (TX10 2).2.2.1 ∈ sf_gtbl := sf_mem 840 (by decide +kernel) rfl
theorem fl_RX10_16 : Cond.fieldLink RX10 16 (TX10 3).1 (TX10 3).2.1 (TX10 3).2.2.1 ∈ sf_gtbl := sf_mem 841 (by decide +kernel) rfl
theorem fl_RX10_154 : Cond.fieldLink RX10 154 (TX10 4).1 (TX10 4).2.1 (TX10 4).2.2.1 ∈ sf_gtbl := sf_mem 842 (by decide +kernel) rfl
theorem fl_RX10_172 : Cond.fieldLink RX10 172 (TX10 5).1 (TX10 5).2.1 (TX10 5).2.2.1 ∈ sf_gtbl := sf_mem 843 (by decide +kernel) rfl
theorem fl_RX10_160 : Cond.fieldLink RX10 160 (TX10 6).1 (TX10 6).2.1 (TX10 6).2.2.1 ∈ sf_gtbl := sf_mem 844 (by decide +kernel) rfl
theorem fl_RX10_157 : Cond.fieldLink RX10 157 (TX10 7).1 (TX10 7).2.1 (TX10 7).2.2.1 ∈ sf_gtbl := sf_mem 845 (by decide +kernel) rfl
theorem fl_RX10_175 : Cond.fieldLink RX10 175 (TX10 8).1 (TX10 8).2.1 (TX10 8).2.2.1 ∈ sf_gtbl := sf_mem 846 (by decide +kernel) rfl
theorem fl_RX10_179 : Cond.fieldLink RX10 179 (TX10 9).1 (TX10 9).2.1 (TX10 9).2.2.1 ∈ sf_gtbl := sf_mem 847 (by decide +kernel) rfl
theorem fl_RX10_204 : Cond.fieldLink RX10 204 (TX10 10).1 (TX10 10).2.1 (TX10 10).2.2.1 ∈ sf_gtbl := sf_mem 848 (by decide +kernel) rfl
theorem fl_RX10_19 : Cond.fieldLink RX10 19 (TX10 11).1 (TX10 11).2.1 (TX10 11).2.2.1 ∈ sf_gtbl := sf_mem 849 (by decide +kernel) rfl
theorem fl_RX10_22 : Cond.fieldLink RX10 22 (TX10 12).1 (TX10 12).2.1 (TX10 12).2.2.1 ∈ sf_gtbl := sf_mem 850 (by decide +kernel) rfl
theorem fl_RX10_25 : Cond.fieldLink RX10 25 (TX10 13).1 (TX10 13).2.1 (TX10 13).2.2.1 ∈ sf_gtbl := sf_mem 851 (by decide +kernel) rfl
theorem fl_RX10_29 : Cond.fieldLink RX10 29 (TX10 14).1 (TX10 14).2.1 (TX10 14).2.2.1 ∈ sf_gtbl := sf_mem 852 (by decide +kernel) rfl
theorem fl_RX10_32 : Cond.fieldLink RX10 32 (TX10 15).1 (TX10 15).2.1 (TX10 15).2.2.1 ∈ sf_gtbl := sf_mem 853 (by decide +kernel) rfl
theorem fl_RX10_35 : Cond.fieldLink RX10 35 (TX10 16).1 (TX10 16).2.1 (TX10 16).2.2.1 ∈ sf_gtbl := sf_mem 854 (by decide +kernel) rfl
theorem fl_RX10_269 : Cond.fieldLink RX10 269 (TX10 17).1 (TX10 17).2.1 (TX10 17).2.2.1 ∈ sf_gtbl := sf_mem 855 (by decide +kernel) rfl
theorem ml_RL_17 : Cond.methodLink RL 17 yX10_rock ∈ sf_gtbl := sf_mem 893 (by decide +kernel) rfl
theorem inst_yX10_rock : Cond.instanceMethod yX10_rock ∈ sf_gtbl := sf_mem 894 (by decide +kernel) rfl
theorem sel_RX10_yX10_rock : Cond.selects RX10 yX10_rock yX10_rock ∈ sf_gtbl := sf_mem 895 (by decide +kernel) rfl
set_option maxRecDepth 100000 in
theorem code_yX10_rock : Cond.code yX10_rock cX10_rock 4 (some .int) ∈ sf_gtbl := sf_mem 896 rfl rfl
theorem ml_RX10_59 : Cond.methodLink RX10 59 yX10_isPlace ∈ sf_gtbl := sf_mem 897 (by decide +kernel) rfl
theorem stat_yX10_isPlace : Cond.static yX10_isPlace ∈ sf_gtbl := sf_mem 898 (by decide +kernel) rfl
set_option maxRecDepth 100000 in
theorem code_yX10_isPlace : Cond.code yX10_isPlace cX10_isPlace 1 (some .boolean) ∈ sf_gtbl := sf_mem 899 rfl rfl
theorem ml_RX10_47 : Cond.methodLink RX10 47 yX10_in ∈ sf_gtbl := sf_mem 900 (by decide +kernel) rfl
theorem stat_yX10_in : Cond.static yX10_in ∈ sf_gtbl := sf_mem 901 (by decide +kernel) rfl
set_option maxRecDepth 100000 in
theorem code_yX10_in : Cond.code yX10_in cX10_in 3 (some .boolean) ∈ sf_gtbl := sf_mem 902 rfl rfl
theorem ct_RX10_38 : Cond.constant RX10 38 (-1000000001) ∈ sf_gtbl := sf_mem 903 (by decide +kernel) rfl
theorem ml_RX10_63 : Cond.methodLink RX10 63 yX10_finds ∈ sf_gtbl := sf_mem 904 (by decide +kernel) rfl
theorem inst_yX10_finds : Cond.instanceMethod yX10_finds ∈ sf_gtbl := sf_mem 906 (by decide +kernel) rfl
set_option maxRecDepth 100000 in
theorem code_yX10_finds : Cond.code yX10_finds cX10_finds 2 (some .int) ∈ sf_gtbl := sf_mem 907 rfl rfl
theorem ml_RL_21 : Cond.methodLink RL 21 yX10_let ∈ sf_gtbl := sf_mem 908 (by decide +kernel) rfl
theorem inst_yX10_let : Cond.instanceMethod yX10_let ∈ sf_gtbl := sf_mem 909 (by decide +kernel) rfl
theorem sel_RX10_yX10_let : Cond.selects RX10 yX10_let yX10_let ∈ sf_gtbl := sf_mem 910 (by decide +kernel) rfl
set_option maxRecDepth 100000 in
theorem code_yX10_let : Cond.code yX10_let cX10_let 4 (some .int) ∈ sf_gtbl := sf_mem 911 rfl rfl
theorem ml_RL_26 : Cond.methodLink RL 26 yX10_fine ∈ sf_gtbl := sf_mem 912 (by decide +kernel) rfl
theorem inst_yX10_fine : Cond.instanceMethod yX10_fine ∈ sf_gtbl := sf_mem 913 (by decide +kernel) rfl
theorem sel_RX10_yX10_fine : Cond.selects RX10 yX10_fine yX10_fine ∈ sf_gtbl := sf_mem 914 (by decide +kernel) rfl
set_option maxRecDepth 100000 in
theorem code_yX10_fine : Cond.code yX10_fine cX10_fine 4 (some .int) ∈ sf_gtbl := sf_mem 915 rfl rfl
theorem ml_RX10_70 : Cond.methodLink RX10 70 yX10_isKind ∈ sf_gtbl := sf_mem 916 (by decide +kernel) rfl
theorem stat_yX10_isKind : Cond.static yX10_isKind ∈ sf_gtbl := sf_mem 917 (by decide +kernel) rfl
set_option maxRecDepth 100000 in
theorem code_yX10_isKind : Cond.code yX10_isKind cX10_isKind 1 (some .boolean) ∈ sf_gtbl := sf_mem 918 rfl rfl
theorem ct_RX10_73 : Cond.constant RX10 73 (-1000000002) ∈ sf_gtbl := sf_mem 919 (by decide +kernel) rfl
theorem ml_RX10_74 : Cond.methodLink RX10 74 yX10_addFine ∈ sf_gtbl := sf_mem 920 (by decide +kernel) rfl
theorem inst_yX10_addFine : Cond.instanceMethod yX10_addFine ∈ sf_gtbl := sf_mem 922 (by decide +kernel) rfl
set_option maxRecDepth 100000 in
theorem code_yX10_addFine : Cond.code yX10_addFine cX10_addFine 6 none ∈ sf_gtbl := sf_mem 923 rfl rfl
theorem ml_RX10_66 : Cond.methodLink RX10 66 yX10_sets ∈ sf_gtbl := sf_mem 924 (by decide +kernel) rfl
theorem inst_yX10_sets : Cond.instanceMethod yX10_sets ∈ sf_gtbl := sf_mem 926 (by decide +kernel) rfl
set_option maxRecDepth 100000 in
theorem code_yX10_sets : Cond.code yX10_sets cX10_sets 4 none ∈ sf_gtbl := sf_mem 927 rfl rfl
theorem ml_RL_30 : Cond.methodLink RL 30 yX10_of ∈ sf_gtbl := sf_mem 928 (by decide +kernel) rfl
theorem inst_yX10_of : Cond.instanceMethod yX10_of ∈ sf_gtbl := sf_mem 929 (by decide +kernel) rfl
theorem sel_RX10_yX10_of : Cond.selects RX10 yX10_of yX10_of ∈ sf_gtbl := sf_mem 930 (by decide +kernel) rfl
set_option maxRecDepth 100000 in
theorem code_yX10_of : Cond.code yX10_of cX10_of 3 (some .int) ∈ sf_gtbl := sf_mem 931 rfl rfl
theorem ml_RX10_81 : Cond.methodLink RX10 81 yX10_isFine ∈ sf_gtbl := sf_mem 932 (by decide +kernel) rfl
theorem inst_yX10_isFine : Cond.instanceMethod yX10_isFine ∈ sf_gtbl := sf_mem 934 (by decide +kernel) rfl
set_option maxRecDepth 100000 in
theorem code_yX10_isFine : Cond.code yX10_isFine cX10_isFine 2 (some .boolean) ∈ sf_gtbl := sf_mem 935 rfl rfl
theorem ml_RX10_43 : Cond.methodLink RX10 43 yX10_its ∈ sf_gtbl := sf_mem 936 (by decide +kernel) rfl
theorem inst_yX10_its : Cond.instanceMethod yX10_its ∈ sf_gtbl := sf_mem 938 (by decide +kernel) rfl
set_option maxRecDepth 100000 in
theorem code_yX10_its : Cond.code yX10_its cX10_its 2 (some .int) ∈ sf_gtbl := sf_mem 939 rfl rfl
theorem ml_RX10_84 : Cond.methodLink RX10 84 yX10_works ∈ sf_gtbl := sf_mem 940 (by decide +kernel) rfl
theorem inst_yX10_works : Cond.instanceMethod yX10_works ∈ sf_gtbl := sf_mem 942 (by decide +kernel) rfl
set_option maxRecDepth 100000 in
theorem code_yX10_works : Cond.code yX10_works cX10_works 3 (some .int) ∈ sf_gtbl := sf_mem 943 rfl rfl
theorem ml_RX10_51 : Cond.methodLink RX10 51 yX10_fineOf ∈ sf_gtbl := sf_mem 944 (by decide +kernel) rfl
theorem inst_yX10_fineOf : Cond.instanceMethod yX10_fineOf ∈ sf_gtbl := sf_mem 946 (by decide +kernel) rfl
set_option maxRecDepth 100000 in
theorem code_yX10_fineOf : Cond.code yX10_fineOf cX10_fineOf 3 (some .int) ∈ sf_gtbl := sf_mem 947 rfl rfl
theorem ml_RX10_55 : Cond.methodLink RX10 55 yX10_wholes ∈ sf_gtbl := sf_mem 948 (by decide +kernel) rfl
theorem inst_yX10_wholes : Cond.instanceMethod yX10_wholes ∈ sf_gtbl := sf_mem 950 (by decide +kernel) rfl
set_option maxRecDepth 100000 in
theorem code_yX10_wholes : Cond.code yX10_wholes cX10_wholes 3 (some .int) ∈ sf_gtbl := sf_mem 951 rfl rfl
theorem ml_RX10_87 : Cond.methodLink RX10 87 yX10_highAt ∈ sf_gtbl := sf_mem 952 (by decide +kernel) rfl
theorem inst_yX10_highAt : Cond.instanceMethod yX10_highAt ∈ sf_gtbl := sf_mem 954 (by decide +kernel) rfl
set_option maxRecDepth 100000 in
theorem code_yX10_highAt : Cond.code yX10_highAt cX10_highAt 4 (some .int) ∈ sf_gtbl := sf_mem 955 rfl rfl
theorem ml_RX10_90 : Cond.methodLink RX10 90 yX10_cutBy ∈ sf_gtbl := sf_mem 956 (by decide +kernel) rfl
theorem inst_yX10_cutBy : Cond.instanceMethod yX10_cutBy ∈ sf_gtbl := sf_mem 958 (by decide +kernel) rfl
set_option maxRecDepth 100000 in
theorem code_yX10_cutBy : Cond.code yX10_cutBy cX10_cutBy 4 (some .int) ∈ sf_gtbl := sf_mem 959 rfl rfl
theorem ml_RX10_78 : Cond.methodLink RX10 78 yX10_isWhole ∈ sf_gtbl := sf_mem 960 (by decide +kernel) rfl
theorem inst_yX10_isWhole : Cond.instanceMethod yX10_isWhole ∈ sf_gtbl := sf_mem 962 (by decide +kernel) rfl
set_option maxRecDepth 100000 in
theorem code_yX10_isWhole : Cond.code yX10_isWhole cX10_isWhole 2 (some .boolean) ∈ sf_gtbl := sf_mem 963 rfl rfl
theorem ml_RL_34 : Cond.methodLink RL 34 yX10_set ∈ sf_gtbl := sf_mem 964 (by decide +kernel) rfl
theorem inst_yX10_set : Cond.instanceMethod yX10_set ∈ sf_gtbl := sf_mem 965 (by decide +kernel) rfl
theorem sel_RX10_yX10_set : Cond.selects RX10 yX10_set yX10_set ∈ sf_gtbl := sf_mem 966 (by decide +kernel) rfl
set_option maxRecDepth 100000 in
theorem code_yX10_set : Cond.code yX10_set cX10_set 5 (some .int) ∈ sf_gtbl := sf_mem 967 rfl rfl
theorem ml_RX10_93 : Cond.methodLink RX10 93 yX10_isPart ∈ sf_gtbl := sf_mem 968 (by decide +kernel) rfl
theorem stat_yX10_isPart : Cond.static yX10_isPart ∈ sf_gtbl := sf_mem 969 (by decide +kernel) rfl
set_option maxRecDepth 100000 in
theorem code_yX10_isPart : Cond.code yX10_isPart cX10_isPart 2 (some .boolean) ∈ sf_gtbl := sf_mem 970 rfl rfl
theorem ml_RL_38 : Cond.methodLink RL 38 yX10_turn ∈ sf_gtbl := sf_mem 971 (by decide +kernel) rfl
theorem inst_yX10_turn : Cond.instanceMethod yX10_turn ∈ sf_gtbl := sf_mem 972 (by decide +kernel) rfl
theorem sel_RX10_yX10_turn : Cond.selects RX10 yX10_turn yX10_turn ∈ sf_gtbl := sf_mem 973 (by decide +kernel) rfl
set_option maxRecDepth 100000 in
theorem code_yX10_turn : Cond.code yX10_turn cX10_turn 4 (some .int) ∈ sf_gtbl := sf_mem 974 rfl rfl
theorem ml_RL_42 : Cond.methodLink RL 42 yX10_as ∈ sf_gtbl := sf_mem 975 (by decide +kernel) rfl
theorem inst_yX10_as : Cond.instanceMethod yX10_as ∈ sf_gtbl := sf_mem 976 (by decide +kernel) rfl
theorem sel_RX10_yX10_as : Cond.selects RX10 yX10_as yX10_as ∈ sf_gtbl := sf_mem 977 (by decide +kernel) rfl
set_option maxRecDepth 100000 in
theorem code_yX10_as : Cond.code yX10_as cX10_as 3 (some .int) ∈ sf_gtbl := sf_mem 978 rfl rfl
theorem ml_RX10_97 : Cond.methodLink RX10 97 yX10_isUnder ∈ sf_gtbl := sf_mem 979 (by decide +kernel) rfl
theorem stat_yX10_isUnder : Cond.static yX10_isUnder ∈ sf_gtbl := sf_mem 980 (by decide +kernel) rfl
set_option maxRecDepth 100000 in
theorem code_yX10_isUnder : Cond.code yX10_isUnder cX10_isUnder 2 (some .boolean) ∈ sf_gtbl := sf_mem 981 rfl rfl
theorem ct_RX10_100 : Cond.constant RX10 100 (-1000000003) ∈ sf_gtbl := sf_mem 982 (by decide +kernel) rfl
theorem ml_RL_46 : Cond.methodLink RL 46 yX10_placeOf ∈ sf_gtbl := sf_mem 983 (by decide +kernel) rfl
theorem inst_yX10_placeOf : Cond.instanceMethod yX10_placeOf ∈ sf_gtbl := sf_mem 984 (by decide +kernel) rfl
theorem sel_RX10_yX10_placeOf : Cond.selects RX10 yX10_placeOf yX10_placeOf ∈ sf_gtbl := sf_mem 985 (by decide +kernel) rfl
set_option maxRecDepth 100000 in
theorem code_yX10_placeOf : Cond.code yX10_placeOf cX10_placeOf 3 (some .int) ∈ sf_gtbl := sf_mem 986 rfl rfl
theorem ct_RX10_101 : Cond.constant RX10 101 (-1000000005) ∈ sf_gtbl := sf_mem 987 (by decide +kernel) rfl
theorem ml_RL_51 : Cond.methodLink RL 51 yX10_whole ∈ sf_gtbl := sf_mem 988 (by decide +kernel) rfl
theorem inst_yX10_whole : Cond.instanceMethod yX10_whole ∈ sf_gtbl := sf_mem 989 (by decide +kernel) rfl
theorem sel_RX10_yX10_whole : Cond.selects RX10 yX10_whole yX10_whole ∈ sf_gtbl := sf_mem 990 (by decide +kernel) rfl
set_option maxRecDepth 100000 in
theorem code_yX10_whole : Cond.code yX10_whole cX10_whole 1 (some .long) ∈ sf_gtbl := sf_mem 991 rfl rfl
theorem ml_RX10_102 : Cond.methodLink RX10 102 yX10_wholeSet ∈ sf_gtbl := sf_mem 992 (by decide +kernel) rfl
theorem inst_yX10_wholeSet : Cond.instanceMethod yX10_wholeSet ∈ sf_gtbl := sf_mem 994 (by decide +kernel) rfl
set_option maxRecDepth 100000 in
theorem code_yX10_wholeSet : Cond.code yX10_wholeSet cX10_wholeSet 4 (some .long) ∈ sf_gtbl := sf_mem 995 rfl rfl
theorem ml_RL_56 : Cond.methodLink RL 56 yX10_make ∈ sf_gtbl := sf_mem 996 (by decide +kernel) rfl
theorem inst_yX10_make : Cond.instanceMethod yX10_make ∈ sf_gtbl := sf_mem 997 (by decide +kernel) rfl
theorem sel_RX10_yX10_make : Cond.selects RX10 yX10_make yX10_make ∈ sf_gtbl := sf_mem 998 (by decide +kernel) rfl
set_option maxRecDepth 100000 in
theorem code_yX10_make : Cond.code yX10_make cX10_make 4 (some .int) ∈ sf_gtbl := sf_mem 999 rfl rfl
theorem ml_RX10_106 : Cond.methodLink RX10 106 yX10_cuts ∈ sf_gtbl := sf_mem 1000 (by decide +kernel) rfl
theorem inst_yX10_cuts : Cond.instanceMethod yX10_cuts ∈ sf_gtbl := sf_mem 1002 (by decide +kernel) rfl
set_option maxRecDepth 100000 in
theorem code_yX10_cuts : Cond.code yX10_cuts cX10_cuts 4 none ∈ sf_gtbl := sf_mem 1003 rfl rfl
theorem ml_RX10_109 : Cond.methodLink RX10 109 yX10_breaks ∈ sf_gtbl := sf_mem 1004 (by decide +kernel) rfl
theorem inst_yX10_breaks : Cond.instanceMethod yX10_breaks ∈ sf_gtbl := sf_mem 1006 (by decide +kernel) rfl
set_option maxRecDepth 100000 in
theorem code_yX10_breaks : Cond.code yX10_breaks cX10_breaks 2 none ∈ sf_gtbl := sf_mem 1007 rfl rfl
theorem ml_RL_61 : Cond.methodLink RL 61 yX10_reach ∈ sf_gtbl := sf_mem 1008 (by decide +kernel) rfl
theorem inst_yX10_reach : Cond.instanceMethod yX10_reach ∈ sf_gtbl := sf_mem 1009 (by decide +kernel) rfl
theorem sel_RX10_yX10_reach : Cond.selects RX10 yX10_reach yX10_reach ∈ sf_gtbl := sf_mem 1010 (by decide +kernel) rfl
set_option maxRecDepth 100000 in
theorem code_yX10_reach : Cond.code yX10_reach cX10_reach 1 (some .int) ∈ sf_gtbl := sf_mem 1011 rfl rfl
theorem ml_RX10_119 : Cond.methodLink RX10 119 yX10_reachNow ∈ sf_gtbl := sf_mem 1012 (by decide +kernel) rfl
theorem inst_yX10_reachNow : Cond.instanceMethod yX10_reachNow ∈ sf_gtbl := sf_mem 1014 (by decide +kernel) rfl
set_option maxRecDepth 100000 in
theorem code_yX10_reachNow : Cond.code yX10_reachNow cX10_reachNow 2 (some .int) ∈ sf_gtbl := sf_mem 1015 rfl rfl
theorem ml_RX10_116 : Cond.methodLink RX10 116 yX10_meets ∈ sf_gtbl := sf_mem 1016 (by decide +kernel) rfl
theorem inst_yX10_meets : Cond.instanceMethod yX10_meets ∈ sf_gtbl := sf_mem 1018 (by decide +kernel) rfl
set_option maxRecDepth 100000 in
theorem code_yX10_meets : Cond.code yX10_meets cX10_meets 2 (some .boolean) ∈ sf_gtbl := sf_mem 1019 rfl rfl
theorem ml_RX10_113 : Cond.methodLink RX10 113 yX10_rises ∈ sf_gtbl := sf_mem 1020 (by decide +kernel) rfl
theorem inst_yX10_rises : Cond.instanceMethod yX10_rises ∈ sf_gtbl := sf_mem 1022 (by decide +kernel) rfl
set_option maxRecDepth 100000 in
theorem code_yX10_rises : Cond.code yX10_rises cX10_rises 2 (some .int) ∈ sf_gtbl := sf_mem 1023 rfl rfl
theorem ml_RL_65 : Cond.methodLink RL 65 yX10_faults ∈ sf_gtbl := sf_mem 1024 (by decide +kernel) rfl
theorem inst_yX10_faults : Cond.instanceMethod yX10_faults ∈ sf_gtbl := sf_mem 1025 (by decide +kernel) rfl
theorem sel_RX10_yX10_faults : Cond.selects RX10 yX10_faults yX10_faults ∈ sf_gtbl := sf_mem 1026 (by decide +kernel) rfl
set_option maxRecDepth 100000 in
theorem code_yX10_faults : Cond.code yX10_faults cX10_faults 4 (some .long) ∈ sf_gtbl := sf_mem 1027 rfl rfl
theorem ml_RX10_122 : Cond.methodLink RX10 122 yX10_areBoth ∈ sf_gtbl := sf_mem 1028 (by decide +kernel) rfl
theorem inst_yX10_areBoth : Cond.instanceMethod yX10_areBoth ∈ sf_gtbl := sf_mem 1030 (by decide +kernel) rfl
set_option maxRecDepth 100000 in
theorem code_yX10_areBoth : Cond.code yX10_areBoth cX10_areBoth 2 (some .boolean) ∈ sf_gtbl := sf_mem 1031 rfl rfl
theorem ml_RL_70 : Cond.methodLink RL 70 yX10_years ∈ sf_gtbl := sf_mem 1032 (by decide +kernel) rfl
theorem inst_yX10_years : Cond.instanceMethod yX10_years ∈ sf_gtbl := sf_mem 1033 (by decide +kernel) rfl
theorem sel_RX10_yX10_years : Cond.selects RX10 yX10_years yX10_years ∈ sf_gtbl := sf_mem 1034 (by decide +kernel) rfl
set_option maxRecDepth 100000 in
theorem code_yX10_years : Cond.code yX10_years cX10_years 2 (some .int) ∈ sf_gtbl := sf_mem 1035 rfl rfl
theorem ml_RX10_135 : Cond.methodLink RX10 135 yX10_isLate ∈ sf_gtbl := sf_mem 1036 (by decide +kernel) rfl
theorem inst_yX10_isLate : Cond.instanceMethod yX10_isLate ∈ sf_gtbl := sf_mem 1038 (by decide +kernel) rfl
set_option maxRecDepth 100000 in
theorem code_yX10_isLate : Cond.code yX10_isLate cX10_isLate 2 (some .boolean) ∈ sf_gtbl := sf_mem 1039 rfl rfl
theorem ml_RX10_138 : Cond.methodLink RX10 138 yX10_go ∈ sf_gtbl := sf_mem 1040 (by decide +kernel) rfl
theorem inst_yX10_go : Cond.instanceMethod yX10_go ∈ sf_gtbl := sf_mem 1042 (by decide +kernel) rfl
set_option maxRecDepth 100000 in
theorem code_yX10_go : Cond.code yX10_go cX10_go 3 none ∈ sf_gtbl := sf_mem 1043 rfl rfl
theorem ml_RX10_132 : Cond.methodLink RX10 132 yX10_yearGoes ∈ sf_gtbl := sf_mem 1044 (by decide +kernel) rfl
theorem inst_yX10_yearGoes : Cond.instanceMethod yX10_yearGoes ∈ sf_gtbl := sf_mem 1046 (by decide +kernel) rfl
set_option maxRecDepth 100000 in
theorem code_yX10_yearGoes : Cond.code yX10_yearGoes cX10_yearGoes 2 none ∈ sf_gtbl := sf_mem 1047 rfl rfl
theorem ml_RX10_126 : Cond.methodLink RX10 126 yX10_serves ∈ sf_gtbl := sf_mem 1048 (by decide +kernel) rfl
theorem inst_yX10_serves : Cond.instanceMethod yX10_serves ∈ sf_gtbl := sf_mem 1050 (by decide +kernel) rfl
set_option maxRecDepth 100000 in
theorem code_yX10_serves : Cond.code yX10_serves cX10_serves 5 none ∈ sf_gtbl := sf_mem 1051 rfl rfl
theorem ml_RX10_129 : Cond.methodLink RX10 129 yX10_freezes ∈ sf_gtbl := sf_mem 1052 (by decide +kernel) rfl
theorem inst_yX10_freezes : Cond.instanceMethod yX10_freezes ∈ sf_gtbl := sf_mem 1054 (by decide +kernel) rfl
set_option maxRecDepth 100000 in
theorem code_yX10_freezes : Cond.code yX10_freezes cX10_freezes 3 none ∈ sf_gtbl := sf_mem 1055 rfl rfl
theorem ct_RX10_125 : Cond.constant RX10 125 (1103515245) ∈ sf_gtbl := sf_mem 1056 (by decide +kernel) rfl
theorem ml_RL_74 : Cond.methodLink RL 74 yX10_seed ∈ sf_gtbl := sf_mem 1057 (by decide +kernel) rfl
theorem inst_yX10_seed : Cond.instanceMethod yX10_seed ∈ sf_gtbl := sf_mem 1058 (by decide +kernel) rfl
theorem sel_RX10_yX10_seed : Cond.selects RX10 yX10_seed yX10_seed ∈ sf_gtbl := sf_mem 1059 (by decide +kernel) rfl
set_option maxRecDepth 100000 in
theorem code_yX10_seed : Cond.code yX10_seed cX10_seed 3 (some .int) ∈ sf_gtbl := sf_mem 1060 rfl rfl
theorem ml_RL_78 : Cond.methodLink RL 78 yX10_now ∈ sf_gtbl := sf_mem 1061 (by decide +kernel) rfl
theorem inst_yX10_now : Cond.instanceMethod yX10_now ∈ sf_gtbl := sf_mem 1062 (by decide +kernel) rfl
theorem sel_RX10_yX10_now : Cond.selects RX10 yX10_now yX10_now ∈ sf_gtbl := sf_mem 1063 (by decide +kernel) rfl
set_option maxRecDepth 100000 in
theorem code_yX10_now : Cond.code yX10_now cX10_now 4 (some .int) ∈ sf_gtbl := sf_mem 1064 rfl rfl
theorem ml_RL_83 : Cond.methodLink RL 83 yX10_on ∈ sf_gtbl := sf_mem 1065 (by decide +kernel) rfl
theorem inst_yX10_on : Cond.instanceMethod yX10_on ∈ sf_gtbl := sf_mem 1066 (by decide +kernel) rfl
theorem sel_RX10_yX10_on : Cond.selects RX10 yX10_on yX10_on ∈ sf_gtbl := sf_mem 1067 (by decide +kernel) rfl
set_option maxRecDepth 100000 in
theorem code_yX10_on : Cond.code yX10_on cX10_on 4 (some .long) ∈ sf_gtbl := sf_mem 1068 rfl rfl
theorem ml_RX10_141 : Cond.methodLink RX10 141 yX10_isLong ∈ sf_gtbl := sf_mem 1069 (by decide +kernel) rfl
theorem stat_yX10_isLong : Cond.static yX10_isLong ∈ sf_gtbl := sf_mem 1070 (by decide +kernel) rfl
set_option maxRecDepth 100000 in
theorem code_yX10_isLong : Cond.code yX10_isLong cX10_isLong 1 (some .boolean) ∈ sf_gtbl := sf_mem 1071 rfl rfl
theorem ml_RX10_144 : Cond.methodLink RX10 144 yX10_lends ∈ sf_gtbl := sf_mem 1072 (by decide +kernel) rfl
theorem inst_yX10_lends : Cond.instanceMethod yX10_lends ∈ sf_gtbl := sf_mem 1074 (by decide +kernel) rfl
set_option maxRecDepth 100000 in
theorem code_yX10_lends : Cond.code yX10_lends cX10_lends 2 none ∈ sf_gtbl := sf_mem 1075 rfl rfl
theorem ml_RL_87 : Cond.methodLink RL 87 yX10_reachOn ∈ sf_gtbl := sf_mem 1076 (by decide +kernel) rfl
theorem inst_yX10_reachOn : Cond.instanceMethod yX10_reachOn ∈ sf_gtbl := sf_mem 1077 (by decide +kernel) rfl
theorem sel_RX10_yX10_reachOn : Cond.selects RX10 yX10_reachOn yX10_reachOn ∈ sf_gtbl := sf_mem 1078 (by decide +kernel) rfl
set_option maxRecDepth 100000 in
theorem code_yX10_reachOn : Cond.code yX10_reachOn cX10_reachOn 3 (some .int) ∈ sf_gtbl := sf_mem 1079 rfl rfl
theorem ml_RL_91 : Cond.methodLink RL 91 yX10_pass ∈ sf_gtbl := sf_mem 1080 (by decide +kernel) rfl
theorem inst_yX10_pass : Cond.instanceMethod yX10_pass ∈ sf_gtbl := sf_mem 1081 (by decide +kernel) rfl
theorem sel_RX10_yX10_pass : Cond.selects RX10 yX10_pass yX10_pass ∈ sf_gtbl := sf_mem 1082 (by decide +kernel) rfl
set_option maxRecDepth 100000 in
theorem code_yX10_pass : Cond.code yX10_pass cX10_pass 2 (some .int) ∈ sf_gtbl := sf_mem 1083 rfl rfl
theorem ct_RX10_147 : Cond.constant RX10 147 (-1000000004) ∈ sf_gtbl := sf_mem 1084 (by decide +kernel) rfl
theorem ml_RL_95 : Cond.methodLink RL 95 yX10_paid ∈ sf_gtbl := sf_mem 1085 (by decide +kernel) rfl
theorem inst_yX10_paid : Cond.instanceMethod yX10_paid ∈ sf_gtbl := sf_mem 1086 (by decide +kernel) rfl
theorem sel_RX10_yX10_paid : Cond.selects RX10 yX10_paid yX10_paid ∈ sf_gtbl := sf_mem 1087 (by decide +kernel) rfl
set_option maxRecDepth 100000 in
theorem code_yX10_paid : Cond.code yX10_paid cX10_paid 3 (some .int) ∈ sf_gtbl := sf_mem 1088 rfl rfl
theorem ml_RL_99 : Cond.methodLink RL 99 yX10_farthest ∈ sf_gtbl := sf_mem 1089 (by decide +kernel) rfl
theorem inst_yX10_farthest : Cond.instanceMethod yX10_farthest ∈ sf_gtbl := sf_mem 1090 (by decide +kernel) rfl
theorem sel_RX10_yX10_farthest : Cond.selects RX10 yX10_farthest yX10_farthest ∈ sf_gtbl := sf_mem 1091 (by decide +kernel) rfl
set_option maxRecDepth 100000 in
theorem code_yX10_farthest : Cond.code yX10_farthest cX10_farthest 5 (some .int) ∈ sf_gtbl := sf_mem 1092 rfl rfl
theorem ml_RL_103 : Cond.methodLink RL 103 yX10_best ∈ sf_gtbl := sf_mem 1093 (by decide +kernel) rfl
theorem inst_yX10_best : Cond.instanceMethod yX10_best ∈ sf_gtbl := sf_mem 1094 (by decide +kernel) rfl
theorem sel_RX10_yX10_best : Cond.selects RX10 yX10_best yX10_best ∈ sf_gtbl := sf_mem 1095 (by decide +kernel) rfl
set_option maxRecDepth 100000 in
theorem code_yX10_best : Cond.code yX10_best cX10_best 8 (some .int) ∈ sf_gtbl := sf_mem 1096 rfl rfl
theorem ml_RX10_148 : Cond.methodLink RX10 148 yX10_isSoon ∈ sf_gtbl := sf_mem 1097 (by decide +kernel) rfl
theorem stat_yX10_isSoon : Cond.static yX10_isSoon ∈ sf_gtbl := sf_mem 1098 (by decide +kernel) rfl
set_option maxRecDepth 100000 in
theorem code_yX10_isSoon : Cond.code yX10_isSoon cX10_isSoon 1 (some .boolean) ∈ sf_gtbl := sf_mem 1099 rfl rfl
theorem ml_RX10_151 : Cond.methodLink RX10 151 yX10_reachThen ∈ sf_gtbl := sf_mem 1100 (by decide +kernel) rfl
theorem inst_yX10_reachThen : Cond.instanceMethod yX10_reachThen ∈ sf_gtbl := sf_mem 1102 (by decide +kernel) rfl
set_option maxRecDepth 100000 in
theorem code_yX10_reachThen : Cond.code yX10_reachThen cX10_reachThen 3 (some .int) ∈ sf_gtbl := sf_mem 1103 rfl rfl
theorem ml_RL_107 : Cond.methodLink RL 107 yX10_kind ∈ sf_gtbl := sf_mem 1104 (by decide +kernel) rfl
theorem inst_yX10_kind : Cond.instanceMethod yX10_kind ∈ sf_gtbl := sf_mem 1105 (by decide +kernel) rfl
theorem sel_RX10_yX10_kind : Cond.selects RX10 yX10_kind yX10_kind ∈ sf_gtbl := sf_mem 1106 (by decide +kernel) rfl
set_option maxRecDepth 100000 in
theorem code_yX10_kind : Cond.code yX10_kind cX10_kind 7 (some .int) ∈ sf_gtbl := sf_mem 1107 rfl rfl
theorem ml_RL_111 : Cond.methodLink RL 111 yX10_mend ∈ sf_gtbl := sf_mem 1108 (by decide +kernel) rfl
theorem inst_yX10_mend : Cond.instanceMethod yX10_mend ∈ sf_gtbl := sf_mem 1109 (by decide +kernel) rfl
theorem sel_RX10_yX10_mend : Cond.selects RX10 yX10_mend yX10_mend ∈ sf_gtbl := sf_mem 1110 (by decide +kernel) rfl
set_option maxRecDepth 100000 in
theorem code_yX10_mend : Cond.code yX10_mend cX10_mend 5 (some .int) ∈ sf_gtbl := sf_mem 1111 rfl rfl
theorem ml_RL_115 : Cond.methodLink RL 115 yX10_needed ∈ sf_gtbl := sf_mem 1112 (by decide +kernel) rfl
theorem inst_yX10_needed : Cond.instanceMethod yX10_needed ∈ sf_gtbl := sf_mem 1113 (by decide +kernel) rfl
theorem sel_RX10_yX10_needed : Cond.selects RX10 yX10_needed yX10_needed ∈ sf_gtbl := sf_mem 1114 (by decide +kernel) rfl
set_option maxRecDepth 100000 in
theorem code_yX10_needed : Cond.code yX10_needed cX10_needed 6 (some .int) ∈ sf_gtbl := sf_mem 1115 rfl rfl
theorem ml_RL_119 : Cond.methodLink RL 119 yX10_steepest ∈ sf_gtbl := sf_mem 1116 (by decide +kernel) rfl
theorem inst_yX10_steepest : Cond.instanceMethod yX10_steepest ∈ sf_gtbl := sf_mem 1117 (by decide +kernel) rfl
theorem sel_RX10_yX10_steepest : Cond.selects RX10 yX10_steepest yX10_steepest ∈ sf_gtbl := sf_mem 1118 (by decide +kernel) rfl
set_option maxRecDepth 100000 in
theorem code_yX10_steepest : Cond.code yX10_steepest cX10_steepest 3 (some .int) ∈ sf_gtbl := sf_mem 1119 rfl rfl
theorem ml_RL_123 : Cond.methodLink RL 123 yX10_whose ∈ sf_gtbl := sf_mem 1120 (by decide +kernel) rfl
theorem inst_yX10_whose : Cond.instanceMethod yX10_whose ∈ sf_gtbl := sf_mem 1121 (by decide +kernel) rfl
theorem sel_RX10_yX10_whose : Cond.selects RX10 yX10_whose yX10_whose ∈ sf_gtbl := sf_mem 1122 (by decide +kernel) rfl
set_option maxRecDepth 100000 in
theorem code_yX10_whose : Cond.code yX10_whose cX10_whose 5 (some .int) ∈ sf_gtbl := sf_mem 1123 rfl rfl
theorem ml_RL_127 : Cond.methodLink RL 127 yX10_bears ∈ sf_gtbl := sf_mem 1124 (by decide +kernel) rfl
theorem inst_yX10_bears : Cond.instanceMethod yX10_bears ∈ sf_gtbl := sf_mem 1125 (by decide +kernel) rfl
theorem sel_RX10_yX10_bears : Cond.selects RX10 yX10_bears yX10_bears ∈ sf_gtbl := sf_mem 1126 (by decide +kernel) rfl
set_option maxRecDepth 100000 in
theorem code_yX10_bears : Cond.code yX10_bears cX10_bears 4 (some .int) ∈ sf_gtbl := sf_mem 1127 rfl rfl
theorem ml_RL_131 : Cond.methodLink RL 131 yX10_meetsFor ∈ sf_gtbl := sf_mem 1128 (by decide +kernel) rfl
theorem inst_yX10_meetsFor : Cond.instanceMethod yX10_meetsFor ∈ sf_gtbl := sf_mem 1129 (by decide +kernel) rfl
theorem sel_RX10_yX10_meetsFor : Cond.selects RX10 yX10_meetsFor yX10_meetsFor ∈ sf_gtbl := sf_mem 1130 (by decide +kernel) rfl
set_option maxRecDepth 100000 in
theorem code_yX10_meetsFor : Cond.code yX10_meetsFor cX10_meetsFor 5 (some .int) ∈ sf_gtbl := sf_mem 1131 rfl rfl
theorem ml_RL_135 : Cond.methodLink RL 135 yX10_alone ∈ sf_gtbl := sf_mem 1132 (by decide +kernel) rfl
theorem inst_yX10_alone : Cond.instanceMethod yX10_alone ∈ sf_gtbl := sf_mem 1133 (by decide +kernel) rfl
theorem sel_RX10_yX10_alone : Cond.selects RX10 yX10_alone yX10_alone ∈ sf_gtbl := sf_mem 1134 (by decide +kernel) rfl
set_option maxRecDepth 100000 in
theorem code_yX10_alone : Cond.code yX10_alone cX10_alone 5 (some .int) ∈ sf_gtbl := sf_mem 1135 rfl rfl
theorem ml_RL_139 : Cond.methodLink RL 139 yX10_feed ∈ sf_gtbl := sf_mem 1136 (by decide +kernel) rfl
theorem inst_yX10_feed : Cond.instanceMethod yX10_feed ∈ sf_gtbl := sf_mem 1137 (by decide +kernel) rfl
theorem sel_RX10_yX10_feed : Cond.selects RX10 yX10_feed yX10_feed ∈ sf_gtbl := sf_mem 1138 (by decide +kernel) rfl
set_option maxRecDepth 100000 in
theorem code_yX10_feed : Cond.code yX10_feed cX10_feed 4 (some .int) ∈ sf_gtbl := sf_mem 1139 rfl rfl
theorem ml_RL_143 : Cond.methodLink RL 143 yX10_wipe ∈ sf_gtbl := sf_mem 1140 (by decide +kernel) rfl
theorem inst_yX10_wipe : Cond.instanceMethod yX10_wipe ∈ sf_gtbl := sf_mem 1141 (by decide +kernel) rfl
theorem sel_RX10_yX10_wipe : Cond.selects RX10 yX10_wipe yX10_wipe ∈ sf_gtbl := sf_mem 1142 (by decide +kernel) rfl
set_option maxRecDepth 100000 in
theorem code_yX10_wipe : Cond.code yX10_wipe cX10_wipe 2 (some .int) ∈ sf_gtbl := sf_mem 1143 rfl rfl
theorem ml_RL_147 : Cond.methodLink RL 147 yX10_court ∈ sf_gtbl := sf_mem 1144 (by decide +kernel) rfl
theorem inst_yX10_court : Cond.instanceMethod yX10_court ∈ sf_gtbl := sf_mem 1145 (by decide +kernel) rfl
theorem sel_RX10_yX10_court : Cond.selects RX10 yX10_court yX10_court ∈ sf_gtbl := sf_mem 1146 (by decide +kernel) rfl
set_option maxRecDepth 100000 in
theorem code_yX10_court : Cond.code yX10_court cX10_court 3 (some .int) ∈ sf_gtbl := sf_mem 1147 rfl rfl
theorem ml_RX10_249 : Cond.methodLink RX10 249 yX10_moveAll ∈ sf_gtbl := sf_mem 1148 (by decide +kernel) rfl
theorem inst_yX10_moveAll : Cond.instanceMethod yX10_moveAll ∈ sf_gtbl := sf_mem 1150 (by decide +kernel) rfl
set_option maxRecDepth 100000 in
theorem code_yX10_moveAll : Cond.code yX10_moveAll cX10_moveAll 4 none ∈ sf_gtbl := sf_mem 1151 rfl rfl
theorem ml_RX10_208 : Cond.methodLink RX10 208 yX10_advance ∈ sf_gtbl := sf_mem 1152 (by decide +kernel) rfl
theorem inst_yX10_advance : Cond.instanceMethod yX10_advance ∈ sf_gtbl := sf_mem 1154 (by decide +kernel) rfl
set_option maxRecDepth 100000 in
theorem code_yX10_advance : Cond.code yX10_advance cX10_advance 2 none ∈ sf_gtbl := sf_mem 1155 rfl rfl
theorem ml_RX10_163 : Cond.methodLink RX10 163 yX10_byteAt ∈ sf_gtbl := sf_mem 1156 (by decide +kernel) rfl
theorem inst_yX10_byteAt : Cond.instanceMethod yX10_byteAt ∈ sf_gtbl := sf_mem 1158 (by decide +kernel) rfl
set_option maxRecDepth 100000 in
theorem code_yX10_byteAt : Cond.code yX10_byteAt cX10_byteAt 2 (some .int) ∈ sf_gtbl := sf_mem 1159 rfl rfl
theorem ml_RX10_166 : Cond.methodLink RX10 166 yX10_isLetter ∈ sf_gtbl := sf_mem 1160 (by decide +kernel) rfl
theorem stat_yX10_isLetter : Cond.static yX10_isLetter ∈ sf_gtbl := sf_mem 1161 (by decide +kernel) rfl
set_option maxRecDepth 100000 in
theorem code_yX10_isLetter : Cond.code yX10_isLetter cX10_isLetter 1 (some .boolean) ∈ sf_gtbl := sf_mem 1162 rfl rfl
theorem ml_RX10_169 : Cond.methodLink RX10 169 yX10_isDigit ∈ sf_gtbl := sf_mem 1163 (by decide +kernel) rfl
theorem stat_yX10_isDigit : Cond.static yX10_isDigit ∈ sf_gtbl := sf_mem 1164 (by decide +kernel) rfl
set_option maxRecDepth 100000 in
theorem code_yX10_isDigit : Cond.code yX10_isDigit cX10_isDigit 1 (some .boolean) ∈ sf_gtbl := sf_mem 1165 rfl rfl
theorem cl_RX10_182 : Cond.constantLong RX10 182 (27) ∈ sf_gtbl := sf_mem 1166 (by decide +kernel) rfl
theorem cl_RX10_184 : Cond.constantLong RX10 184 (96) ∈ sf_gtbl := sf_mem 1167 (by decide +kernel) rfl
theorem cl_RX10_186 : Cond.constantLong RX10 186 (-1) ∈ sf_gtbl := sf_mem 1168 (by decide +kernel) rfl
theorem ml_RX10_253 : Cond.methodLink RX10 253 yX10_wantItem ∈ sf_gtbl := sf_mem 1169 (by decide +kernel) rfl
theorem inst_yX10_wantItem : Cond.instanceMethod yX10_wantItem ∈ sf_gtbl := sf_mem 1171 (by decide +kernel) rfl
set_option maxRecDepth 100000 in
theorem code_yX10_wantItem : Cond.code yX10_wantItem cX10_wantItem 1 none ∈ sf_gtbl := sf_mem 1172 rfl rfl
theorem ml_RX10_230 : Cond.methodLink RX10 230 yX10_kindHere ∈ sf_gtbl := sf_mem 1173 (by decide +kernel) rfl
theorem inst_yX10_kindHere : Cond.instanceMethod yX10_kindHere ∈ sf_gtbl := sf_mem 1175 (by decide +kernel) rfl
set_option maxRecDepth 100000 in
theorem code_yX10_kindHere : Cond.code yX10_kindHere cX10_kindHere 1 (some .int) ∈ sf_gtbl := sf_mem 1176 rfl rfl
theorem cl_RX10_188 : Cond.constantLong RX10 188 (125042) ∈ sf_gtbl := sf_mem 1177 (by decide +kernel) rfl
theorem ml_RX10_190 : Cond.methodLink RX10 190 yX10_isWord ∈ sf_gtbl := sf_mem 1178 (by decide +kernel) rfl
theorem inst_yX10_isWord : Cond.instanceMethod yX10_isWord ∈ sf_gtbl := sf_mem 1180 (by decide +kernel) rfl
set_option maxRecDepth 100000 in
theorem code_yX10_isWord : Cond.code yX10_isWord cX10_isWord 3 (some .boolean) ∈ sf_gtbl := sf_mem 1181 rfl rfl
theorem cl_RX10_194 : Cond.constantLong RX10 194 (276913705) ∈ sf_gtbl := sf_mem 1182 (by decide +kernel) rfl
theorem cl_RX10_196 : Cond.constantLong RX10 196 (28801) ∈ sf_gtbl := sf_mem 1183 (by decide +kernel) rfl
theorem cl_RX10_198 : Cond.constantLong RX10 198 (4285627) ∈ sf_gtbl := sf_mem 1184 (by decide +kernel) rfl
theorem cl_RX10_200 : Cond.constantLong RX10 200 (2401198564) ∈ sf_gtbl := sf_mem 1185 (by decide +kernel) rfl
theorem cl_RX10_202 : Cond.constantLong RX10 202 (7380411658) ∈ sf_gtbl := sf_mem 1186 (by decide +kernel) rfl
theorem ml_RX10_233 : Cond.methodLink RX10 233 yX10_wantFine ∈ sf_gtbl := sf_mem 1187 (by decide +kernel) rfl
theorem inst_yX10_wantFine : Cond.instanceMethod yX10_wantFine ∈ sf_gtbl := sf_mem 1189 (by decide +kernel) rfl
set_option maxRecDepth 100000 in
theorem code_yX10_wantFine : Cond.code yX10_wantFine cX10_wantFine 5 none ∈ sf_gtbl := sf_mem 1190 rfl rfl
theorem ml_RX10_211 : Cond.methodLink RX10 211 yX10_wantNumber ∈ sf_gtbl := sf_mem 1191 (by decide +kernel) rfl
theorem inst_yX10_wantNumber : Cond.instanceMethod yX10_wantNumber ∈ sf_gtbl := sf_mem 1193 (by decide +kernel) rfl
set_option maxRecDepth 100000 in
theorem code_yX10_wantNumber : Cond.code yX10_wantNumber cX10_wantNumber 4 (some .int) ∈ sf_gtbl := sf_mem 1194 rfl rfl
theorem cl_RX10_214 : Cond.constantLong RX10 214 (47) ∈ sf_gtbl := sf_mem 1195 (by decide +kernel) rfl
theorem ml_RX10_216 : Cond.methodLink RX10 216 yX10_wantWord ∈ sf_gtbl := sf_mem 1196 (by decide +kernel) rfl
theorem inst_yX10_wantWord : Cond.instanceMethod yX10_wantWord ∈ sf_gtbl := sf_mem 1198 (by decide +kernel) rfl
set_option maxRecDepth 100000 in
theorem code_yX10_wantWord : Cond.code yX10_wantWord cX10_wantWord 3 none ∈ sf_gtbl := sf_mem 1199 rfl rfl
theorem cl_RX10_220 : Cond.constantLong RX10 220 (1228) ∈ sf_gtbl := sf_mem 1200 (by decide +kernel) rfl
theorem ml_RX10_222 : Cond.methodLink RX10 222 yX10_mayWant ∈ sf_gtbl := sf_mem 1201 (by decide +kernel) rfl
theorem inst_yX10_mayWant : Cond.instanceMethod yX10_mayWant ∈ sf_gtbl := sf_mem 1203 (by decide +kernel) rfl
set_option maxRecDepth 100000 in
theorem code_yX10_mayWant : Cond.code yX10_mayWant cX10_mayWant 6 (some .int) ∈ sf_gtbl := sf_mem 1204 rfl rfl
theorem cl_RX10_236 : Cond.constantLong RX10 236 (365321) ∈ sf_gtbl := sf_mem 1205 (by decide +kernel) rfl
theorem ml_RX10_238 : Cond.methodLink RX10 238 yX10_wantRock ∈ sf_gtbl := sf_mem 1206 (by decide +kernel) rfl
theorem inst_yX10_wantRock : Cond.instanceMethod yX10_wantRock ∈ sf_gtbl := sf_mem 1208 (by decide +kernel) rfl
set_option maxRecDepth 100000 in
theorem code_yX10_wantRock : Cond.code yX10_wantRock cX10_wantRock 5 none ∈ sf_gtbl := sf_mem 1209 rfl rfl
theorem cl_RX10_226 : Cond.constantLong RX10 226 (555) ∈ sf_gtbl := sf_mem 1210 (by decide +kernel) rfl
theorem cl_RX10_228 : Cond.constantLong RX10 228 (411) ∈ sf_gtbl := sf_mem 1211 (by decide +kernel) rfl
theorem cl_RX10_241 : Cond.constantLong RX10 241 (3554408) ∈ sf_gtbl := sf_mem 1212 (by decide +kernel) rfl
theorem ml_RX10_243 : Cond.methodLink RX10 243 yX10_wantLet ∈ sf_gtbl := sf_mem 1213 (by decide +kernel) rfl
theorem inst_yX10_wantLet : Cond.instanceMethod yX10_wantLet ∈ sf_gtbl := sf_mem 1215 (by decide +kernel) rfl
set_option maxRecDepth 100000 in
theorem code_yX10_wantLet : Cond.code yX10_wantLet cX10_wantLet 4 none ∈ sf_gtbl := sf_mem 1216 rfl rfl
theorem cl_RX10_247 : Cond.constantLong RX10 247 (7011352) ∈ sf_gtbl := sf_mem 1217 (by decide +kernel) rfl
theorem ml_RL_151 : Cond.methodLink RL 151 yX10_sheet ∈ sf_gtbl := sf_mem 1218 (by decide +kernel) rfl
theorem inst_yX10_sheet : Cond.instanceMethod yX10_sheet ∈ sf_gtbl := sf_mem 1219 (by decide +kernel) rfl
theorem sel_RX10_yX10_sheet : Cond.selects RX10 yX10_sheet yX10_sheet ∈ sf_gtbl := sf_mem 1220 (by decide +kernel) rfl
set_option maxRecDepth 100000 in
theorem code_yX10_sheet : Cond.code yX10_sheet cX10_sheet 5 (some .int) ∈ sf_gtbl := sf_mem 1221 rfl rfl
theorem ml_RX10_256 : Cond.methodLink RX10 256 yX10_isSheet ∈ sf_gtbl := sf_mem 1222 (by decide +kernel) rfl
theorem stat_yX10_isSheet : Cond.static yX10_isSheet ∈ sf_gtbl := sf_mem 1223 (by decide +kernel) rfl
set_option maxRecDepth 100000 in
theorem code_yX10_isSheet : Cond.code yX10_isSheet cX10_isSheet 1 (some .boolean) ∈ sf_gtbl := sf_mem 1224 rfl rfl
theorem ct_RX10_259 : Cond.constant RX10 259 (-1000000007) ∈ sf_gtbl := sf_mem 1225 (by decide +kernel) rfl
theorem ml_RL_158 : Cond.methodLink RL 158 yX10_write ∈ sf_gtbl := sf_mem 1226 (by decide +kernel) rfl
theorem inst_yX10_write : Cond.instanceMethod yX10_write ∈ sf_gtbl := sf_mem 1227 (by decide +kernel) rfl
theorem sel_RX10_yX10_write : Cond.selects RX10 yX10_write yX10_write ∈ sf_gtbl := sf_mem 1228 (by decide +kernel) rfl
set_option maxRecDepth 100000 in
theorem code_yX10_write : Cond.code yX10_write cX10_write 7 (some .long) ∈ sf_gtbl := sf_mem 1229 rfl rfl
theorem ct_RX10_260 : Cond.constant RX10 260 (-1000000006) ∈ sf_gtbl := sf_mem 1230 (by decide +kernel) rfl
theorem ml_RX10_261 : Cond.methodLink RX10 261 yX10_narrow ∈ sf_gtbl := sf_mem 1231 (by decide +kernel) rfl
theorem stat_yX10_narrow : Cond.static yX10_narrow ∈ sf_gtbl := sf_mem 1232 (by decide +kernel) rfl
set_option maxRecDepth 100000 in
theorem code_yX10_narrow : Cond.code yX10_narrow cX10_narrow 3 (some .long) ∈ sf_gtbl := sf_mem 1233 rfl rfl
theorem ml_RL_163 : Cond.methodLink RL 163 yX10_copy ∈ sf_gtbl := sf_mem 1234 (by decide +kernel) rfl
theorem inst_yX10_copy : Cond.instanceMethod yX10_copy ∈ sf_gtbl := sf_mem 1235 (by decide +kernel) rfl
theorem sel_RX10_yX10_copy : Cond.selects RX10 yX10_copy yX10_copy ∈ sf_gtbl := sf_mem 1236 (by decide +kernel) rfl
set_option maxRecDepth 100000 in
theorem code_yX10_copy : Cond.code yX10_copy cX10_copy 7 (some .int) ∈ sf_gtbl := sf_mem 1237 rfl rfl
theorem ml_RX10_265 : Cond.methodLink RX10 265 yX10_isPart_ ∈ sf_gtbl := sf_mem 1238 (by decide +kernel) rfl
theorem inst_yX10_isPart_ : Cond.instanceMethod yX10_isPart_ ∈ sf_gtbl := sf_mem 1240 (by decide +kernel) rfl
set_option maxRecDepth 100000 in
theorem code_yX10_isPart_ : Cond.code yX10_isPart_ cX10_isPart_ 4 (some .boolean) ∈ sf_gtbl := sf_mem 1241 rfl rfl
theorem ml_RL_167 : Cond.methodLink RL 167 yX10_lays ∈ sf_gtbl := sf_mem 1242 (by decide +kernel) rfl
theorem inst_yX10_lays : Cond.instanceMethod yX10_lays ∈ sf_gtbl := sf_mem 1243 (by decide +kernel) rfl
theorem sel_RX10_yX10_lays : Cond.selects RX10 yX10_lays yX10_lays ∈ sf_gtbl := sf_mem 1244 (by decide +kernel) rfl
set_option maxRecDepth 100000 in
theorem code_yX10_lays : Cond.code yX10_lays cX10_lays 6 (some .int) ∈ sf_gtbl := sf_mem 1245 rfl rfl
theorem cl_RX10_267 : Cond.constantLong RX10 267 (9) ∈ sf_gtbl := sf_mem 1246 (by decide +kernel) rfl
theorem ml_RL_171 : Cond.methodLink RL 171 yX10_stair ∈ sf_gtbl := sf_mem 1247 (by decide +kernel) rfl
theorem inst_yX10_stair : Cond.instanceMethod yX10_stair ∈ sf_gtbl := sf_mem 1248 (by decide +kernel) rfl
theorem sel_RX10_yX10_stair : Cond.selects RX10 yX10_stair yX10_stair ∈ sf_gtbl := sf_mem 1249 (by decide +kernel) rfl
set_option maxRecDepth 100000 in
theorem code_yX10_stair : Cond.code yX10_stair cX10_stair 5 (some .int) ∈ sf_gtbl := sf_mem 1250 rfl rfl
theorem ml_RL_175 : Cond.methodLink RL 175 yX10_read ∈ sf_gtbl := sf_mem 1251 (by decide +kernel) rfl
theorem inst_yX10_read : Cond.instanceMethod yX10_read ∈ sf_gtbl := sf_mem 1252 (by decide +kernel) rfl
theorem sel_RX10_yX10_read : Cond.selects RX10 yX10_read yX10_read ∈ sf_gtbl := sf_mem 1253 (by decide +kernel) rfl
set_option maxRecDepth 100000 in
theorem code_yX10_read : Cond.code yX10_read cX10_read 5 (some .int) ∈ sf_gtbl := sf_mem 1254 rfl rfl
theorem ml_RL_179 : Cond.methodLink RL 179 yX10_image ∈ sf_gtbl := sf_mem 1255 (by decide +kernel) rfl
theorem inst_yX10_image : Cond.instanceMethod yX10_image ∈ sf_gtbl := sf_mem 1256 (by decide +kernel) rfl
theorem sel_RX10_yX10_image : Cond.selects RX10 yX10_image yX10_image ∈ sf_gtbl := sf_mem 1257 (by decide +kernel) rfl
set_option maxRecDepth 100000 in
theorem code_yX10_image : Cond.code yX10_image cX10_image 1 (some .int) ∈ sf_gtbl := sf_mem 1258 rfl rfl
theorem ml_RL_183 : Cond.methodLink RL 183 yX10_undo ∈ sf_gtbl := sf_mem 1259 (by decide +kernel) rfl
theorem inst_yX10_undo : Cond.instanceMethod yX10_undo ∈ sf_gtbl := sf_mem 1260 (by decide +kernel) rfl
theorem sel_RX10_yX10_undo : Cond.selects RX10 yX10_undo yX10_undo ∈ sf_gtbl := sf_mem 1261 (by decide +kernel) rfl
set_option maxRecDepth 100000 in
theorem code_yX10_undo : Cond.code yX10_undo cX10_undo 1 (some .int) ∈ sf_gtbl := sf_mem 1262 rfl rfl
theorem ml_RL_187 : Cond.methodLink RL 187 yX10_tear ∈ sf_gtbl := sf_mem 1263 (by decide +kernel) rfl
theorem inst_yX10_tear : Cond.instanceMethod yX10_tear ∈ sf_gtbl := sf_mem 1264 (by decide +kernel) rfl
theorem sel_RX10_yX10_tear : Cond.selects RX10 yX10_tear yX10_tear ∈ sf_gtbl := sf_mem 1265 (by decide +kernel) rfl
set_option maxRecDepth 100000 in
theorem code_yX10_tear : Cond.code yX10_tear cX10_tear 2 (some .int) ∈ sf_gtbl := sf_mem 1266 rfl rfl
theorem ml_RL_191 : Cond.methodLink RL 191 yX10_count ∈ sf_gtbl := sf_mem 1267 (by decide +kernel) rfl
theorem inst_yX10_count : Cond.instanceMethod yX10_count ∈ sf_gtbl := sf_mem 1268 (by decide +kernel) rfl
theorem sel_RX10_yX10_count : Cond.selects RX10 yX10_count yX10_count ∈ sf_gtbl := sf_mem 1269 (by decide +kernel) rfl
set_option maxRecDepth 100000 in
theorem code_yX10_count : Cond.code yX10_count cX10_count 4 (some .int) ∈ sf_gtbl := sf_mem 1270 rfl rfl
theorem ml_RL_195 : Cond.methodLink RL 195 yX10_status ∈ sf_gtbl := sf_mem 1271 (by decide +kernel) rfl
theorem inst_yX10_status : Cond.instanceMethod yX10_status ∈ sf_gtbl := sf_mem 1272 (by decide +kernel) rfl
theorem sel_RX10_yX10_status : Cond.selects RX10 yX10_status yX10_status ∈ sf_gtbl := sf_mem 1273 (by decide +kernel) rfl
set_option maxRecDepth 100000 in
theorem code_yX10_status : Cond.code yX10_status cX10_status 4 (some .int) ∈ sf_gtbl := sf_mem 1274 rfl rfl
theorem cl_RL_152 : Cond.constantLong RL 152 (4294967295) ∈ sf_gtbl := sf_mem 1275 (by decide +kernel) rfl
theorem same_StairFines_Hasty_StairFines_Hasty_works__II_I : Cond.sameMethod "StairFines$Hasty" "StairFines$Hasty" "works" "(II)I" ∈ sf_gtbl := sf_mem 1276 (by decide +kernel) rfl
theorem same_StairFines_Hasty_StairFines_Hasty_cutsHigh__I_I : Cond.sameMethod "StairFines$Hasty" "StairFines$Hasty" "cutsHigh" "(I)I" ∈ sf_gtbl := sf_mem 1277 (by decide +kernel) rfl
theorem same_StairFines_Alms_StairFines_Alms_cutsHigh__I_I : Cond.sameMethod "StairFines$Alms" "StairFines$Alms" "cutsHigh" "(I)I" ∈ sf_gtbl := sf_mem 1278 (by decide +kernel) rfl
set_option maxRecDepth 20000 in
theorem in_X0 : ∀ w ∈ u_ws RX0 TX0 0, w ∈ sf_gtbl := by decide +kernel
set_option maxRecDepth 20000 in
theorem in_X1 : ∀ w ∈ u_ws RX1 TX1 0, w ∈ sf_gtbl := by decide +kernel
set_option maxRecDepth 20000 in
theorem in_X2 : ∀ w ∈ u_ws RX2 TX2 0, w ∈ sf_gtbl := by decide +kernel
set_option maxRecDepth 20000 in
theorem in_X3 : ∀ w ∈ u_ws RX3 TX3 0, w ∈ sf_gtbl := by decide +kernel
set_option maxRecDepth 20000 in
theorem in_X4 : ∀ w ∈ u_ws RX4 TX4 16, w ∈ sf_gtbl := by decide +kernel
set_option maxRecDepth 20000 in
theorem in_X5 : ∀ w ∈ u_ws RX5 TX5 0, w ∈ sf_gtbl := by decide +kernel
set_option maxRecDepth 20000 in
theorem in_X6 : ∀ w ∈ u_ws RX6 TX6 0, w ∈ sf_gtbl := by decide +kernel
set_option maxRecDepth 20000 in
theorem in_X7 : ∀ w ∈ u_ws RX7 TX7 3, w ∈ sf_gtbl := by decide +kernel
set_option maxRecDepth 20000 in
theorem in_X8 : ∀ w ∈ u_ws RX8 TX8 8, w ∈ sf_gtbl := by decide +kernel
set_option maxRecDepth 20000 in
theorem in_X9 : ∀ w ∈ u_ws RX9 TX9 7, w ∈ sf_gtbl := by decide +kernel
set_option maxRecDepth 20000 in
theorem in_X10 : ∀ w ∈ u_ws RX10 TX10 18, w ∈ sf_gtbl := by decide +kernel
theorem pk_yX0_init : sf_Pk yX0_init cX0_init 1 none 0 := ⟨ini_RX0, code_yX0_init, by decide +kernel, by decide +kernel, by decide +kernel⟩
theorem pk_yX0_name : sf_Pk yX0_name cX0_name 1 (some (.object "java/lang/String")) 0 := ⟨ini_RX0, code_yX0_name, by decide +kernel, by decide +kernel, by decide +kernel⟩
theorem pk_yX0_cutsHigh : sf_Pk yX0_cutsHigh cX0_cutsHigh 2 (some .int) 1 := ⟨ini_RX0, code_yX0_cutsHigh, by decide +kernel, by decide +kernel, by decide +kernel⟩
theorem pk_yX1_init : sf_Pk yX1_init cX1_init 1 none 0 := ⟨ini_RX1, code_yX1_init, by decide +kernel, by decide +kernel, by decide +kernel⟩
theorem pk_yX1_name : sf_Pk yX1_name cX1_name 1 (some (.object "java/lang/String")) 0 := ⟨ini_RX1, code_yX1_name, by decide +kernel, by decide +kernel, by decide +kernel⟩
theorem pk_yX1_works : sf_Pk yX1_works cX1_works 3 (some .int) 2 := ⟨ini_RX1, code_yX1_works, by decide +kernel, by decide +kernel, by decide +kernel⟩
theorem pk_yX1_cutsHigh : sf_Pk yX1_cutsHigh cX1_cutsHigh 2 (some .int) 1 := ⟨ini_RX1, code_yX1_cutsHigh, by decide +kernel, by decide +kernel, by decide +kernel⟩
theorem pk_yX1_counts : sf_Pk yX1_counts cX1_counts 1 (some .int) 0 := ⟨ini_RX1, code_yX1_counts, by decide +kernel, by decide +kernel, by decide +kernel⟩
theorem pk_yX2_init : sf_Pk yX2_init cX2_init 1 none 0 := ⟨ini_RX2, code_yX2_init, by decide +kernel, by decide +kernel, by decide +kernel⟩
theorem pk_yX2_name : sf_Pk yX2_name cX2_name 1 (some (.object "java/lang/String")) 0 := ⟨ini_RX2, code_yX2_name, by decide +kernel, by decide +kernel, by decide +kernel⟩
theorem pk_yX2_works : sf_Pk yX2_works cX2_works 3 (some .int) 2 := ⟨ini_RX2, code_yX2_works, by decide +kernel, by decide +kernel, by decide +kernel⟩
theorem pk_yX2_cutsHigh : sf_Pk yX2_cutsHigh cX2_cutsHigh 2 (some .int) 1 := ⟨ini_RX2, code_yX2_cutsHigh, by decide +kernel, by decide +kernel, by decide +kernel⟩
theorem pk_yX3_init : sf_Pk yX3_init cX3_init 1 none 0 := ⟨ini_RX3, code_yX3_init, by decide +kernel, by decide +kernel, by decide +kernel⟩
theorem pk_yX3_name : sf_PkV yX3_name cX3_name 1 (some (.object "java/lang/String")) 0 := ⟨⟨ini_RX3, code_yX3_name, by decide +kernel, by decide +kernel, by decide +kernel⟩, inst_yX3_name, sel_RX3_yX3_name⟩
theorem pk_yX3_works : sf_PkV yX3_works cX3_works 3 (some .int) 2 := ⟨⟨ini_RX3, code_yX3_works, by decide +kernel, by decide +kernel, by decide +kernel⟩, inst_yX3_works, sel_RX3_yX3_works⟩
theorem pk_yX3_cutsHigh : sf_PkV yX3_cutsHigh cX3_cutsHigh 2 (some .int) 1 := ⟨⟨ini_RX3, code_yX3_cutsHigh, by decide +kernel, by decide +kernel, by decide +kernel⟩, inst_yX3_cutsHigh, sel_RX3_yX3_cutsHigh⟩
theorem pk_yX3_counts : sf_PkV yX3_counts cX3_counts 1 (some .int) 0 := ⟨⟨ini_RX3, code_yX3_counts, by decide +kernel, by decide +kernel, by decide +kernel⟩, inst_yX3_counts, sel_RX3_yX3_counts⟩
theorem pk_yX4_init : sf_Pk yX4_init cX4_init 2 none 1 := ⟨ini_RX4, code_yX4_init, by decide +kernel, by decide +kernel, by decide +kernel⟩
theorem pk_yX4_become : sf_PkV yX4_become cX4_become 2 none 1 := ⟨⟨ini_RX4, code_yX4_become, by decide +kernel, by decide +kernel, by decide +kernel⟩, inst_yX4_become, sel_RX4_yX4_become⟩
theorem pk_yX4_isFull : sf_PkV yX4_isFull cX4_isFull 1 (some .boolean) 0 := ⟨⟨ini_RX4, code_yX4_isFull, by decide +kernel, by decide +kernel, by decide +kernel⟩, inst_yX4_isFull, sel_RX4_yX4_isFull⟩
theorem pk_yX4_hasFine : sf_PkV yX4_hasFine cX4_hasFine 2 (some .boolean) 1 := ⟨⟨ini_RX4, code_yX4_hasFine, by decide +kernel, by decide +kernel, by decide +kernel⟩, inst_yX4_hasFine, sel_RX4_yX4_hasFine⟩
theorem pk_yX4_addFine : sf_PkV yX4_addFine cX4_addFine 5 none 4 := ⟨⟨ini_RX4, code_yX4_addFine, by decide +kernel, by decide +kernel, by decide +kernel⟩, inst_yX4_addFine, sel_RX4_yX4_addFine⟩
theorem pk_yX4_moveFine : sf_PkV yX4_moveFine cX4_moveFine 3 none 2 := ⟨⟨ini_RX4, code_yX4_moveFine, by decide +kernel, by decide +kernel, by decide +kernel⟩, inst_yX4_moveFine, sel_RX4_yX4_moveFine⟩
theorem pk_yX4_kindOf : sf_PkV yX4_kindOf cX4_kindOf 3 (some (.object "StairFines$Kind")) 1 := ⟨⟨ini_RX4, code_yX4_kindOf, by decide +kernel, by decide +kernel, by decide +kernel⟩, inst_yX4_kindOf, sel_RX4_yX4_kindOf⟩
theorem pk_yX4_worksOf : sf_PkV yX4_worksOf cX4_worksOf 2 (some .int) 1 := ⟨⟨ini_RX4, code_yX4_worksOf, by decide +kernel, by decide +kernel, by decide +kernel⟩, inst_yX4_worksOf, sel_RX4_yX4_worksOf⟩
theorem pk_yX4_highOf : sf_PkV yX4_highOf cX4_highOf 3 (some .int) 2 := ⟨⟨ini_RX4, code_yX4_highOf, by decide +kernel, by decide +kernel, by decide +kernel⟩, inst_yX4_highOf, sel_RX4_yX4_highOf⟩
theorem pk_yX4_cutBy : sf_PkV yX4_cutBy cX4_cutBy 4 (some .int) 1 := ⟨⟨ini_RX4, code_yX4_cutBy, by decide +kernel, by decide +kernel, by decide +kernel⟩, inst_yX4_cutBy, sel_RX4_yX4_cutBy⟩
theorem pk_yX4_owedByAll : sf_PkV yX4_owedByAll cX4_owedByAll 3 (some .int) 0 := ⟨⟨ini_RX4, code_yX4_owedByAll, by decide +kernel, by decide +kernel, by decide +kernel⟩, inst_yX4_owedByAll, sel_RX4_yX4_owedByAll⟩
theorem pk_yX4_highOfAll : sf_PkV yX4_highOfAll cX4_highOfAll 3 (some .int) 0 := ⟨⟨ini_RX4, code_yX4_highOfAll, by decide +kernel, by decide +kernel, by decide +kernel⟩, inst_yX4_highOfAll, sel_RX4_yX4_highOfAll⟩
theorem pk_yX4_wholePlaces : sf_PkV yX4_wholePlaces cX4_wholePlaces 1 (some .int) 0 := ⟨⟨ini_RX4, code_yX4_wholePlaces, by decide +kernel, by decide +kernel, by decide +kernel⟩, inst_yX4_wholePlaces, sel_RX4_yX4_wholePlaces⟩
theorem pk_yX4_isWhole : sf_PkV yX4_isWhole cX4_isWhole 2 (some .boolean) 1 := ⟨⟨ini_RX4, code_yX4_isWhole, by decide +kernel, by decide +kernel, by decide +kernel⟩, inst_yX4_isWhole, sel_RX4_yX4_isWhole⟩
theorem pk_yX4_cut : sf_PkV yX4_cut cX4_cut 4 none 3 := ⟨⟨ini_RX4, code_yX4_cut, by decide +kernel, by decide +kernel, by decide +kernel⟩, inst_yX4_cut, sel_RX4_yX4_cut⟩
theorem pk_yX4_breakUp : sf_PkV yX4_breakUp cX4_breakUp 2 none 1 := ⟨⟨ini_RX4, code_yX4_breakUp, by decide +kernel, by decide +kernel, by decide +kernel⟩, inst_yX4_breakUp, sel_RX4_yX4_breakUp⟩
theorem pk_yX4_isPair : sf_PkV yX4_isPair cX4_isPair 2 (some .boolean) 1 := ⟨⟨ini_RX4, code_yX4_isPair, by decide +kernel, by decide +kernel, by decide +kernel⟩, inst_yX4_isPair, sel_RX4_yX4_isPair⟩
theorem pk_yX4_isMet : sf_PkV yX4_isMet cX4_isMet 3 (some .boolean) 2 := ⟨⟨ini_RX4, code_yX4_isMet, by decide +kernel, by decide +kernel, by decide +kernel⟩, inst_yX4_isMet, sel_RX4_yX4_isMet⟩
theorem pk_yX4_climb : sf_PkV yX4_climb cX4_climb 1 (some .int) 0 := ⟨⟨ini_RX4, code_yX4_climb, by decide +kernel, by decide +kernel, by decide +kernel⟩, inst_yX4_climb, sel_RX4_yX4_climb⟩
theorem pk_yX4_climbWith : sf_PkV yX4_climbWith cX4_climbWith 3 (some .int) 1 := ⟨⟨ini_RX4, code_yX4_climbWith, by decide +kernel, by decide +kernel, by decide +kernel⟩, inst_yX4_climbWith, sel_RX4_yX4_climbWith⟩
theorem pk_yX4_goYears : sf_PkV yX4_goYears cX4_goYears 3 none 1 := ⟨⟨ini_RX4, code_yX4_goYears, by decide +kernel, by decide +kernel, by decide +kernel⟩, inst_yX4_goYears, sel_RX4_yX4_goYears⟩
theorem pk_yX4_isAtRest : sf_PkV yX4_isAtRest cX4_isAtRest 3 (some .boolean) 0 := ⟨⟨ini_RX4, code_yX4_isAtRest, by decide +kernel, by decide +kernel, by decide +kernel⟩, inst_yX4_isAtRest, sel_RX4_yX4_isAtRest⟩
theorem pk_yX4_goYear : sf_PkV yX4_goYear cX4_goYear 2 none 0 := ⟨⟨ini_RX4, code_yX4_goYear, by decide +kernel, by decide +kernel, by decide +kernel⟩, inst_yX4_goYear, sel_RX4_yX4_goYear⟩
theorem pk_yX4_goOn : sf_PkV yX4_goOn cX4_goOn 3 none 1 := ⟨⟨ini_RX4, code_yX4_goOn, by decide +kernel, by decide +kernel, by decide +kernel⟩, inst_yX4_goOn, sel_RX4_yX4_goOn⟩
theorem pk_yX4_workOn : sf_PkV yX4_workOn cX4_workOn 4 none 2 := ⟨⟨ini_RX4, code_yX4_workOn, by decide +kernel, by decide +kernel, by decide +kernel⟩, inst_yX4_workOn, sel_RX4_yX4_workOn⟩
theorem pk_yX4_freeze : sf_PkV yX4_freeze cX4_freeze 2 none 0 := ⟨⟨ini_RX4, code_yX4_freeze, by decide +kernel, by decide +kernel, by decide +kernel⟩, inst_yX4_freeze, sel_RX4_yX4_freeze⟩
theorem pk_yX4_draw : sf_PkV yX4_draw cX4_draw 1 (some .int) 0 := ⟨⟨ini_RX4, code_yX4_draw, by decide +kernel, by decide +kernel, by decide +kernel⟩, inst_yX4_draw, sel_RX4_yX4_draw⟩
theorem pk_yX5_init : sf_Pk yX5_init cX5_init 1 none 0 := ⟨ini_RX5, code_yX5_init, by decide +kernel, by decide +kernel, by decide +kernel⟩
theorem pk_yX5_name : sf_Pk yX5_name cX5_name 1 (some (.object "java/lang/String")) 0 := ⟨ini_RX5, code_yX5_name, by decide +kernel, by decide +kernel, by decide +kernel⟩
theorem pk_yX5_works : sf_Pk yX5_works cX5_works 3 (some .int) 2 := ⟨ini_RX5, code_yX5_works, by decide +kernel, by decide +kernel, by decide +kernel⟩
theorem pk_yX5_cutsHigh : sf_Pk yX5_cutsHigh cX5_cutsHigh 2 (some .int) 1 := ⟨ini_RX5, code_yX5_cutsHigh, by decide +kernel, by decide +kernel, by decide +kernel⟩
theorem pk_yX6_init : sf_Pk yX6_init cX6_init 1 none 0 := ⟨ini_RX6, code_yX6_init, by decide +kernel, by decide +kernel, by decide +kernel⟩
theorem pk_yX6_name : sf_Pk yX6_name cX6_name 1 (some (.object "java/lang/String")) 0 := ⟨ini_RX6, code_yX6_name, by decide +kernel, by decide +kernel, by decide +kernel⟩
theorem pk_yX6_works : sf_Pk yX6_works cX6_works 3 (some .int) 2 := ⟨ini_RX6, code_yX6_works, by decide +kernel, by decide +kernel, by decide +kernel⟩
theorem pk_yX7_init : sf_Pk yX7_init cX7_init 1 none 0 := ⟨ini_RX7, code_yX7_init, by decide +kernel, by decide +kernel, by decide +kernel⟩
theorem pk_yX7_isMissing : sf_PkV yX7_isMissing cX7_isMissing 1 (some .boolean) 0 := ⟨⟨ini_RX7, code_yX7_isMissing, by decide +kernel, by decide +kernel, by decide +kernel⟩, inst_yX7_isMissing, sel_RX7_yX7_isMissing⟩
theorem pk_yX7_layOut : sf_PkV yX7_layOut cX7_layOut 3 none 2 := ⟨⟨ini_RX7, code_yX7_layOut, by decide +kernel, by decide +kernel, by decide +kernel⟩, inst_yX7_layOut, sel_RX7_yX7_layOut⟩
theorem pk_yX7_holds : sf_PkV yX7_holds cX7_holds 3 (some .boolean) 2 := ⟨⟨ini_RX7, code_yX7_holds, by decide +kernel, by decide +kernel, by decide +kernel⟩, inst_yX7_holds, sel_RX7_yX7_holds⟩
theorem pk_yX7_put : sf_PkV yX7_put cX7_put 4 none 2 := ⟨⟨ini_RX7, code_yX7_put, by decide +kernel, by decide +kernel, by decide +kernel⟩, inst_yX7_put, sel_RX7_yX7_put⟩
theorem pk_yX7_lowest : sf_PkV yX7_lowest cX7_lowest 3 (some .long) 1 := ⟨⟨ini_RX7, code_yX7_lowest, by decide +kernel, by decide +kernel, by decide +kernel⟩, inst_yX7_lowest, sel_RX7_yX7_lowest⟩
theorem pk_yX8_init : sf_Pk yX8_init cX8_init 2 none 1 := ⟨ini_RX8, code_yX8_init, by decide +kernel, by decide +kernel, by decide +kernel⟩
theorem pk_yX8_append : sf_PkV yX8_append cX8_append 2 none 1 := ⟨⟨ini_RX8, code_yX8_append, by decide +kernel, by decide +kernel, by decide +kernel⟩, inst_yX8_append, sel_RX8_yX8_append⟩
theorem pk_yX8_tell : sf_PkV yX8_tell cX8_tell 3 (some .int) 1 := ⟨⟨ini_RX8, code_yX8_tell, by decide +kernel, by decide +kernel, by decide +kernel⟩, inst_yX8_tell, sel_RX8_yX8_tell⟩
theorem pk_yX8_item : sf_PkV yX8_item cX8_item 3 (some .boolean) 1 := ⟨⟨ini_RX8, code_yX8_item, by decide +kernel, by decide +kernel, by decide +kernel⟩, inst_yX8_item, sel_RX8_yX8_item⟩
theorem pk_yX8_fineItem : sf_PkV yX8_fineItem cX8_fineItem 6 (some .boolean) 2 := ⟨⟨ini_RX8, code_yX8_fineItem, by decide +kernel, by decide +kernel, by decide +kernel⟩, inst_yX8_fineItem, sel_RX8_yX8_fineItem⟩
theorem pk_yX8_rockItem : sf_PkV yX8_rockItem cX8_rockItem 5 (some .boolean) 1 := ⟨⟨ini_RX8, code_yX8_rockItem, by decide +kernel, by decide +kernel, by decide +kernel⟩, inst_yX8_rockItem, sel_RX8_yX8_rockItem⟩
theorem pk_yX8_take : sf_PkV yX8_take cX8_take 3 (some .boolean) 2 := ⟨⟨ini_RX8, code_yX8_take, by decide +kernel, by decide +kernel, by decide +kernel⟩, inst_yX8_take, sel_RX8_yX8_take⟩
theorem pk_yX8_takeWord : sf_PkV yX8_takeWord cX8_takeWord 2 (some .boolean) 1 := ⟨⟨ini_RX8, code_yX8_takeWord, by decide +kernel, by decide +kernel, by decide +kernel⟩, inst_yX8_takeWord, sel_RX8_yX8_takeWord⟩
theorem pk_yX8_isWord : sf_PkV yX8_isWord cX8_isWord 3 (some .boolean) 1 := ⟨⟨ini_RX8, code_yX8_isWord, by decide +kernel, by decide +kernel, by decide +kernel⟩, inst_yX8_isWord, sel_RX8_yX8_isWord⟩
theorem pk_yX8_advance : sf_PkV yX8_advance cX8_advance 2 none 0 := ⟨⟨ini_RX8, code_yX8_advance, by decide +kernel, by decide +kernel, by decide +kernel⟩, inst_yX8_advance, sel_RX8_yX8_advance⟩
theorem pk_yX8_isLetter : sf_PkS yX8_isLetter cX8_isLetter 1 (some .boolean) 1 := ⟨⟨ini_RX8, code_yX8_isLetter, by decide +kernel, by decide +kernel, by decide +kernel⟩, stat_yX8_isLetter⟩
theorem pk_yX8_isDigit : sf_PkS yX8_isDigit cX8_isDigit 1 (some .boolean) 1 := ⟨⟨ini_RX8, code_yX8_isDigit, by decide +kernel, by decide +kernel, by decide +kernel⟩, stat_yX8_isDigit⟩
theorem pk_yX9_init : sf_Pk yX9_init cX9_init 2 none 0 := ⟨ini_RX9, code_yX9_init, by decide +kernel, by decide +kernel, by decide +kernel⟩
theorem pk_yX9_rock : sf_PkV yX9_rock cX9_rock 4 (some .int) 2 := ⟨⟨ini_RX9, code_yX9_rock, by decide +kernel, by decide +kernel, by decide +kernel⟩, inst_yX9_rock, sel_RX9_yX9_rock⟩
theorem pk_yX9_let : sf_PkV yX9_let cX9_let 4 (some .int) 2 := ⟨⟨ini_RX9, code_yX9_let, by decide +kernel, by decide +kernel, by decide +kernel⟩, inst_yX9_let, sel_RX9_yX9_let⟩
theorem pk_yX9_fine : sf_PkV yX9_fine cX9_fine 4 (some .int) 3 := ⟨⟨ini_RX9, code_yX9_fine, by decide +kernel, by decide +kernel, by decide +kernel⟩, inst_yX9_fine, sel_RX9_yX9_fine⟩
theorem pk_yX9_of : sf_PkV yX9_of cX9_of 3 (some .int) 2 := ⟨⟨ini_RX9, code_yX9_of, by decide +kernel, by decide +kernel, by decide +kernel⟩, inst_yX9_of, sel_RX9_yX9_of⟩
theorem pk_yX9_set : sf_PkV yX9_set cX9_set 5 (some .int) 3 := ⟨⟨ini_RX9, code_yX9_set, by decide +kernel, by decide +kernel, by decide +kernel⟩, inst_yX9_set, sel_RX9_yX9_set⟩
theorem pk_yX9_turn : sf_PkV yX9_turn cX9_turn 4 (some .int) 2 := ⟨⟨ini_RX9, code_yX9_turn, by decide +kernel, by decide +kernel, by decide +kernel⟩, inst_yX9_turn, sel_RX9_yX9_turn⟩
theorem pk_yX9_as : sf_PkV yX9_as cX9_as 3 (some .int) 2 := ⟨⟨ini_RX9, code_yX9_as, by decide +kernel, by decide +kernel, by decide +kernel⟩, inst_yX9_as, sel_RX9_yX9_as⟩
theorem pk_yX9_placeOf : sf_PkV yX9_placeOf cX9_placeOf 3 (some .int) 2 := ⟨⟨ini_RX9, code_yX9_placeOf, by decide +kernel, by decide +kernel, by decide +kernel⟩, inst_yX9_placeOf, sel_RX9_yX9_placeOf⟩
theorem pk_yX9_whole : sf_PkV yX9_whole cX9_whole 1 (some .long) 0 := ⟨⟨ini_RX9, code_yX9_whole, by decide +kernel, by decide +kernel, by decide +kernel⟩, inst_yX9_whole, sel_RX9_yX9_whole⟩
theorem pk_yX9_make : sf_PkV yX9_make cX9_make 4 (some .int) 3 := ⟨⟨ini_RX9, code_yX9_make, by decide +kernel, by decide +kernel, by decide +kernel⟩, inst_yX9_make, sel_RX9_yX9_make⟩
theorem pk_yX9_reach : sf_PkV yX9_reach cX9_reach 1 (some .int) 0 := ⟨⟨ini_RX9, code_yX9_reach, by decide +kernel, by decide +kernel, by decide +kernel⟩, inst_yX9_reach, sel_RX9_yX9_reach⟩
theorem pk_yX9_faults : sf_PkV yX9_faults cX9_faults 4 (some .long) 0 := ⟨⟨ini_RX9, code_yX9_faults, by decide +kernel, by decide +kernel, by decide +kernel⟩, inst_yX9_faults, sel_RX9_yX9_faults⟩
theorem pk_yX9_years : sf_PkV yX9_years cX9_years 3 (some .int) 1 := ⟨⟨ini_RX9, code_yX9_years, by decide +kernel, by decide +kernel, by decide +kernel⟩, inst_yX9_years, sel_RX9_yX9_years⟩
theorem pk_yX9_seed : sf_PkV yX9_seed cX9_seed 3 (some .int) 1 := ⟨⟨ini_RX9, code_yX9_seed, by decide +kernel, by decide +kernel, by decide +kernel⟩, inst_yX9_seed, sel_RX9_yX9_seed⟩
theorem pk_yX9_now : sf_PkV yX9_now cX9_now 2 (some .int) 1 := ⟨⟨ini_RX9, code_yX9_now, by decide +kernel, by decide +kernel, by decide +kernel⟩, inst_yX9_now, sel_RX9_yX9_now⟩
theorem pk_yX9_on : sf_PkV yX9_on cX9_on 3 (some .long) 1 := ⟨⟨ini_RX9, code_yX9_on, by decide +kernel, by decide +kernel, by decide +kernel⟩, inst_yX9_on, sel_RX9_yX9_on⟩
theorem pk_yX9_reachOn : sf_PkV yX9_reachOn cX9_reachOn 3 (some .int) 1 := ⟨⟨ini_RX9, code_yX9_reachOn, by decide +kernel, by decide +kernel, by decide +kernel⟩, inst_yX9_reachOn, sel_RX9_yX9_reachOn⟩
theorem pk_yX9_pass : sf_PkV yX9_pass cX9_pass 2 (some .int) 0 := ⟨⟨ini_RX9, code_yX9_pass, by decide +kernel, by decide +kernel, by decide +kernel⟩, inst_yX9_pass, sel_RX9_yX9_pass⟩
theorem pk_yX9_paid : sf_PkV yX9_paid cX9_paid 3 (some .int) 1 := ⟨⟨ini_RX9, code_yX9_paid, by decide +kernel, by decide +kernel, by decide +kernel⟩, inst_yX9_paid, sel_RX9_yX9_paid⟩
theorem pk_yX9_farthest : sf_PkV yX9_farthest cX9_farthest 5 (some .int) 1 := ⟨⟨ini_RX9, code_yX9_farthest, by decide +kernel, by decide +kernel, by decide +kernel⟩, inst_yX9_farthest, sel_RX9_yX9_farthest⟩
theorem pk_yX9_best : sf_PkV yX9_best cX9_best 9 (some .int) 2 := ⟨⟨ini_RX9, code_yX9_best, by decide +kernel, by decide +kernel, by decide +kernel⟩, inst_yX9_best, sel_RX9_yX9_best⟩
theorem pk_yX9_kind : sf_PkV yX9_kind cX9_kind 8 (some .int) 2 := ⟨⟨ini_RX9, code_yX9_kind, by decide +kernel, by decide +kernel, by decide +kernel⟩, inst_yX9_kind, sel_RX9_yX9_kind⟩
theorem pk_yX9_mend : sf_PkV yX9_mend cX9_mend 2 (some .int) 0 := ⟨⟨ini_RX9, code_yX9_mend, by decide +kernel, by decide +kernel, by decide +kernel⟩, inst_yX9_mend, sel_RX9_yX9_mend⟩
theorem pk_yX9_needed : sf_PkV yX9_needed cX9_needed 7 (some .int) 1 := ⟨⟨ini_RX9, code_yX9_needed, by decide +kernel, by decide +kernel, by decide +kernel⟩, inst_yX9_needed, sel_RX9_yX9_needed⟩
theorem pk_yX9_steepest : sf_PkV yX9_steepest cX9_steepest 5 (some .int) 0 := ⟨⟨ini_RX9, code_yX9_steepest, by decide +kernel, by decide +kernel, by decide +kernel⟩, inst_yX9_steepest, sel_RX9_yX9_steepest⟩
theorem pk_yX9_whose : sf_PkV yX9_whose cX9_whose 5 (some .int) 2 := ⟨⟨ini_RX9, code_yX9_whose, by decide +kernel, by decide +kernel, by decide +kernel⟩, inst_yX9_whose, sel_RX9_yX9_whose⟩
theorem pk_yX9_bears : sf_PkV yX9_bears cX9_bears 4 (some .int) 1 := ⟨⟨ini_RX9, code_yX9_bears, by decide +kernel, by decide +kernel, by decide +kernel⟩, inst_yX9_bears, sel_RX9_yX9_bears⟩
theorem pk_yX9_meetsFor : sf_PkV yX9_meetsFor cX9_meetsFor 3 (some .int) 1 := ⟨⟨ini_RX9, code_yX9_meetsFor, by decide +kernel, by decide +kernel, by decide +kernel⟩, inst_yX9_meetsFor, sel_RX9_yX9_meetsFor⟩
theorem pk_yX9_alone : sf_PkV yX9_alone cX9_alone 5 (some .int) 1 := ⟨⟨ini_RX9, code_yX9_alone, by decide +kernel, by decide +kernel, by decide +kernel⟩, inst_yX9_alone, sel_RX9_yX9_alone⟩
theorem pk_yX9_feed : sf_PkV yX9_feed cX9_feed 4 (some .int) 2 := ⟨⟨ini_RX9, code_yX9_feed, by decide +kernel, by decide +kernel, by decide +kernel⟩, inst_yX9_feed, sel_RX9_yX9_feed⟩
theorem pk_yX9_wipe : sf_PkV yX9_wipe cX9_wipe 2 (some .int) 0 := ⟨⟨ini_RX9, code_yX9_wipe, by decide +kernel, by decide +kernel, by decide +kernel⟩, inst_yX9_wipe, sel_RX9_yX9_wipe⟩
theorem pk_yX9_court : sf_PkV yX9_court cX9_court 2 (some .int) 0 := ⟨⟨ini_RX9, code_yX9_court, by decide +kernel, by decide +kernel, by decide +kernel⟩, inst_yX9_court, sel_RX9_yX9_court⟩
theorem pk_yX9_sheet : sf_PkV yX9_sheet cX9_sheet 4 (some .int) 3 := ⟨⟨ini_RX9, code_yX9_sheet, by decide +kernel, by decide +kernel, by decide +kernel⟩, inst_yX9_sheet, sel_RX9_yX9_sheet⟩
theorem pk_yX9_write : sf_PkV yX9_write cX9_write 8 (some .long) 3 := ⟨⟨ini_RX9, code_yX9_write, by decide +kernel, by decide +kernel, by decide +kernel⟩, inst_yX9_write, sel_RX9_yX9_write⟩
theorem pk_yX9_copy : sf_PkV yX9_copy cX9_copy 8 (some .int) 5 := ⟨⟨ini_RX9, code_yX9_copy, by decide +kernel, by decide +kernel, by decide +kernel⟩, inst_yX9_copy, sel_RX9_yX9_copy⟩
theorem pk_yX9_lays : sf_PkV yX9_lays cX9_lays 7 (some .int) 1 := ⟨⟨ini_RX9, code_yX9_lays, by decide +kernel, by decide +kernel, by decide +kernel⟩, inst_yX9_lays, sel_RX9_yX9_lays⟩
theorem pk_yX9_stair : sf_PkV yX9_stair cX9_stair 7 (some .int) 2 := ⟨⟨ini_RX9, code_yX9_stair, by decide +kernel, by decide +kernel, by decide +kernel⟩, inst_yX9_stair, sel_RX9_yX9_stair⟩
theorem pk_yX9_read : sf_PkV yX9_read cX9_read 4 (some .int) 1 := ⟨⟨ini_RX9, code_yX9_read, by decide +kernel, by decide +kernel, by decide +kernel⟩, inst_yX9_read, sel_RX9_yX9_read⟩
theorem pk_yX9_image : sf_PkV yX9_image cX9_image 1 (some .int) 0 := ⟨⟨ini_RX9, code_yX9_image, by decide +kernel, by decide +kernel, by decide +kernel⟩, inst_yX9_image, sel_RX9_yX9_image⟩
theorem pk_yX9_undo : sf_PkV yX9_undo cX9_undo 1 (some .int) 0 := ⟨⟨ini_RX9, code_yX9_undo, by decide +kernel, by decide +kernel, by decide +kernel⟩, inst_yX9_undo, sel_RX9_yX9_undo⟩
theorem pk_yX9_tear : sf_PkV yX9_tear cX9_tear 2 (some .int) 0 := ⟨⟨ini_RX9, code_yX9_tear, by decide +kernel, by decide +kernel, by decide +kernel⟩, inst_yX9_tear, sel_RX9_yX9_tear⟩
theorem pk_yX9_count : sf_PkV yX9_count cX9_count 2 (some .int) 1 := ⟨⟨ini_RX9, code_yX9_count, by decide +kernel, by decide +kernel, by decide +kernel⟩, inst_yX9_count, sel_RX9_yX9_count⟩
theorem pk_yX9_status : sf_PkV yX9_status cX9_status 4 (some .int) 1 := ⟨⟨ini_RX9, code_yX9_status, by decide +kernel, by decide +kernel, by decide +kernel⟩, inst_yX9_status, sel_RX9_yX9_status⟩
theorem pk_yX9_found : sf_PkV yX9_found cX9_found 2 (some .int) 1 := ⟨⟨ini_RX9, code_yX9_found, by decide +kernel, by decide +kernel, by decide +kernel⟩, inst_yX9_found, sel_RX9_yX9_found⟩
theorem pk_yX9_isTooLateFor : sf_PkV yX9_isTooLateFor cX9_isTooLateFor 2 (some .boolean) 1 := ⟨⟨ini_RX9, code_yX9_isTooLateFor, by decide +kernel, by decide +kernel, by decide +kernel⟩, inst_yX9_isTooLateFor, sel_RX9_yX9_isTooLateFor⟩
theorem pk_yX9_againstYears : sf_PkV yX9_againstYears cX9_againstYears 4 (some .int) 3 := ⟨⟨ini_RX9, code_yX9_againstYears, by decide +kernel, by decide +kernel, by decide +kernel⟩, inst_yX9_againstYears, sel_RX9_yX9_againstYears⟩
theorem pk_yX9_startTrial : sf_PkV yX9_startTrial cX9_startTrial 1 none 0 := ⟨⟨ini_RX9, code_yX9_startTrial, by decide +kernel, by decide +kernel, by decide +kernel⟩, inst_yX9_startTrial, sel_RX9_yX9_startTrial⟩
theorem pk_yX9_isWithin : sf_PkS yX9_isWithin cX9_isWithin 3 (some .boolean) 3 := ⟨⟨ini_RX9, code_yX9_isWithin, by decide +kernel, by decide +kernel, by decide +kernel⟩, stat_yX9_isWithin⟩
theorem pk_yX9_isPlace : sf_PkS yX9_isPlace cX9_isPlace 1 (some .boolean) 1 := ⟨⟨ini_RX9, code_yX9_isPlace, by decide +kernel, by decide +kernel, by decide +kernel⟩, stat_yX9_isPlace⟩
theorem pk_yX9_isKind : sf_PkS yX9_isKind cX9_isKind 1 (some .boolean) 1 := ⟨⟨ini_RX9, code_yX9_isKind, by decide +kernel, by decide +kernel, by decide +kernel⟩, stat_yX9_isKind⟩
theorem pk_yX9_isSheet : sf_PkS yX9_isSheet cX9_isSheet 1 (some .boolean) 1 := ⟨⟨ini_RX9, code_yX9_isSheet, by decide +kernel, by decide +kernel, by decide +kernel⟩, stat_yX9_isSheet⟩
theorem pk_yX9_isOfKind : sf_PkS yX9_isOfKind cX9_isOfKind 2 (some .boolean) 2 := ⟨⟨ini_RX9, code_yX9_isOfKind, by decide +kernel, by decide +kernel, by decide +kernel⟩, stat_yX9_isOfKind⟩
theorem pk_yX10_init : sf_Pk yX10_init cX10_init 2 none 0 := ⟨ini_RX10, code_yX10_init, by decide +kernel, by decide +kernel, by decide +kernel⟩
theorem pk_yX10_in : sf_PkS yX10_in cX10_in 3 (some .boolean) 3 := ⟨⟨ini_RX10, code_yX10_in, by decide +kernel, by decide +kernel, by decide +kernel⟩, stat_yX10_in⟩
theorem pk_yX10_finds : sf_PkV yX10_finds cX10_finds 2 (some .int) 1 := ⟨⟨ini_RX10, code_yX10_finds, by decide +kernel, by decide +kernel, by decide +kernel⟩, inst_yX10_finds, sel_RX10_yX10_finds⟩
theorem pk_yX10_its : sf_PkV yX10_its cX10_its 2 (some .int) 1 := ⟨⟨ini_RX10, code_yX10_its, by decide +kernel, by decide +kernel, by decide +kernel⟩, inst_yX10_its, sel_RX10_yX10_its⟩
theorem pk_yX10_fineOf : sf_PkV yX10_fineOf cX10_fineOf 3 (some .int) 2 := ⟨⟨ini_RX10, code_yX10_fineOf, by decide +kernel, by decide +kernel, by decide +kernel⟩, inst_yX10_fineOf, sel_RX10_yX10_fineOf⟩
theorem pk_yX10_sets : sf_PkV yX10_sets cX10_sets 4 none 3 := ⟨⟨ini_RX10, code_yX10_sets, by decide +kernel, by decide +kernel, by decide +kernel⟩, inst_yX10_sets, sel_RX10_yX10_sets⟩
theorem pk_yX10_isFine : sf_PkV yX10_isFine cX10_isFine 2 (some .boolean) 1 := ⟨⟨ini_RX10, code_yX10_isFine, by decide +kernel, by decide +kernel, by decide +kernel⟩, inst_yX10_isFine, sel_RX10_yX10_isFine⟩
theorem pk_yX10_isPlace : sf_PkS yX10_isPlace cX10_isPlace 1 (some .boolean) 1 := ⟨⟨ini_RX10, code_yX10_isPlace, by decide +kernel, by decide +kernel, by decide +kernel⟩, stat_yX10_isPlace⟩
theorem pk_yX10_isKind : sf_PkS yX10_isKind cX10_isKind 1 (some .boolean) 1 := ⟨⟨ini_RX10, code_yX10_isKind, by decide +kernel, by decide +kernel, by decide +kernel⟩, stat_yX10_isKind⟩
theorem pk_yX10_isWhole : sf_PkV yX10_isWhole cX10_isWhole 2 (some .boolean) 1 := ⟨⟨ini_RX10, code_yX10_isWhole, by decide +kernel, by decide +kernel, by decide +kernel⟩, inst_yX10_isWhole, sel_RX10_yX10_isWhole⟩
theorem pk_yX10_wholes : sf_PkV yX10_wholes cX10_wholes 3 (some .int) 0 := ⟨⟨ini_RX10, code_yX10_wholes, by decide +kernel, by decide +kernel, by decide +kernel⟩, inst_yX10_wholes, sel_RX10_yX10_wholes⟩
theorem pk_yX10_works : sf_PkV yX10_works cX10_works 3 (some .int) 1 := ⟨⟨ini_RX10, code_yX10_works, by decide +kernel, by decide +kernel, by decide +kernel⟩, inst_yX10_works, sel_RX10_yX10_works⟩
theorem pk_yX10_highAt : sf_PkV yX10_highAt cX10_highAt 4 (some .int) 2 := ⟨⟨ini_RX10, code_yX10_highAt, by decide +kernel, by decide +kernel, by decide +kernel⟩, inst_yX10_highAt, sel_RX10_yX10_highAt⟩
theorem pk_yX10_rock : sf_PkV yX10_rock cX10_rock 4 (some .int) 2 := ⟨⟨ini_RX10, code_yX10_rock, by decide +kernel, by decide +kernel, by decide +kernel⟩, inst_yX10_rock, sel_RX10_yX10_rock⟩
theorem pk_yX10_let : sf_PkV yX10_let cX10_let 4 (some .int) 2 := ⟨⟨ini_RX10, code_yX10_let, by decide +kernel, by decide +kernel, by decide +kernel⟩, inst_yX10_let, sel_RX10_yX10_let⟩
theorem pk_yX10_addFine : sf_PkV yX10_addFine cX10_addFine 6 none 4 := ⟨⟨ini_RX10, code_yX10_addFine, by decide +kernel, by decide +kernel, by decide +kernel⟩, inst_yX10_addFine, sel_RX10_yX10_addFine⟩
theorem pk_yX10_fine : sf_PkV yX10_fine cX10_fine 4 (some .int) 3 := ⟨⟨ini_RX10, code_yX10_fine, by decide +kernel, by decide +kernel, by decide +kernel⟩, inst_yX10_fine, sel_RX10_yX10_fine⟩
theorem pk_yX10_cutBy : sf_PkV yX10_cutBy cX10_cutBy 4 (some .int) 1 := ⟨⟨ini_RX10, code_yX10_cutBy, by decide +kernel, by decide +kernel, by decide +kernel⟩, inst_yX10_cutBy, sel_RX10_yX10_cutBy⟩
theorem pk_yX10_of : sf_PkV yX10_of cX10_of 3 (some .int) 2 := ⟨⟨ini_RX10, code_yX10_of, by decide +kernel, by decide +kernel, by decide +kernel⟩, inst_yX10_of, sel_RX10_yX10_of⟩
theorem pk_yX10_isPart : sf_PkS yX10_isPart cX10_isPart 2 (some .boolean) 2 := ⟨⟨ini_RX10, code_yX10_isPart, by decide +kernel, by decide +kernel, by decide +kernel⟩, stat_yX10_isPart⟩
theorem pk_yX10_set : sf_PkV yX10_set cX10_set 5 (some .int) 3 := ⟨⟨ini_RX10, code_yX10_set, by decide +kernel, by decide +kernel, by decide +kernel⟩, inst_yX10_set, sel_RX10_yX10_set⟩
theorem pk_yX10_turn : sf_PkV yX10_turn cX10_turn 4 (some .int) 2 := ⟨⟨ini_RX10, code_yX10_turn, by decide +kernel, by decide +kernel, by decide +kernel⟩, inst_yX10_turn, sel_RX10_yX10_turn⟩
theorem pk_yX10_isUnder : sf_PkS yX10_isUnder cX10_isUnder 2 (some .boolean) 2 := ⟨⟨ini_RX10, code_yX10_isUnder, by decide +kernel, by decide +kernel, by decide +kernel⟩, stat_yX10_isUnder⟩
theorem pk_yX10_as : sf_PkV yX10_as cX10_as 3 (some .int) 2 := ⟨⟨ini_RX10, code_yX10_as, by decide +kernel, by decide +kernel, by decide +kernel⟩, inst_yX10_as, sel_RX10_yX10_as⟩
theorem pk_yX10_placeOf : sf_PkV yX10_placeOf cX10_placeOf 3 (some .int) 2 := ⟨⟨ini_RX10, code_yX10_placeOf, by decide +kernel, by decide +kernel, by decide +kernel⟩, inst_yX10_placeOf, sel_RX10_yX10_placeOf⟩
theorem pk_yX10_wholeSet : sf_PkV yX10_wholeSet cX10_wholeSet 4 (some .long) 0 := ⟨⟨ini_RX10, code_yX10_wholeSet, by decide +kernel, by decide +kernel, by decide +kernel⟩, inst_yX10_wholeSet, sel_RX10_yX10_wholeSet⟩
theorem pk_yX10_whole : sf_PkV yX10_whole cX10_whole 1 (some .long) 0 := ⟨⟨ini_RX10, code_yX10_whole, by decide +kernel, by decide +kernel, by decide +kernel⟩, inst_yX10_whole, sel_RX10_yX10_whole⟩
theorem pk_yX10_cuts : sf_PkV yX10_cuts cX10_cuts 4 none 3 := ⟨⟨ini_RX10, code_yX10_cuts, by decide +kernel, by decide +kernel, by decide +kernel⟩, inst_yX10_cuts, sel_RX10_yX10_cuts⟩
theorem pk_yX10_breaks : sf_PkV yX10_breaks cX10_breaks 2 none 1 := ⟨⟨ini_RX10, code_yX10_breaks, by decide +kernel, by decide +kernel, by decide +kernel⟩, inst_yX10_breaks, sel_RX10_yX10_breaks⟩
theorem pk_yX10_make : sf_PkV yX10_make cX10_make 4 (some .int) 3 := ⟨⟨ini_RX10, code_yX10_make, by decide +kernel, by decide +kernel, by decide +kernel⟩, inst_yX10_make, sel_RX10_yX10_make⟩
theorem pk_yX10_rises : sf_PkV yX10_rises cX10_rises 2 (some .int) 1 := ⟨⟨ini_RX10, code_yX10_rises, by decide +kernel, by decide +kernel, by decide +kernel⟩, inst_yX10_rises, sel_RX10_yX10_rises⟩
theorem pk_yX10_meets : sf_PkV yX10_meets cX10_meets 2 (some .boolean) 1 := ⟨⟨ini_RX10, code_yX10_meets, by decide +kernel, by decide +kernel, by decide +kernel⟩, inst_yX10_meets, sel_RX10_yX10_meets⟩
theorem pk_yX10_reachNow : sf_PkV yX10_reachNow cX10_reachNow 2 (some .int) 0 := ⟨⟨ini_RX10, code_yX10_reachNow, by decide +kernel, by decide +kernel, by decide +kernel⟩, inst_yX10_reachNow, sel_RX10_yX10_reachNow⟩
theorem pk_yX10_reach : sf_PkV yX10_reach cX10_reach 1 (some .int) 0 := ⟨⟨ini_RX10, code_yX10_reach, by decide +kernel, by decide +kernel, by decide +kernel⟩, inst_yX10_reach, sel_RX10_yX10_reach⟩
theorem pk_yX10_areBoth : sf_PkV yX10_areBoth cX10_areBoth 2 (some .boolean) 1 := ⟨⟨ini_RX10, code_yX10_areBoth, by decide +kernel, by decide +kernel, by decide +kernel⟩, inst_yX10_areBoth, sel_RX10_yX10_areBoth⟩
theorem pk_yX10_faults : sf_PkV yX10_faults cX10_faults 4 (some .long) 0 := ⟨⟨ini_RX10, code_yX10_faults, by decide +kernel, by decide +kernel, by decide +kernel⟩, inst_yX10_faults, sel_RX10_yX10_faults⟩
theorem pk_yX10_serves : sf_PkV yX10_serves cX10_serves 5 none 1 := ⟨⟨ini_RX10, code_yX10_serves, by decide +kernel, by decide +kernel, by decide +kernel⟩, inst_yX10_serves, sel_RX10_yX10_serves⟩
theorem pk_yX10_freezes : sf_PkV yX10_freezes cX10_freezes 3 none 0 := ⟨⟨ini_RX10, code_yX10_freezes, by decide +kernel, by decide +kernel, by decide +kernel⟩, inst_yX10_freezes, sel_RX10_yX10_freezes⟩
theorem pk_yX10_yearGoes : sf_PkV yX10_yearGoes cX10_yearGoes 2 none 0 := ⟨⟨ini_RX10, code_yX10_yearGoes, by decide +kernel, by decide +kernel, by decide +kernel⟩, inst_yX10_yearGoes, sel_RX10_yX10_yearGoes⟩
theorem pk_yX10_go : sf_PkV yX10_go cX10_go 3 none 1 := ⟨⟨ini_RX10, code_yX10_go, by decide +kernel, by decide +kernel, by decide +kernel⟩, inst_yX10_go, sel_RX10_yX10_go⟩
theorem pk_yX10_isLate : sf_PkV yX10_isLate cX10_isLate 2 (some .boolean) 1 := ⟨⟨ini_RX10, code_yX10_isLate, by decide +kernel, by decide +kernel, by decide +kernel⟩, inst_yX10_isLate, sel_RX10_yX10_isLate⟩
theorem pk_yX10_years : sf_PkV yX10_years cX10_years 2 (some .int) 1 := ⟨⟨ini_RX10, code_yX10_years, by decide +kernel, by decide +kernel, by decide +kernel⟩, inst_yX10_years, sel_RX10_yX10_years⟩
theorem pk_yX10_seed : sf_PkV yX10_seed cX10_seed 3 (some .int) 1 := ⟨⟨ini_RX10, code_yX10_seed, by decide +kernel, by decide +kernel, by decide +kernel⟩, inst_yX10_seed, sel_RX10_yX10_seed⟩
theorem pk_yX10_now : sf_PkV yX10_now cX10_now 4 (some .int) 1 := ⟨⟨ini_RX10, code_yX10_now, by decide +kernel, by decide +kernel, by decide +kernel⟩, inst_yX10_now, sel_RX10_yX10_now⟩
theorem pk_yX10_lends : sf_PkV yX10_lends cX10_lends 2 none 0 := ⟨⟨ini_RX10, code_yX10_lends, by decide +kernel, by decide +kernel, by decide +kernel⟩, inst_yX10_lends, sel_RX10_yX10_lends⟩
theorem pk_yX10_isLong : sf_PkS yX10_isLong cX10_isLong 1 (some .boolean) 1 := ⟨⟨ini_RX10, code_yX10_isLong, by decide +kernel, by decide +kernel, by decide +kernel⟩, stat_yX10_isLong⟩
theorem pk_yX10_on : sf_PkV yX10_on cX10_on 4 (some .long) 1 := ⟨⟨ini_RX10, code_yX10_on, by decide +kernel, by decide +kernel, by decide +kernel⟩, inst_yX10_on, sel_RX10_yX10_on⟩
theorem pk_yX10_reachOn : sf_PkV yX10_reachOn cX10_reachOn 3 (some .int) 1 := ⟨⟨ini_RX10, code_yX10_reachOn, by decide +kernel, by decide +kernel, by decide +kernel⟩, inst_yX10_reachOn, sel_RX10_yX10_reachOn⟩
theorem pk_yX10_pass : sf_PkV yX10_pass cX10_pass 2 (some .int) 0 := ⟨⟨ini_RX10, code_yX10_pass, by decide +kernel, by decide +kernel, by decide +kernel⟩, inst_yX10_pass, sel_RX10_yX10_pass⟩
theorem pk_yX10_paid : sf_PkV yX10_paid cX10_paid 3 (some .int) 1 := ⟨⟨ini_RX10, code_yX10_paid, by decide +kernel, by decide +kernel, by decide +kernel⟩, inst_yX10_paid, sel_RX10_yX10_paid⟩
theorem pk_yX10_farthest : sf_PkV yX10_farthest cX10_farthest 5 (some .int) 1 := ⟨⟨ini_RX10, code_yX10_farthest, by decide +kernel, by decide +kernel, by decide +kernel⟩, inst_yX10_farthest, sel_RX10_yX10_farthest⟩
theorem pk_yX10_isSoon : sf_PkS yX10_isSoon cX10_isSoon 1 (some .boolean) 1 := ⟨⟨ini_RX10, code_yX10_isSoon, by decide +kernel, by decide +kernel, by decide +kernel⟩, stat_yX10_isSoon⟩
theorem pk_yX10_reachThen : sf_PkV yX10_reachThen cX10_reachThen 3 (some .int) 1 := ⟨⟨ini_RX10, code_yX10_reachThen, by decide +kernel, by decide +kernel, by decide +kernel⟩, inst_yX10_reachThen, sel_RX10_yX10_reachThen⟩
theorem pk_yX10_best : sf_PkV yX10_best cX10_best 8 (some .int) 2 := ⟨⟨ini_RX10, code_yX10_best, by decide +kernel, by decide +kernel, by decide +kernel⟩, inst_yX10_best, sel_RX10_yX10_best⟩
theorem pk_yX10_kind : sf_PkV yX10_kind cX10_kind 7 (some .int) 2 := ⟨⟨ini_RX10, code_yX10_kind, by decide +kernel, by decide +kernel, by decide +kernel⟩, inst_yX10_kind, sel_RX10_yX10_kind⟩
theorem pk_yX10_mend : sf_PkV yX10_mend cX10_mend 5 (some .int) 0 := ⟨⟨ini_RX10, code_yX10_mend, by decide +kernel, by decide +kernel, by decide +kernel⟩, inst_yX10_mend, sel_RX10_yX10_mend⟩
theorem pk_yX10_needed : sf_PkV yX10_needed cX10_needed 6 (some .int) 1 := ⟨⟨ini_RX10, code_yX10_needed, by decide +kernel, by decide +kernel, by decide +kernel⟩, inst_yX10_needed, sel_RX10_yX10_needed⟩
theorem pk_yX10_steepest : sf_PkV yX10_steepest cX10_steepest 3 (some .int) 0 := ⟨⟨ini_RX10, code_yX10_steepest, by decide +kernel, by decide +kernel, by decide +kernel⟩, inst_yX10_steepest, sel_RX10_yX10_steepest⟩
theorem pk_yX10_whose : sf_PkV yX10_whose cX10_whose 5 (some .int) 2 := ⟨⟨ini_RX10, code_yX10_whose, by decide +kernel, by decide +kernel, by decide +kernel⟩, inst_yX10_whose, sel_RX10_yX10_whose⟩
theorem pk_yX10_bears : sf_PkV yX10_bears cX10_bears 4 (some .int) 1 := ⟨⟨ini_RX10, code_yX10_bears, by decide +kernel, by decide +kernel, by decide +kernel⟩, inst_yX10_bears, sel_RX10_yX10_bears⟩
theorem pk_yX10_meetsFor : sf_PkV yX10_meetsFor cX10_meetsFor 5 (some .int) 1 := ⟨⟨ini_RX10, code_yX10_meetsFor, by decide +kernel, by decide +kernel, by decide +kernel⟩, inst_yX10_meetsFor, sel_RX10_yX10_meetsFor⟩
theorem pk_yX10_alone : sf_PkV yX10_alone cX10_alone 5 (some .int) 1 := ⟨⟨ini_RX10, code_yX10_alone, by decide +kernel, by decide +kernel, by decide +kernel⟩, inst_yX10_alone, sel_RX10_yX10_alone⟩
theorem pk_yX10_feed : sf_PkV yX10_feed cX10_feed 4 (some .int) 2 := ⟨⟨ini_RX10, code_yX10_feed, by decide +kernel, by decide +kernel, by decide +kernel⟩, inst_yX10_feed, sel_RX10_yX10_feed⟩
theorem pk_yX10_wipe : sf_PkV yX10_wipe cX10_wipe 2 (some .int) 0 := ⟨⟨ini_RX10, code_yX10_wipe, by decide +kernel, by decide +kernel, by decide +kernel⟩, inst_yX10_wipe, sel_RX10_yX10_wipe⟩
theorem pk_yX10_byteAt : sf_PkV yX10_byteAt cX10_byteAt 2 (some .int) 1 := ⟨⟨ini_RX10, code_yX10_byteAt, by decide +kernel, by decide +kernel, by decide +kernel⟩, inst_yX10_byteAt, sel_RX10_yX10_byteAt⟩
theorem pk_yX10_isLetter : sf_PkS yX10_isLetter cX10_isLetter 1 (some .boolean) 1 := ⟨⟨ini_RX10, code_yX10_isLetter, by decide +kernel, by decide +kernel, by decide +kernel⟩, stat_yX10_isLetter⟩
theorem pk_yX10_isDigit : sf_PkS yX10_isDigit cX10_isDigit 1 (some .boolean) 1 := ⟨⟨ini_RX10, code_yX10_isDigit, by decide +kernel, by decide +kernel, by decide +kernel⟩, stat_yX10_isDigit⟩
theorem pk_yX10_advance : sf_PkV yX10_advance cX10_advance 2 none 0 := ⟨⟨ini_RX10, code_yX10_advance, by decide +kernel, by decide +kernel, by decide +kernel⟩, inst_yX10_advance, sel_RX10_yX10_advance⟩
theorem pk_yX10_isWord : sf_PkV yX10_isWord cX10_isWord 3 (some .boolean) 1 := ⟨⟨ini_RX10, code_yX10_isWord, by decide +kernel, by decide +kernel, by decide +kernel⟩, inst_yX10_isWord, sel_RX10_yX10_isWord⟩
theorem pk_yX10_kindHere : sf_PkV yX10_kindHere cX10_kindHere 1 (some .int) 0 := ⟨⟨ini_RX10, code_yX10_kindHere, by decide +kernel, by decide +kernel, by decide +kernel⟩, inst_yX10_kindHere, sel_RX10_yX10_kindHere⟩
theorem pk_yX10_wantNumber : sf_PkV yX10_wantNumber cX10_wantNumber 4 (some .int) 2 := ⟨⟨ini_RX10, code_yX10_wantNumber, by decide +kernel, by decide +kernel, by decide +kernel⟩, inst_yX10_wantNumber, sel_RX10_yX10_wantNumber⟩
theorem pk_yX10_mayWant : sf_PkV yX10_mayWant cX10_mayWant 6 (some .int) 4 := ⟨⟨ini_RX10, code_yX10_mayWant, by decide +kernel, by decide +kernel, by decide +kernel⟩, inst_yX10_mayWant, sel_RX10_yX10_mayWant⟩
theorem pk_yX10_wantWord : sf_PkV yX10_wantWord cX10_wantWord 3 none 1 := ⟨⟨ini_RX10, code_yX10_wantWord, by decide +kernel, by decide +kernel, by decide +kernel⟩, inst_yX10_wantWord, sel_RX10_yX10_wantWord⟩
theorem pk_yX10_wantFine : sf_PkV yX10_wantFine cX10_wantFine 5 none 1 := ⟨⟨ini_RX10, code_yX10_wantFine, by decide +kernel, by decide +kernel, by decide +kernel⟩, inst_yX10_wantFine, sel_RX10_yX10_wantFine⟩
theorem pk_yX10_wantRock : sf_PkV yX10_wantRock cX10_wantRock 5 none 0 := ⟨⟨ini_RX10, code_yX10_wantRock, by decide +kernel, by decide +kernel, by decide +kernel⟩, inst_yX10_wantRock, sel_RX10_yX10_wantRock⟩
theorem pk_yX10_wantLet : sf_PkV yX10_wantLet cX10_wantLet 4 none 2 := ⟨⟨ini_RX10, code_yX10_wantLet, by decide +kernel, by decide +kernel, by decide +kernel⟩, inst_yX10_wantLet, sel_RX10_yX10_wantLet⟩
theorem pk_yX10_wantItem : sf_PkV yX10_wantItem cX10_wantItem 1 none 0 := ⟨⟨ini_RX10, code_yX10_wantItem, by decide +kernel, by decide +kernel, by decide +kernel⟩, inst_yX10_wantItem, sel_RX10_yX10_wantItem⟩
theorem pk_yX10_court : sf_PkV yX10_court cX10_court 3 (some .int) 0 := ⟨⟨ini_RX10, code_yX10_court, by decide +kernel, by decide +kernel, by decide +kernel⟩, inst_yX10_court, sel_RX10_yX10_court⟩
theorem pk_yX10_isSheet : sf_PkS yX10_isSheet cX10_isSheet 1 (some .boolean) 1 := ⟨⟨ini_RX10, code_yX10_isSheet, by decide +kernel, by decide +kernel, by decide +kernel⟩, stat_yX10_isSheet⟩
theorem pk_yX10_narrow : sf_PkS yX10_narrow cX10_narrow 3 (some .long) 2 := ⟨⟨ini_RX10, code_yX10_narrow, by decide +kernel, by decide +kernel, by decide +kernel⟩, stat_yX10_narrow⟩
theorem pk_yX10_sheet : sf_PkV yX10_sheet cX10_sheet 5 (some .int) 3 := ⟨⟨ini_RX10, code_yX10_sheet, by decide +kernel, by decide +kernel, by decide +kernel⟩, inst_yX10_sheet, sel_RX10_yX10_sheet⟩
theorem pk_yX10_write : sf_PkV yX10_write cX10_write 7 (some .long) 3 := ⟨⟨ini_RX10, code_yX10_write, by decide +kernel, by decide +kernel, by decide +kernel⟩, inst_yX10_write, sel_RX10_yX10_write⟩
theorem pk_yX10_isPart_ : sf_PkV yX10_isPart_ cX10_isPart_ 4 (some .boolean) 3 := ⟨⟨ini_RX10, code_yX10_isPart_, by decide +kernel, by decide +kernel, by decide +kernel⟩, inst_yX10_isPart_, sel_RX10_yX10_isPart_⟩
theorem pk_yX10_copy : sf_PkV yX10_copy cX10_copy 7 (some .int) 5 := ⟨⟨ini_RX10, code_yX10_copy, by decide +kernel, by decide +kernel, by decide +kernel⟩, inst_yX10_copy, sel_RX10_yX10_copy⟩
theorem pk_yX10_lays : sf_PkV yX10_lays cX10_lays 6 (some .int) 1 := ⟨⟨ini_RX10, code_yX10_lays, by decide +kernel, by decide +kernel, by decide +kernel⟩, inst_yX10_lays, sel_RX10_yX10_lays⟩
theorem pk_yX10_stair : sf_PkV yX10_stair cX10_stair 5 (some .int) 2 := ⟨⟨ini_RX10, code_yX10_stair, by decide +kernel, by decide +kernel, by decide +kernel⟩, inst_yX10_stair, sel_RX10_yX10_stair⟩
theorem pk_yX10_read : sf_PkV yX10_read cX10_read 5 (some .int) 1 := ⟨⟨ini_RX10, code_yX10_read, by decide +kernel, by decide +kernel, by decide +kernel⟩, inst_yX10_read, sel_RX10_yX10_read⟩
theorem pk_yX10_moveAll : sf_PkV yX10_moveAll cX10_moveAll 4 none 2 := ⟨⟨ini_RX10, code_yX10_moveAll, by decide +kernel, by decide +kernel, by decide +kernel⟩, inst_yX10_moveAll, sel_RX10_yX10_moveAll⟩
theorem pk_yX10_image : sf_PkV yX10_image cX10_image 1 (some .int) 0 := ⟨⟨ini_RX10, code_yX10_image, by decide +kernel, by decide +kernel, by decide +kernel⟩, inst_yX10_image, sel_RX10_yX10_image⟩
theorem pk_yX10_undo : sf_PkV yX10_undo cX10_undo 1 (some .int) 0 := ⟨⟨ini_RX10, code_yX10_undo, by decide +kernel, by decide +kernel, by decide +kernel⟩, inst_yX10_undo, sel_RX10_yX10_undo⟩
theorem pk_yX10_tear : sf_PkV yX10_tear cX10_tear 2 (some .int) 0 := ⟨⟨ini_RX10, code_yX10_tear, by decide +kernel, by decide +kernel, by decide +kernel⟩, inst_yX10_tear, sel_RX10_yX10_tear⟩
theorem pk_yX10_count : sf_PkV yX10_count cX10_count 4 (some .int) 1 := ⟨⟨ini_RX10, code_yX10_count, by decide +kernel, by decide +kernel, by decide +kernel⟩, inst_yX10_count, sel_RX10_yX10_count⟩
theorem pk_yX10_status : sf_PkV yX10_status cX10_status 4 (some .int) 1 := ⟨⟨ini_RX10, code_yX10_status, by decide +kernel, by decide +kernel, by decide +kernel⟩, inst_yX10_status, sel_RX10_yX10_status⟩
theorem pk_yJ13_bitCount_95d88 : sf_PkS yJ13_bitCount_95d88 cJ13_bitCount_95d88 2 (some .int) 1 := ⟨⟨ini_RJ13, code_yJ13_bitCount_95d88, by decide +kernel, by decide +kernel, by decide +kernel⟩, stat_yJ13_bitCount_95d88⟩
theorem pk_yJ0_length_8abf5 : sf_PkV yJ0_length_8abf5 cJ0_length_8abf5 1 (some .int) 0 := ⟨⟨ini_RJ0, code_yJ0_length_8abf5, by decide +kernel, by decide +kernel, by decide +kernel⟩, inst_yJ0_length_8abf5, sel_RJ0_yJ0_length_8abf5⟩
theorem pk_yJ0_charAt_5068e : sf_PkV yJ0_charAt_5068e cJ0_charAt_5068e 2 (some .char) 1 := ⟨⟨ini_RJ0, code_yJ0_charAt_5068e, by decide +kernel, by decide +kernel, by decide +kernel⟩, inst_yJ0_charAt_5068e, sel_RJ0_yJ0_charAt_5068e⟩
theorem pk_yJ0_coder_7d493 : sf_PkV yJ0_coder_7d493 cJ0_coder_7d493 1 (some .byte) 0 := ⟨⟨ini_RJ0, code_yJ0_coder_7d493, by decide +kernel, by decide +kernel, by decide +kernel⟩, inst_yJ0_coder_7d493, sel_RJ0_yJ0_coder_7d493⟩
theorem pk_yJ0_isLatin1_aae02 : sf_PkV yJ0_isLatin1_aae02 cJ0_isLatin1_aae02 1 (some .boolean) 0 := ⟨⟨ini_RJ0, code_yJ0_isLatin1_aae02, by decide +kernel, by decide +kernel, by decide +kernel⟩, inst_yJ0_isLatin1_aae02, sel_RJ0_yJ0_isLatin1_aae02⟩
theorem pk_yJ0_checkIndex_df160 : sf_PkS yJ0_checkIndex_df160 cJ0_checkIndex_df160 2 none 2 := ⟨⟨ini_RJ0, code_yJ0_checkIndex_df160, by decide +kernel, by decide +kernel, by decide +kernel⟩, stat_yJ0_checkIndex_df160⟩
theorem pk_yJ1_charAt_3b067 : sf_PkS yJ1_charAt_3b067 cJ1_charAt_3b067 2 (some .char) 2 := ⟨⟨ini_RJ1, code_yJ1_charAt_3b067, by decide +kernel, by decide +kernel, by decide +kernel⟩, stat_yJ1_charAt_3b067⟩
theorem pk_yJ2_getChar_3b067 : sf_PkS yJ2_getChar_3b067 cJ2_getChar_3b067 2 (some .char) 2 := ⟨⟨ini_RJ2, code_yJ2_getChar_3b067, by decide +kernel, by decide +kernel, by decide +kernel⟩, stat_yJ2_getChar_3b067⟩
theorem pk_yJ2_length_9d52b : sf_PkS yJ2_length_9d52b cJ2_length_9d52b 1 (some .int) 1 := ⟨⟨ini_RJ2, code_yJ2_length_9d52b, by decide +kernel, by decide +kernel, by decide +kernel⟩, stat_yJ2_length_9d52b⟩
theorem pk_yJ2_charAt_3b067 : sf_PkS yJ2_charAt_3b067 cJ2_charAt_3b067 2 (some .char) 2 := ⟨⟨ini_RJ2, code_yJ2_charAt_3b067, by decide +kernel, by decide +kernel, by decide +kernel⟩, stat_yJ2_charAt_3b067⟩
theorem pk_yJ2_checkIndex_2214a : sf_PkS yJ2_checkIndex_2214a cJ2_checkIndex_2214a 2 none 2 := ⟨⟨ini_RJ2, code_yJ2_checkIndex_2214a, by decide +kernel, by decide +kernel, by decide +kernel⟩, stat_yJ2_checkIndex_2214a⟩
theorem pk_yJ7_fill_d0a16 : sf_PkS yJ7_fill_d0a16 cJ7_fill_d0a16 5 none 2 := ⟨⟨ini_RJ7, code_yJ7_fill_d0a16, by decide +kernel, by decide +kernel, by decide +kernel⟩, stat_yJ7_fill_d0a16⟩
theorem pk_yJ7_fill_53178 : sf_PkS yJ7_fill_53178 cJ7_fill_53178 4 none 2 := ⟨⟨ini_RJ7, code_yJ7_fill_53178, by decide +kernel, by decide +kernel, by decide +kernel⟩, stat_yJ7_fill_53178⟩
theorem pk_yJ3_checkIndex_8e157 : sf_PkS yJ3_checkIndex_8e157 cJ3_checkIndex_8e157 3 (some .int) 3 := ⟨⟨ini_RJ3, code_yJ3_checkIndex_8e157, by decide +kernel, by decide +kernel, by decide +kernel⟩, stat_yJ3_checkIndex_8e157⟩
