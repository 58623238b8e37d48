set_option maxRecDepth 100000 in
theorem ml_X0_3 : Cond.methodLink RX0 3 Lib.objectInit ∈ mf_tbl := mf_m2 (i := 123) rfl rfl
set_option maxRecDepth 100000 in
theorem im_obj : Cond.instanceMethod Lib.objectInit ∈ mf_tbl := mf_m1 (i := 27) rfl rfl
set_option maxRecDepth 100000 in
theorem co_obj : Cond.code Lib.objectInit ⟨#[0xb1]⟩ 1 none ∈ mf_tbl := mf_m1 (i := 28) rfl rfl
set_option maxRecDepth 100000 in
theorem kl_X0_9 : Cond.classLink RX0 9 RX3 ∈ mf_tbl := mf_m2 (i := 124) rfl rfl
set_option maxRecDepth 100000 in
theorem in_X3 : Cond.instantiable RX3 4 ∈ mf_tbl := mf_m2 (i := 125) rfl rfl
set_option maxRecDepth 100000 in
theorem ii_X3 : Cond.initialized RX3 ∈ mf_tbl := mf_m1 (i := 15) rfl rfl
set_option maxRecDepth 100000 in
theorem im_X3_init : Cond.instanceMethod yX3_init ∈ mf_tbl := mf_m2 (i := 127) rfl rfl
set_option maxRecDepth 100000 in
theorem fl_X0_12 : Cond.fieldLink RX0 12 (TX0 0).1 (TX0 0).2.1 (TX0 0).2.2.1 ∈ mf_tbl := mf_m2 (i := 146) rfl rfl
set_option maxRecDepth 100000 in
theorem fl_X0_18 : Cond.fieldLink RX0 18 (TX1 8).1 (TX1 8).2.1 (TX1 8).2.2.1 ∈ mf_tbl := mf_m2 (i := 45) rfl rfl
set_option maxRecDepth 100000 in
theorem ml_X0_24 : Cond.methodLink RX0 24 yX0_liesOpen ∈ mf_tbl := mf_m4 (i := 107) rfl rfl
set_option maxRecDepth 100000 in
theorem sm_X0_liesOpen : Cond.static yX0_liesOpen ∈ mf_tbl := mf_m4 (i := 88) rfl rfl
set_option maxRecDepth 100000 in
theorem fl_X0_28 : Cond.fieldLink RX0 28 (TX6 1).1 (TX6 1).2.1 (TX6 1).2.2.1 ∈ mf_tbl := mf_m1 (i := 222) rfl rfl
set_option maxRecDepth 100000 in
theorem ml_X0_34 : Cond.methodLink RX0 34 yJ9_min_7cf53 ∈ mf_tbl := mf_m4 (i := 129) rfl rfl
set_option maxRecDepth 100000 in
theorem sm_J9_min_7cf53 : Cond.static yJ9_min_7cf53 ∈ mf_tbl := mf_m3 (i := 61) rfl rfl
set_option maxRecDepth 100000 in
theorem ml_X0_40 : Cond.methodLink RX0 40 yJ9_max_7cf53 ∈ mf_tbl := mf_m4 (i := 130) rfl rfl
set_option maxRecDepth 100000 in
theorem sm_J9_max_7cf53 : Cond.static yJ9_max_7cf53 ∈ mf_tbl := mf_m3 (i := 64) rfl rfl
set_option maxRecDepth 100000 in
theorem fl_X0_43 : Cond.fieldLink RX0 43 (TX6 2).1 (TX6 2).2.1 (TX6 2).2.2.1 ∈ mf_tbl := mf_m1 (i := 227) rfl rfl
set_option maxRecDepth 100000 in
theorem ml_X0_46 : Cond.methodLink RX0 46 yX1_mirror ∈ mf_tbl := mf_m4 (i := 131) rfl rfl
set_option maxRecDepth 100000 in
theorem im_X1_mirror : Cond.instanceMethod yX1_mirror ∈ mf_tbl := mf_m4 (i := 109) rfl rfl
set_option maxRecDepth 100000 in
theorem sl_X1_mirror : Cond.selects yX1_mirror.cls yX1_mirror yX1_mirror ∈ mf_tbl := mf_m4 (i := 110) rfl rfl
set_option maxRecDepth 100000 in
theorem ml_X0_50 : Cond.methodLink RX0 50 yX0_liesOnNext ∈ mf_tbl := mf_m4 (i := 132) rfl rfl
set_option maxRecDepth 100000 in
theorem sm_X0_liesOnNext : Cond.static yX0_liesOnNext ∈ mf_tbl := mf_m4 (i := 105) rfl rfl
set_option maxRecDepth 100000 in
theorem fl_X0_54 : Cond.fieldLink RX0 54 (TX1 12).1 (TX1 12).2.1 (TX1 12).2.2.1 ∈ mf_tbl := mf_m2 (i := 62) rfl rfl
set_option maxRecDepth 100000 in
theorem ml_X0_57 : Cond.methodLink RX0 57 yX0_meet ∈ mf_tbl := mf_m4 (i := 140) rfl rfl
set_option maxRecDepth 100000 in
theorem sm_X0_meet : Cond.static yX0_meet ∈ mf_tbl := mf_m4 (i := 127) rfl rfl
set_option maxRecDepth 100000 in
theorem fl_X0_61 : Cond.fieldLink RX0 61 (TX3 0).1 (TX3 0).2.1 (TX3 0).2.2.1 ∈ mf_tbl := mf_m2 (i := 131) rfl rfl
set_option maxRecDepth 100000 in
theorem fl_X0_66 : Cond.fieldLink RX0 66 (TX1 5).1 (TX1 5).2.1 (TX1 5).2.2.1 ∈ mf_tbl := mf_m2 (i := 36) rfl rfl
set_option maxRecDepth 100000 in
theorem ml_X0_72 : Cond.methodLink RX0 72 yX3_reckon ∈ mf_tbl := mf_m4 (i := 31) rfl rfl
set_option maxRecDepth 100000 in
theorem im_X3_reckon : Cond.instanceMethod yX3_reckon ∈ mf_tbl := mf_m4 (i := 32) rfl rfl
set_option maxRecDepth 100000 in
theorem sl_X3_reckon : Cond.selects yX3_reckon.cls yX3_reckon yX3_reckon ∈ mf_tbl := mf_m4 (i := 33) rfl rfl
set_option maxRecDepth 100000 in
theorem ml_X0_76 : Cond.methodLink RX0 76 yJ9_floorMod_7cf53 ∈ mf_tbl := mf_m4 (i := 60) rfl rfl
set_option maxRecDepth 100000 in
theorem sm_J9_floorMod_7cf53 : Cond.static yJ9_floorMod_7cf53 ∈ mf_tbl := mf_m4 (i := 61) rfl rfl
set_option maxRecDepth 100000 in
theorem ml_X0_79 : Cond.methodLink RX0 79 yX0_meetUp ∈ mf_tbl := mf_m4 (i := 172) rfl rfl
set_option maxRecDepth 100000 in
theorem im_X0_meetUp : Cond.instanceMethod yX0_meetUp ∈ mf_tbl := mf_m4 (i := 174) rfl rfl
set_option maxRecDepth 100000 in
theorem sl_X0_meetUp : Cond.selects yX0_meetUp.cls yX0_meetUp yX0_meetUp ∈ mf_tbl := mf_s2 (i := 11) rfl
set_option maxRecDepth 100000 in
theorem ml_X0_83 : Cond.methodLink RX0 83 yX0_reap ∈ mf_tbl := mf_m4 (i := 193) rfl rfl
set_option maxRecDepth 100000 in
theorem im_X0_reap : Cond.instanceMethod yX0_reap ∈ mf_tbl := mf_m4 (i := 195) rfl rfl
set_option maxRecDepth 100000 in
theorem sl_X0_reap : Cond.selects yX0_reap.cls yX0_reap yX0_reap ∈ mf_tbl := mf_s2 (i := 13) rfl
set_option maxRecDepth 100000 in
theorem fl_X0_90 : Cond.fieldLink RX0 90 (TX6 7).1 (TX6 7).2.1 (TX6 7).2.2.1 ∈ mf_tbl := mf_m2 (i := 5) rfl rfl
set_option maxRecDepth 100000 in
theorem ml_X0_87 : Cond.methodLink RX0 87 yX0_stepOutward ∈ mf_tbl := mf_m4 (i := 197) rfl rfl
set_option maxRecDepth 100000 in
theorem im_X0_stepOutward : Cond.instanceMethod yX0_stepOutward ∈ mf_tbl := mf_m4 (i := 199) rfl rfl
set_option maxRecDepth 100000 in
theorem sl_X0_stepOutward : Cond.selects yX0_stepOutward.cls yX0_stepOutward yX0_stepOutward ∈ mf_tbl := mf_s2 (i := 14) rfl
set_option maxRecDepth 100000 in
theorem ml_X0_110 : Cond.methodLink RX0 110 yJ9_abs_0f7a4 ∈ mf_tbl := mf_m4 (i := 185) rfl rfl
set_option maxRecDepth 100000 in
theorem sm_J9_abs_0f7a4 : Cond.static yJ9_abs_0f7a4 ∈ mf_tbl := mf_m4 (i := 186) rfl rfl
set_option maxRecDepth 100000 in
theorem fl_X0_113 : Cond.fieldLink RX0 113 (TX6 3).1 (TX6 3).2.1 (TX6 3).2.2.1 ∈ mf_tbl := mf_m1 (i := 234) rfl rfl
set_option maxRecDepth 100000 in
theorem ml_X0_116 : Cond.methodLink RX0 116 yX6_addPurse ∈ mf_tbl := mf_m4 (i := 188) rfl rfl
set_option maxRecDepth 100000 in
theorem im_X6_addPurse : Cond.instanceMethod yX6_addPurse ∈ mf_tbl := mf_m4 (i := 189) rfl rfl
set_option maxRecDepth 100000 in
theorem sl_X6_addPurse : Cond.selects yX6_addPurse.cls yX6_addPurse yX6_addPurse ∈ mf_tbl := mf_m4 (i := 190) rfl rfl
set_option maxRecDepth 100000 in
theorem fl_X0_93 : Cond.fieldLink RX0 93 (TX6 4).1 (TX6 4).2.1 (TX6 4).2.2.1 ∈ mf_tbl := mf_m1 (i := 238) rfl rfl
set_option maxRecDepth 100000 in
theorem ml_X0_96 : Cond.methodLink RX0 96 yX6_keep ∈ mf_tbl := mf_m4 (i := 176) rfl rfl
set_option maxRecDepth 100000 in
theorem im_X6_keep : Cond.instanceMethod yX6_keep ∈ mf_tbl := mf_m4 (i := 177) rfl rfl
set_option maxRecDepth 100000 in
theorem sl_X6_keep : Cond.selects yX6_keep.cls yX6_keep yX6_keep ∈ mf_tbl := mf_m4 (i := 178) rfl rfl
set_option maxRecDepth 100000 in
theorem ml_X0_100 : Cond.methodLink RX0 100 yX4_isTold ∈ mf_tbl := mf_m4 (i := 180) rfl rfl
set_option maxRecDepth 100000 in
theorem im_X4_isTold : Cond.instanceMethod yX4_isTold ∈ mf_tbl := mf_m3 (i := 165) rfl rfl
set_option maxRecDepth 100000 in
theorem sl_X4_isTold : Cond.selects yX4_isTold.cls yX4_isTold yX4_isTold ∈ mf_tbl := mf_m3 (i := 166) rfl rfl
set_option maxRecDepth 100000 in
theorem ml_X0_104 : Cond.methodLink RX0 104 yX0_setParts ∈ mf_tbl := mf_m4 (i := 181) rfl rfl
set_option maxRecDepth 100000 in
theorem im_X0_setParts : Cond.instanceMethod yX0_setParts ∈ mf_tbl := mf_m4 (i := 183) rfl rfl
set_option maxRecDepth 100000 in
theorem sl_X0_setParts : Cond.selects yX0_setParts.cls yX0_setParts yX0_setParts ∈ mf_tbl := mf_s2 (i := 12) rfl
set_option maxRecDepth 100000 in
theorem fl_X0_107 : Cond.fieldLink RX0 107 (TX1 4).1 (TX1 4).2.1 (TX1 4).2.2.1 ∈ mf_tbl := mf_m2 (i := 33) rfl rfl
set_option maxRecDepth 100000 in
theorem fl_X0_119 : Cond.fieldLink RX0 119 (TX1 9).1 (TX1 9).2.1 (TX1 9).2.2.1 ∈ mf_tbl := mf_m2 (i := 53) rfl rfl
set_option maxRecDepth 100000 in
theorem ml_X0_122 : Cond.methodLink RX0 122 yX6_isFree ∈ mf_tbl := mf_m4 (i := 201) rfl rfl
set_option maxRecDepth 100000 in
theorem im_X6_isFree : Cond.instanceMethod yX6_isFree ∈ mf_tbl := mf_m3 (i := 117) rfl rfl
set_option maxRecDepth 100000 in
theorem sl_X6_isFree : Cond.selects yX6_isFree.cls yX6_isFree yX6_isFree ∈ mf_tbl := mf_m3 (i := 118) rfl rfl
set_option maxRecDepth 100000 in
theorem fl_X0_126 : Cond.fieldLink RX0 126 (TX3 1).1 (TX3 1).2.1 (TX3 1).2.2.1 ∈ mf_tbl := mf_m2 (i := 133) rfl rfl
set_option maxRecDepth 100000 in
theorem ml_X1_3 : Cond.methodLink RX1 3 Lib.objectInit ∈ mf_tbl := mf_m1 (i := 209) rfl rfl
set_option maxRecDepth 100000 in
theorem ac_20 : Cond.arrayClass (newarray.typeOf .int) ∈ mf_tbl := mf_m1 (i := 91) rfl rfl
set_option maxRecDepth 100000 in
theorem fl_X1_9 : Cond.fieldLink RX1 9 (TX1 0).1 (TX1 0).2.1 (TX1 0).2.2.1 ∈ mf_tbl := mf_m2 (i := 23) rfl rfl
set_option maxRecDepth 100000 in
theorem fl_X1_15 : Cond.fieldLink RX1 15 (TX1 1).1 (TX1 1).2.1 (TX1 1).2.2.1 ∈ mf_tbl := mf_m2 (i := 25) rfl rfl
set_option maxRecDepth 100000 in
theorem fl_X1_18 : Cond.fieldLink RX1 18 (TX1 2).1 (TX1 2).2.1 (TX1 2).2.2.1 ∈ mf_tbl := mf_m2 (i := 27) rfl rfl
set_option maxRecDepth 100000 in
theorem fl_X1_21 : Cond.fieldLink RX1 21 (TX1 3).1 (TX1 3).2.1 (TX1 3).2.2.1 ∈ mf_tbl := mf_m2 (i := 29) rfl rfl
set_option maxRecDepth 100000 in
theorem fl_X1_24 : Cond.fieldLink RX1 24 (TX1 4).1 (TX1 4).2.1 (TX1 4).2.2.1 ∈ mf_tbl := mf_m2 (i := 31) rfl rfl
set_option maxRecDepth 100000 in
theorem kl_X1_27 : Cond.classLink RX1 27 RX4 ∈ mf_tbl := mf_m1 (i := 210) rfl rfl
set_option maxRecDepth 100000 in
theorem in_X4 : Cond.instantiable RX4 5 ∈ mf_tbl := mf_m1 (i := 161) rfl rfl
set_option maxRecDepth 100000 in
theorem ii_X4 : Cond.initialized RX4 ∈ mf_tbl := mf_m1 (i := 9) rfl rfl
set_option maxRecDepth 100000 in
theorem im_X4_init : Cond.instanceMethod yX4_init ∈ mf_tbl := mf_m1 (i := 163) rfl rfl
set_option maxRecDepth 100000 in
theorem fl_X1_30 : Cond.fieldLink RX1 30 (TX1 5).1 (TX1 5).2.1 (TX1 5).2.2.1 ∈ mf_tbl := mf_m2 (i := 34) rfl rfl
set_option maxRecDepth 100000 in
theorem kl_X1_34 : Cond.classLink RX1 34 RX6 ∈ mf_tbl := mf_m1 (i := 212) rfl rfl
set_option maxRecDepth 100000 in
theorem in_X6 : Cond.instantiable RX6 8 ∈ mf_tbl := mf_m1 (i := 213) rfl rfl
set_option maxRecDepth 100000 in
theorem ii_X6 : Cond.initialized RX6 ∈ mf_tbl := mf_m1 (i := 12) rfl rfl
set_option maxRecDepth 100000 in
theorem im_X6_init : Cond.instanceMethod yX6_init ∈ mf_tbl := mf_m1 (i := 215) rfl rfl
set_option maxRecDepth 100000 in
theorem fl_X1_37 : Cond.fieldLink RX1 37 (TX1 6).1 (TX1 6).2.1 (TX1 6).2.2.1 ∈ mf_tbl := mf_m2 (i := 37) rfl rfl
set_option maxRecDepth 100000 in
theorem fl_X1_41 : Cond.fieldLink RX1 41 (TX1 7).1 (TX1 7).2.1 (TX1 7).2.2.1 ∈ mf_tbl := mf_m2 (i := 40) rfl rfl
set_option maxRecDepth 100000 in
theorem fl_X1_45 : Cond.fieldLink RX1 45 (TX1 8).1 (TX1 8).2.1 (TX1 8).2.2.1 ∈ mf_tbl := mf_m2 (i := 43) rfl rfl
set_option maxRecDepth 100000 in
theorem fl_X1_48 : Cond.fieldLink RX1 48 (TX1 9).1 (TX1 9).2.1 (TX1 9).2.2.1 ∈ mf_tbl := mf_m2 (i := 49) rfl rfl
set_option maxRecDepth 100000 in
theorem fl_X1_51 : Cond.fieldLink RX1 51 (TX1 10).1 (TX1 10).2.1 (TX1 10).2.2.1 ∈ mf_tbl := mf_m2 (i := 55) rfl rfl
set_option maxRecDepth 100000 in
theorem fl_X1_54 : Cond.fieldLink RX1 54 (TX1 11).1 (TX1 11).2.1 (TX1 11).2.2.1 ∈ mf_tbl := mf_m2 (i := 57) rfl rfl
set_option maxRecDepth 100000 in
theorem fl_X1_57 : Cond.fieldLink RX1 57 (TX1 12).1 (TX1 12).2.1 (TX1 12).2.2.1 ∈ mf_tbl := mf_m2 (i := 61) rfl rfl
set_option maxRecDepth 100000 in
theorem fl_X1_60 : Cond.fieldLink RX1 60 (TX1 13).1 (TX1 13).2.1 (TX1 13).2.2.1 ∈ mf_tbl := mf_m2 (i := 67) rfl rfl
set_option maxRecDepth 100000 in
theorem ml_X1_63 : Cond.methodLink RX1 63 yX4_forget ∈ mf_tbl := mf_m3 (i := 44) rfl rfl
set_option maxRecDepth 100000 in
theorem im_X4_forget : Cond.instanceMethod yX4_forget ∈ mf_tbl := mf_m3 (i := 45) rfl rfl
set_option maxRecDepth 100000 in
theorem sl_X4_forget : Cond.selects yX4_forget.cls yX4_forget yX4_forget ∈ mf_tbl := mf_m3 (i := 46) rfl rfl
set_option maxRecDepth 100000 in
theorem ml_X1_66 : Cond.methodLink RX1 66 yX6_forget ∈ mf_tbl := mf_m3 (i := 48) rfl rfl
set_option maxRecDepth 100000 in
theorem im_X6_forget : Cond.instanceMethod yX6_forget ∈ mf_tbl := mf_m3 (i := 49) rfl rfl
set_option maxRecDepth 100000 in
theorem sl_X6_forget : Cond.selects yX6_forget.cls yX6_forget yX6_forget ∈ mf_tbl := mf_m3 (i := 50) rfl rfl
set_option maxRecDepth 100000 in
theorem fl_X1_67 : Cond.fieldLink RX1 67 (TX6 1).1 (TX6 1).2.1 (TX6 1).2.2.1 ∈ mf_tbl := mf_m1 (i := 223) rfl rfl
set_option maxRecDepth 100000 in
theorem fl_X1_70 : Cond.fieldLink RX1 70 (TX6 2).1 (TX6 2).2.1 (TX6 2).2.2.1 ∈ mf_tbl := mf_m1 (i := 228) rfl rfl
set_option maxRecDepth 100000 in
theorem fl_X1_73 : Cond.fieldLink RX1 73 (TX6 3).1 (TX6 3).2.1 (TX6 3).2.2.1 ∈ mf_tbl := mf_m1 (i := 232) rfl rfl
set_option maxRecDepth 100000 in
theorem fl_X1_76 : Cond.fieldLink RX1 76 (TX6 4).1 (TX6 4).2.1 (TX6 4).2.2.1 ∈ mf_tbl := mf_m1 (i := 236) rfl rfl
set_option maxRecDepth 100000 in
theorem ml_X2_3 : Cond.methodLink RX2 3 Lib.objectInit ∈ mf_tbl := mf_m2 (i := 104) rfl rfl
set_option maxRecDepth 100000 in
theorem fl_X2_9 : Cond.fieldLink RX2 9 (TX2 0).1 (TX2 0).2.1 (TX2 0).2.2.1 ∈ mf_tbl := mf_m2 (i := 105) rfl rfl
set_option maxRecDepth 100000 in
theorem fl_X2_15 : Cond.fieldLink RX2 15 (TX2 1).1 (TX2 1).2.1 (TX2 1).2.2.1 ∈ mf_tbl := mf_m2 (i := 106) rfl rfl
set_option maxRecDepth 100000 in
theorem fl_X2_19 : Cond.fieldLink RX2 19 (TX2 2).1 (TX2 2).2.1 (TX2 2).2.2.1 ∈ mf_tbl := mf_m2 (i := 107) rfl rfl
set_option maxRecDepth 100000 in
theorem fl_X2_23 : Cond.fieldLink RX2 23 (TX2 3).1 (TX2 3).2.1 (TX2 3).2.2.1 ∈ mf_tbl := mf_m2 (i := 108) rfl rfl
set_option maxRecDepth 100000 in
theorem fl_X2_68 : Cond.fieldLink RX2 68 (TX1 7).1 (TX1 7).2.1 (TX1 7).2.2.1 ∈ mf_tbl := mf_m2 (i := 41) rfl rfl
set_option maxRecDepth 100000 in
theorem fl_X2_44 : Cond.fieldLink RX2 44 (TX9 3).1 (TX9 3).2.1 (TX9 3).2.2.1 ∈ mf_tbl := mf_m1 (i := 122) rfl rfl
set_option maxRecDepth 100000 in
theorem ml_X2_47 : Cond.methodLink RX2 47 yX9_fail ∈ mf_tbl := mf_m3 (i := 70) rfl rfl
set_option maxRecDepth 100000 in
theorem im_X9_fail : Cond.instanceMethod yX9_fail ∈ mf_tbl := mf_m3 (i := 71) rfl rfl
set_option maxRecDepth 100000 in
theorem sl_X9_fail : Cond.selects yX9_fail.cls yX9_fail yX9_fail ∈ mf_tbl := mf_m3 (i := 72) rfl rfl
set_option maxRecDepth 100000 in
theorem fl_X2_37 : Cond.fieldLink RX2 37 (TX9 8).1 (TX9 8).2.1 (TX9 8).2.2.1 ∈ mf_tbl := mf_m1 (i := 134) rfl rfl
set_option maxRecDepth 100000 in
theorem fl_X2_41 : Cond.fieldLink RX2 41 (TX9 2).1 (TX9 2).2.1 (TX9 2).2.2.1 ∈ mf_tbl := mf_m1 (i := 120) rfl rfl
set_option maxRecDepth 100000 in
theorem ml_X2_51 : Cond.methodLink RX2 51 yX2_readStatement ∈ mf_tbl := mf_m3 (i := 74) rfl rfl
set_option maxRecDepth 100000 in
theorem im_X2_readStatement : Cond.instanceMethod yX2_readStatement ∈ mf_tbl := mf_m3 (i := 76) rfl rfl
set_option maxRecDepth 100000 in
theorem sl_X2_readStatement : Cond.selects yX2_readStatement.cls yX2_readStatement yX2_readStatement ∈ mf_tbl := mf_s1 (i := 1) rfl
set_option maxRecDepth 100000 in
theorem fl_X2_55 : Cond.fieldLink RX2 55 (TX1 5).1 (TX1 5).2.1 (TX1 5).2.2.1 ∈ mf_tbl := mf_m2 (i := 35) rfl rfl
set_option maxRecDepth 100000 in
theorem ml_X2_59 : Cond.methodLink RX2 59 yX4_finish ∈ mf_tbl := mf_m3 (i := 229) rfl rfl
set_option maxRecDepth 100000 in
theorem im_X4_finish : Cond.instanceMethod yX4_finish ∈ mf_tbl := mf_m3 (i := 230) rfl rfl
set_option maxRecDepth 100000 in
theorem sl_X4_finish : Cond.selects yX4_finish.cls yX4_finish yX4_finish ∈ mf_tbl := mf_m3 (i := 231) rfl rfl
set_option maxRecDepth 100000 in
theorem ml_X2_64 : Cond.methodLink RX2 64 yX9_passSign ∈ mf_tbl := mf_m3 (i := 233) rfl rfl
set_option maxRecDepth 100000 in
theorem im_X9_passSign : Cond.instanceMethod yX9_passSign ∈ mf_tbl := mf_m3 (i := 202) rfl rfl
set_option maxRecDepth 100000 in
theorem sl_X9_passSign : Cond.selects yX9_passSign.cls yX9_passSign yX9_passSign ∈ mf_tbl := mf_m3 (i := 203) rfl rfl
set_option maxRecDepth 100000 in
theorem ml_X2_27 : Cond.methodLink RX2 27 yX1_forget ∈ mf_tbl := mf_m3 (i := 40) rfl rfl
set_option maxRecDepth 100000 in
theorem im_X1_forget : Cond.instanceMethod yX1_forget ∈ mf_tbl := mf_m3 (i := 41) rfl rfl
set_option maxRecDepth 100000 in
theorem sl_X1_forget : Cond.selects yX1_forget.cls yX1_forget yX1_forget ∈ mf_tbl := mf_m3 (i := 42) rfl rfl
set_option maxRecDepth 100000 in
theorem ml_X2_32 : Cond.methodLink RX2 32 yX9_start ∈ mf_tbl := mf_m3 (i := 52) rfl rfl
set_option maxRecDepth 100000 in
theorem im_X9_start : Cond.instanceMethod yX9_start ∈ mf_tbl := mf_m3 (i := 53) rfl rfl
set_option maxRecDepth 100000 in
theorem sl_X9_start : Cond.selects yX9_start.cls yX9_start yX9_start ∈ mf_tbl := mf_m3 (i := 54) rfl rfl
set_option maxRecDepth 100000 in
theorem ml_X2_80 : Cond.methodLink RX2 80 yX2_readSize ∈ mf_tbl := mf_m3 (i := 82) rfl rfl
set_option maxRecDepth 100000 in
theorem im_X2_readSize : Cond.instanceMethod yX2_readSize ∈ mf_tbl := mf_m3 (i := 84) rfl rfl
set_option maxRecDepth 100000 in
theorem sl_X2_readSize : Cond.selects yX2_readSize.cls yX2_readSize yX2_readSize ∈ mf_tbl := mf_s1 (i := 2) rfl
set_option maxRecDepth 100000 in
theorem ml_X2_83 : Cond.methodLink RX2 83 yX2_readGloss ∈ mf_tbl := mf_m3 (i := 104) rfl rfl
set_option maxRecDepth 100000 in
theorem im_X2_readGloss : Cond.instanceMethod yX2_readGloss ∈ mf_tbl := mf_m3 (i := 106) rfl rfl
set_option maxRecDepth 100000 in
theorem sl_X2_readGloss : Cond.selects yX2_readGloss.cls yX2_readGloss yX2_readGloss ∈ mf_tbl := mf_s1 (i := 3) rfl
set_option maxRecDepth 100000 in
theorem ml_X2_86 : Cond.methodLink RX2 86 yX2_readWorm ∈ mf_tbl := mf_m3 (i := 132) rfl rfl
set_option maxRecDepth 100000 in
theorem im_X2_readWorm : Cond.instanceMethod yX2_readWorm ∈ mf_tbl := mf_m3 (i := 134) rfl rfl
set_option maxRecDepth 100000 in
theorem sl_X2_readWorm : Cond.selects yX2_readWorm.cls yX2_readWorm yX2_readWorm ∈ mf_tbl := mf_s1 (i := 6) rfl
set_option maxRecDepth 100000 in
theorem ml_X2_89 : Cond.methodLink RX2 89 yX2_readBeing ∈ mf_tbl := mf_m3 (i := 140) rfl rfl
set_option maxRecDepth 100000 in
theorem im_X2_readBeing : Cond.instanceMethod yX2_readBeing ∈ mf_tbl := mf_m3 (i := 142) rfl rfl
set_option maxRecDepth 100000 in
theorem sl_X2_readBeing : Cond.selects yX2_readBeing.cls yX2_readBeing yX2_readBeing ∈ mf_tbl := mf_s1 (i := 7) rfl
set_option maxRecDepth 100000 in
theorem ml_X2_94 : Cond.methodLink RX2 94 yX2_beginRule ∈ mf_tbl := mf_m3 (i := 160) rfl rfl
set_option maxRecDepth 100000 in
theorem im_X2_beginRule : Cond.instanceMethod yX2_beginRule ∈ mf_tbl := mf_m3 (i := 162) rfl rfl
set_option maxRecDepth 100000 in
theorem sl_X2_beginRule : Cond.selects yX2_beginRule.cls yX2_beginRule yX2_beginRule ∈ mf_tbl := mf_s1 (i := 10) rfl
set_option maxRecDepth 100000 in
theorem im_X7_readSum : Cond.instanceMethod yX7_readSum ∈ mf_tbl := mf_m3 (i := 178) rfl rfl
set_option maxRecDepth 100000 in
theorem sl_X7_readSum : Cond.selects yX7_readSum.cls yX7_readSum yX7_readSum ∈ mf_tbl := mf_s1 (i := 11) rfl
set_option maxRecDepth 100000 in
theorem im_X7_readTest : Cond.instanceMethod yX7_readTest ∈ mf_tbl := mf_m3 (i := 217) rfl rfl
set_option maxRecDepth 100000 in
theorem sl_X7_readTest : Cond.selects yX7_readTest.cls yX7_readTest yX7_readTest ∈ mf_tbl := mf_s1 (i := 15) rfl
set_option maxRecDepth 100000 in
theorem ml_X2_104 : Cond.methodLink RX2 104 yX9_step ∈ mf_tbl := mf_m3 (i := 86) rfl rfl
set_option maxRecDepth 100000 in
theorem im_X9_step : Cond.instanceMethod yX9_step ∈ mf_tbl := mf_m3 (i := 57) rfl rfl
set_option maxRecDepth 100000 in
theorem sl_X9_step : Cond.selects yX9_step.cls yX9_step yX9_step ∈ mf_tbl := mf_m3 (i := 58) rfl rfl
set_option maxRecDepth 100000 in
theorem ml_X2_107 : Cond.methodLink RX2 107 yX9_passNumber ∈ mf_tbl := mf_m3 (i := 87) rfl rfl
set_option maxRecDepth 100000 in
theorem im_X9_passNumber : Cond.instanceMethod yX9_passNumber ∈ mf_tbl := mf_m3 (i := 88) rfl rfl
set_option maxRecDepth 100000 in
theorem sl_X9_passNumber : Cond.selects yX9_passNumber.cls yX9_passNumber yX9_passNumber ∈ mf_tbl := mf_m3 (i := 89) rfl rfl
set_option maxRecDepth 100000 in
theorem fl_X2_111 : Cond.fieldLink RX2 111 (TX1 13).1 (TX1 13).2.1 (TX1 13).2.2.1 ∈ mf_tbl := mf_m2 (i := 68) rfl rfl
set_option maxRecDepth 100000 in
theorem fl_X2_71 : Cond.fieldLink RX2 71 (TX9 5).1 (TX9 5).2.1 (TX9 5).2.2.1 ∈ mf_tbl := mf_m1 (i := 127) rfl rfl
set_option maxRecDepth 100000 in
theorem ml_X2_74 : Cond.methodLink RX2 74 yX10_find ∈ mf_tbl := mf_m3 (i := 78) rfl rfl
set_option maxRecDepth 100000 in
theorem im_X10_find : Cond.instanceMethod yX10_find ∈ mf_tbl := mf_m3 (i := 79) rfl rfl
set_option maxRecDepth 100000 in
theorem sl_X10_find : Cond.selects yX10_find.cls yX10_find yX10_find ∈ mf_tbl := mf_m3 (i := 80) rfl rfl
set_option maxRecDepth 100000 in
theorem ml_X2_118 : Cond.methodLink RX2 118 yX2_mayBegin ∈ mf_tbl := mf_m3 (i := 108) rfl rfl
set_option maxRecDepth 100000 in
theorem im_X2_mayBegin : Cond.instanceMethod yX2_mayBegin ∈ mf_tbl := mf_m3 (i := 110) rfl rfl
set_option maxRecDepth 100000 in
theorem sl_X2_mayBegin : Cond.selects yX2_mayBegin.cls yX2_mayBegin yX2_mayBegin ∈ mf_tbl := mf_s1 (i := 4) rfl
set_option maxRecDepth 100000 in
theorem ml_X2_121 : Cond.methodLink RX2 121 yX4_begin ∈ mf_tbl := mf_m3 (i := 168) rfl rfl
set_option maxRecDepth 100000 in
theorem im_X4_begin : Cond.instanceMethod yX4_begin ∈ mf_tbl := mf_m3 (i := 169) rfl rfl
set_option maxRecDepth 100000 in
theorem sl_X4_begin : Cond.selects yX4_begin.cls yX4_begin yX4_begin ∈ mf_tbl := mf_m3 (i := 170) rfl rfl
set_option maxRecDepth 100000 in
theorem ml_X2_124 : Cond.methodLink RX2 124 yX7_writeTo ∈ mf_tbl := mf_m3 (i := 172) rfl rfl
set_option maxRecDepth 100000 in
theorem im_X7_writeTo : Cond.instanceMethod yX7_writeTo ∈ mf_tbl := mf_m3 (i := 173) rfl rfl
set_option maxRecDepth 100000 in
theorem sl_X7_writeTo : Cond.selects yX7_writeTo.cls yX7_writeTo yX7_writeTo ∈ mf_tbl := mf_m3 (i := 174) rfl rfl
set_option maxRecDepth 100000 in
theorem ml_X2_114 : Cond.methodLink RX2 114 yX4_isTold ∈ mf_tbl := mf_m3 (i := 164) rfl rfl
set_option maxRecDepth 100000 in
theorem ml_X2_128 : Cond.methodLink RX2 128 yX9_passWord ∈ mf_tbl := mf_m3 (i := 92) rfl rfl
set_option maxRecDepth 100000 in
theorem im_X9_passWord : Cond.instanceMethod yX9_passWord ∈ mf_tbl := mf_m3 (i := 93) rfl rfl
set_option maxRecDepth 100000 in
theorem sl_X9_passWord : Cond.selects yX9_passWord.cls yX9_passWord yX9_passWord ∈ mf_tbl := mf_m3 (i := 94) rfl rfl
set_option maxRecDepth 100000 in
theorem fl_X2_131 : Cond.fieldLink RX2 131 (TX1 8).1 (TX1 8).2.1 (TX1 8).2.2.1 ∈ mf_tbl := mf_m2 (i := 46) rfl rfl
set_option maxRecDepth 100000 in
theorem fl_X2_134 : Cond.fieldLink RX2 134 (TX1 9).1 (TX1 9).2.1 (TX1 9).2.2.1 ∈ mf_tbl := mf_m2 (i := 50) rfl rfl
set_option maxRecDepth 100000 in
theorem fl_X2_137 : Cond.fieldLink RX2 137 (TX1 10).1 (TX1 10).2.1 (TX1 10).2.2.1 ∈ mf_tbl := mf_m2 (i := 56) rfl rfl
set_option maxRecDepth 100000 in
theorem ml_X2_140 : Cond.methodLink RX2 140 yX2_readFreeCell ∈ mf_tbl := mf_m3 (i := 112) rfl rfl
set_option maxRecDepth 100000 in
theorem im_X2_readFreeCell : Cond.instanceMethod yX2_readFreeCell ∈ mf_tbl := mf_m3 (i := 114) rfl rfl
set_option maxRecDepth 100000 in
theorem sl_X2_readFreeCell : Cond.selects yX2_readFreeCell.cls yX2_readFreeCell yX2_readFreeCell ∈ mf_tbl := mf_s1 (i := 5) rfl
set_option maxRecDepth 100000 in
theorem fl_X2_143 : Cond.fieldLink RX2 143 (TX1 6).1 (TX1 6).2.1 (TX1 6).2.2.1 ∈ mf_tbl := mf_m2 (i := 39) rfl rfl
set_option maxRecDepth 100000 in
theorem ml_X2_147 : Cond.methodLink RX2 147 yX6_writeGloss ∈ mf_tbl := mf_m3 (i := 128) rfl rfl
set_option maxRecDepth 100000 in
theorem im_X6_writeGloss : Cond.instanceMethod yX6_writeGloss ∈ mf_tbl := mf_m3 (i := 129) rfl rfl
set_option maxRecDepth 100000 in
theorem sl_X6_writeGloss : Cond.selects yX6_writeGloss.cls yX6_writeGloss yX6_writeGloss ∈ mf_tbl := mf_m3 (i := 130) rfl rfl
set_option maxRecDepth 100000 in
theorem fl_X2_152 : Cond.fieldLink RX2 152 (TX1 12).1 (TX1 12).2.1 (TX1 12).2.2.1 ∈ mf_tbl := mf_m2 (i := 64) rfl rfl
set_option maxRecDepth 100000 in
theorem ml_X2_155 : Cond.methodLink RX2 155 yX6_isFree ∈ mf_tbl := mf_m3 (i := 116) rfl rfl
set_option maxRecDepth 100000 in
theorem fl_X2_159 : Cond.fieldLink RX2 159 (TX9 7).1 (TX9 7).2.1 (TX9 7).2.2.1 ∈ mf_tbl := mf_m1 (i := 131) rfl rfl
set_option maxRecDepth 100000 in
theorem ml_X2_165 : Cond.methodLink RX2 165 yX1_addWorm ∈ mf_tbl := mf_m3 (i := 136) rfl rfl
set_option maxRecDepth 100000 in
theorem im_X1_addWorm : Cond.instanceMethod yX1_addWorm ∈ mf_tbl := mf_m3 (i := 137) rfl rfl
set_option maxRecDepth 100000 in
theorem sl_X1_addWorm : Cond.selects yX1_addWorm.cls yX1_addWorm yX1_addWorm ∈ mf_tbl := mf_m3 (i := 138) rfl rfl
set_option maxRecDepth 100000 in
theorem fl_X2_162 : Cond.fieldLink RX2 162 (TX1 11).1 (TX1 11).2.1 (TX1 11).2.2.1 ∈ mf_tbl := mf_m2 (i := 60) rfl rfl
set_option maxRecDepth 100000 in
theorem ml_X2_169 : Cond.methodLink RX2 169 yX2_readName ∈ mf_tbl := mf_m3 (i := 144) rfl rfl
set_option maxRecDepth 100000 in
theorem im_X2_readName : Cond.instanceMethod yX2_readName ∈ mf_tbl := mf_m3 (i := 146) rfl rfl
set_option maxRecDepth 100000 in
theorem sl_X2_readName : Cond.selects yX2_readName.cls yX2_readName yX2_readName ∈ mf_tbl := mf_s1 (i := 8) rfl
set_option maxRecDepth 100000 in
theorem ml_X2_173 : Cond.methodLink RX2 173 yX1_addBeing ∈ mf_tbl := mf_m3 (i := 156) rfl rfl
set_option maxRecDepth 100000 in
theorem im_X1_addBeing : Cond.instanceMethod yX1_addBeing ∈ mf_tbl := mf_m3 (i := 157) rfl rfl
set_option maxRecDepth 100000 in
theorem sl_X1_addBeing : Cond.selects yX1_addBeing.cls yX1_addBeing yX1_addBeing ∈ mf_tbl := mf_m3 (i := 158) rfl rfl
set_option maxRecDepth 100000 in
theorem fl_X2_177 : Cond.fieldLink RX2 177 (TX9 4).1 (TX9 4).2.1 (TX9 4).2.2.1 ∈ mf_tbl := mf_m1 (i := 126) rfl rfl
set_option maxRecDepth 100000 in
theorem ml_X2_180 : Cond.methodLink RX2 180 yX2_isOwnWord ∈ mf_tbl := mf_m3 (i := 148) rfl rfl
set_option maxRecDepth 100000 in
theorem im_X2_isOwnWord : Cond.instanceMethod yX2_isOwnWord ∈ mf_tbl := mf_m3 (i := 150) rfl rfl
set_option maxRecDepth 100000 in
theorem sl_X2_isOwnWord : Cond.selects yX2_isOwnWord.cls yX2_isOwnWord yX2_isOwnWord ∈ mf_tbl := mf_s1 (i := 9) rfl
set_option maxRecDepth 100000 in
theorem ml_X2_183 : Cond.methodLink RX2 183 yX1_hasName ∈ mf_tbl := mf_m3 (i := 152) rfl rfl
set_option maxRecDepth 100000 in
theorem im_X1_hasName : Cond.instanceMethod yX1_hasName ∈ mf_tbl := mf_m3 (i := 153) rfl rfl
set_option maxRecDepth 100000 in
theorem sl_X1_hasName : Cond.selects yX1_hasName.cls yX1_hasName yX1_hasName ∈ mf_tbl := mf_m3 (i := 154) rfl rfl
set_option maxRecDepth 100000 in
theorem ml_X3_3 : Cond.methodLink RX3 3 Lib.objectInit ∈ mf_tbl := mf_m2 (i := 129) rfl rfl
set_option maxRecDepth 100000 in
theorem fl_X3_11 : Cond.fieldLink RX3 11 (TX3 0).1 (TX3 0).2.1 (TX3 0).2.2.1 ∈ mf_tbl := mf_m2 (i := 130) rfl rfl
set_option maxRecDepth 100000 in
theorem ac_22 : Cond.arrayClass (newarray.typeOf .boolean) ∈ mf_tbl := mf_m2 (i := 145) rfl rfl
set_option maxRecDepth 100000 in
theorem fl_X3_17 : Cond.fieldLink RX3 17 (TX3 1).1 (TX3 1).2.1 (TX3 1).2.2.1 ∈ mf_tbl := mf_m2 (i := 132) rfl rfl
set_option maxRecDepth 100000 in
theorem fl_X3_21 : Cond.fieldLink RX3 21 (TX3 2).1 (TX3 2).2.1 (TX3 2).2.2.1 ∈ mf_tbl := mf_m2 (i := 134) rfl rfl
set_option maxRecDepth 100000 in
theorem fl_X3_24 : Cond.fieldLink RX3 24 (TX3 3).1 (TX3 3).2.1 (TX3 3).2.2.1 ∈ mf_tbl := mf_m2 (i := 135) rfl rfl
set_option maxRecDepth 100000 in
theorem fl_X3_37 : Cond.fieldLink RX3 37 (TX4 0).1 (TX4 0).2.1 (TX4 0).2.2.1 ∈ mf_tbl := mf_m1 (i := 167) rfl rfl
set_option maxRecDepth 100000 in
theorem ml_X3_56 : Cond.methodLink RX3 56 yX3_changeTop ∈ mf_tbl := mf_m4 (i := 42) rfl rfl
set_option maxRecDepth 100000 in
theorem im_X3_changeTop : Cond.instanceMethod yX3_changeTop ∈ mf_tbl := mf_m4 (i := 44) rfl rfl
set_option maxRecDepth 100000 in
theorem sl_X3_changeTop : Cond.selects yX3_changeTop.cls yX3_changeTop yX3_changeTop ∈ mf_tbl := mf_s2 (i := 4) rfl
set_option maxRecDepth 100000 in
theorem ml_X3_59 : Cond.methodLink RX3 59 yX3_join ∈ mf_tbl := mf_m4 (i := 46) rfl rfl
set_option maxRecDepth 100000 in
theorem sm_X3_join : Cond.static yX3_join ∈ mf_tbl := mf_m4 (i := 47) rfl rfl
set_option maxRecDepth 100000 in
theorem ml_X3_52 : Cond.methodLink RX3 52 yX3_push ∈ mf_tbl := mf_m4 (i := 38) rfl rfl
set_option maxRecDepth 100000 in
theorem im_X3_push : Cond.instanceMethod yX3_push ∈ mf_tbl := mf_m4 (i := 40) rfl rfl
set_option maxRecDepth 100000 in
theorem sl_X3_push : Cond.selects yX3_push.cls yX3_push yX3_push ∈ mf_tbl := mf_s2 (i := 3) rfl
set_option maxRecDepth 100000 in
theorem ml_X3_28 : Cond.methodLink RX3 28 yX4_isTold ∈ mf_tbl := mf_m4 (i := 35) rfl rfl
set_option maxRecDepth 100000 in
theorem fl_X3_34 : Cond.fieldLink RX3 34 (TX4 2).1 (TX4 2).2.1 (TX4 2).2.2.1 ∈ mf_tbl := mf_m1 (i := 171) rfl rfl
set_option maxRecDepth 100000 in
theorem ml_X3_40 : Cond.methodLink RX3 40 yJ9_min_7cf53 ∈ mf_tbl := mf_m4 (i := 36) rfl rfl
set_option maxRecDepth 100000 in
theorem fl_X3_46 : Cond.fieldLink RX3 46 (TX4 1).1 (TX4 1).2.1 (TX4 1).2.2.1 ∈ mf_tbl := mf_m1 (i := 169) rfl rfl
set_option maxRecDepth 100000 in
theorem ml_X3_49 : Cond.methodLink RX3 49 yJ9_max_7cf53 ∈ mf_tbl := mf_m4 (i := 37) rfl rfl
set_option maxRecDepth 100000 in
theorem cl_X3_63 : Cond.constantLong RX3 63 (-1000000) ∈ mf_tbl := mf_m4 (i := 49) rfl rfl
set_option maxRecDepth 100000 in
theorem cl_X3_65 : Cond.constantLong RX3 65 1000000 ∈ mf_tbl := mf_m4 (i := 50) rfl rfl
set_option maxRecDepth 100000 in
theorem ml_X3_67 : Cond.methodLink RX3 67 yJ9_min_f86c9 ∈ mf_tbl := mf_m4 (i := 51) rfl rfl
set_option maxRecDepth 100000 in
theorem sm_J9_min_f86c9 : Cond.static yJ9_min_f86c9 ∈ mf_tbl := mf_m4 (i := 52) rfl rfl
set_option maxRecDepth 100000 in
theorem ml_X3_70 : Cond.methodLink RX3 70 yJ9_max_f86c9 ∈ mf_tbl := mf_m4 (i := 54) rfl rfl
set_option maxRecDepth 100000 in
theorem sm_J9_max_f86c9 : Cond.static yJ9_max_f86c9 ∈ mf_tbl := mf_m4 (i := 55) rfl rfl
set_option maxRecDepth 100000 in
theorem ml_X3_72 : Cond.methodLink RX3 72 yJ9_floorDiv_7cf53 ∈ mf_tbl := mf_m4 (i := 57) rfl rfl
set_option maxRecDepth 100000 in
theorem sm_J9_floorDiv_7cf53 : Cond.static yJ9_floorDiv_7cf53 ∈ mf_tbl := mf_m4 (i := 58) rfl rfl
set_option maxRecDepth 100000 in
theorem ml_X4_3 : Cond.methodLink RX4 3 Lib.objectInit ∈ mf_tbl := mf_m1 (i := 165) rfl rfl
set_option maxRecDepth 100000 in
theorem fl_X4_9 : Cond.fieldLink RX4 9 (TX4 0).1 (TX4 0).2.1 (TX4 0).2.2.1 ∈ mf_tbl := mf_m1 (i := 166) rfl rfl
set_option maxRecDepth 100000 in
theorem fl_X4_15 : Cond.fieldLink RX4 15 (TX4 1).1 (TX4 1).2.1 (TX4 1).2.2.1 ∈ mf_tbl := mf_m1 (i := 168) rfl rfl
set_option maxRecDepth 100000 in
theorem fl_X4_18 : Cond.fieldLink RX4 18 (TX4 2).1 (TX4 2).2.1 (TX4 2).2.2.1 ∈ mf_tbl := mf_m1 (i := 170) rfl rfl
set_option maxRecDepth 100000 in
theorem fl_X4_21 : Cond.fieldLink RX4 21 (TX4 4).1 (TX4 4).2.1 (TX4 4).2.2.1 ∈ mf_tbl := mf_m1 (i := 173) rfl rfl
set_option maxRecDepth 100000 in
theorem fl_X4_25 : Cond.fieldLink RX4 25 (TX4 3).1 (TX4 3).2.1 (TX4 3).2.2.1 ∈ mf_tbl := mf_m1 (i := 172) rfl rfl
set_option maxRecDepth 100000 in
theorem fl_X5_11 : Cond.fieldLink RX5 11 (TX5 1).1 (TX5 1).2.1 (TX5 1).2.2.1 ∈ mf_tbl := mf_m2 (i := 160) rfl rfl
set_option maxRecDepth 100000 in
theorem kl_X5_9 : Cond.classLink RX5 9 RX6 ∈ mf_tbl := mf_m2 (i := 156) rfl rfl
set_option maxRecDepth 100000 in
theorem ml_X5_3 : Cond.methodLink RX5 3 Lib.objectInit ∈ mf_tbl := mf_m2 (i := 155) rfl rfl
set_option maxRecDepth 100000 in
theorem fl_X5_18 : Cond.fieldLink RX5 18 (TX5 2).1 (TX5 2).2.1 (TX5 2).2.2.1 ∈ mf_tbl := mf_m2 (i := 161) rfl rfl
set_option maxRecDepth 100000 in
theorem fl_X5_22 : Cond.fieldLink RX5 22 (TX5 3).1 (TX5 3).2.1 (TX5 3).2.2.1 ∈ mf_tbl := mf_m2 (i := 162) rfl rfl
set_option maxRecDepth 100000 in
theorem fl_X5_26 : Cond.fieldLink RX5 26 (TX5 4).1 (TX5 4).2.1 (TX5 4).2.2.1 ∈ mf_tbl := mf_m2 (i := 163) rfl rfl
set_option maxRecDepth 100000 in
theorem fl_X5_29 : Cond.fieldLink RX5 29 (TX5 5).1 (TX5 5).2.1 (TX5 5).2.2.1 ∈ mf_tbl := mf_m2 (i := 164) rfl rfl
set_option maxRecDepth 100000 in
theorem fl_X5_32 : Cond.fieldLink RX5 32 (TX5 6).1 (TX5 6).2.1 (TX5 6).2.2.1 ∈ mf_tbl := mf_m2 (i := 165) rfl rfl
set_option maxRecDepth 100000 in
theorem fl_X5_35 : Cond.fieldLink RX5 35 (TX5 7).1 (TX5 7).2.1 (TX5 7).2.2.1 ∈ mf_tbl := mf_m2 (i := 166) rfl rfl
set_option maxRecDepth 100000 in
theorem fl_X5_38 : Cond.fieldLink RX5 38 (TX5 8).1 (TX5 8).2.1 (TX5 8).2.2.1 ∈ mf_tbl := mf_m2 (i := 167) rfl rfl
set_option maxRecDepth 100000 in
theorem fl_X5_41 : Cond.fieldLink RX5 41 (TX5 9).1 (TX5 9).2.1 (TX5 9).2.2.1 ∈ mf_tbl := mf_m2 (i := 168) rfl rfl
set_option maxRecDepth 100000 in
theorem fl_X5_44 : Cond.fieldLink RX5 44 (TX5 0).1 (TX5 0).2.1 (TX5 0).2.2.1 ∈ mf_tbl := mf_m2 (i := 159) rfl rfl
set_option maxRecDepth 100000 in
theorem fl_X5_54 : Cond.fieldLink RX5 54 (TX1 8).1 (TX1 8).2.1 (TX1 8).2.2.1 ∈ mf_tbl := mf_m2 (i := 44) rfl rfl
set_option maxRecDepth 100000 in
theorem ml_X5_48 : Cond.methodLink RX5 48 yX0_countPairs ∈ mf_tbl := mf_m4 (i := 149) rfl rfl
set_option maxRecDepth 100000 in
theorem sm_X0_countPairs : Cond.static yX0_countPairs ∈ mf_tbl := mf_m4 (i := 138) rfl rfl
set_option maxRecDepth 100000 in
theorem fl_X5_60 : Cond.fieldLink RX5 60 (TX5 10).1 (TX5 10).2.1 (TX5 10).2.2.1 ∈ mf_tbl := mf_m2 (i := 169) rfl rfl
set_option maxRecDepth 100000 in
theorem ml_X5_63 : Cond.methodLink RX5 63 yX5_tryReadings ∈ mf_tbl := mf_m4 (i := 162) rfl rfl
set_option maxRecDepth 100000 in
theorem im_X5_tryReadings : Cond.instanceMethod yX5_tryReadings ∈ mf_tbl := mf_m4 (i := 164) rfl rfl
set_option maxRecDepth 100000 in
theorem sl_X5_tryReadings : Cond.selects yX5_tryReadings.cls yX5_tryReadings yX5_tryReadings ∈ mf_tbl := mf_s2 (i := 10) rfl
set_option maxRecDepth 100000 in
theorem ml_X5_73 : Cond.methodLink RX5 73 yX6_copyFolk ∈ mf_tbl := mf_m4 (i := 167) rfl rfl
set_option maxRecDepth 100000 in
theorem im_X6_copyFolk : Cond.instanceMethod yX6_copyFolk ∈ mf_tbl := mf_m4 (i := 3) rfl rfl
set_option maxRecDepth 100000 in
theorem sl_X6_copyFolk : Cond.selects yX6_copyFolk.cls yX6_copyFolk yX6_copyFolk ∈ mf_tbl := mf_m4 (i := 4) rfl rfl
set_option maxRecDepth 100000 in
theorem ml_X5_77 : Cond.methodLink RX5 77 yX0_passDay ∈ mf_tbl := mf_m4 (i := 168) rfl rfl
set_option maxRecDepth 100000 in
theorem im_X0_passDay : Cond.instanceMethod yX0_passDay ∈ mf_tbl := mf_m4 (i := 169) rfl rfl
set_option maxRecDepth 100000 in
theorem sl_X0_passDay : Cond.selects yX0_passDay.cls yX0_passDay yX0_passDay ∈ mf_tbl := mf_m4 (i := 170) rfl rfl
set_option maxRecDepth 100000 in
theorem ml_X5_67 : Cond.methodLink RX5 67 arraycopyName ∈ mf_tbl := mf_m4 (i := 166) rfl rfl
set_option maxRecDepth 100000 in
theorem na_copy : Cond.native arraycopyName ∈ mf_tbl := mf_m4 (i := 8) rfl rfl
set_option maxRecDepth 100000 in
theorem st_copy : Cond.static arraycopyName ∈ mf_tbl := mf_m4 (i := 7) rfl rfl
set_option maxRecDepth 100000 in
theorem ii_System : Cond.initialized "java/lang/System" ∈ mf_tbl := mf_m1 (i := 19) rfl rfl
set_option maxRecDepth 100000 in
theorem fl_X5_80 : Cond.fieldLink RX5 80 (TX6 4).1 (TX6 4).2.1 (TX6 4).2.2.1 ∈ mf_tbl := mf_m1 (i := 237) rfl rfl
set_option maxRecDepth 100000 in
theorem fl_X5_83 : Cond.fieldLink RX5 83 (TX6 7).1 (TX6 7).2.1 (TX6 7).2.2.1 ∈ mf_tbl := mf_m2 (i := 3) rfl rfl
set_option maxRecDepth 100000 in
theorem ml_X5_86 : Cond.methodLink RX5 86 yX0_openingOf ∈ mf_tbl := mf_m4 (i := 210) rfl rfl
set_option maxRecDepth 100000 in
theorem im_X0_openingOf : Cond.instanceMethod yX0_openingOf ∈ mf_tbl := mf_m4 (i := 28) rfl rfl
set_option maxRecDepth 100000 in
theorem sl_X0_openingOf : Cond.selects yX0_openingOf.cls yX0_openingOf yX0_openingOf ∈ mf_tbl := mf_m4 (i := 29) rfl rfl
set_option maxRecDepth 100000 in
theorem fl_X5_90 : Cond.fieldLink RX5 90 (TX6 1).1 (TX6 1).2.1 (TX6 1).2.2.1 ∈ mf_tbl := mf_m1 (i := 224) rfl rfl
set_option maxRecDepth 100000 in
theorem fl_X5_93 : Cond.fieldLink RX5 93 (TX6 2).1 (TX6 2).2.1 (TX6 2).2.2.1 ∈ mf_tbl := mf_m1 (i := 229) rfl rfl
set_option maxRecDepth 100000 in
theorem ml_X5_96 : Cond.methodLink RX5 96 yX5_spread ∈ mf_tbl := mf_m4 (i := 223) rfl rfl
set_option maxRecDepth 100000 in
theorem im_X5_spread : Cond.instanceMethod yX5_spread ∈ mf_tbl := mf_m4 (i := 225) rfl rfl
set_option maxRecDepth 100000 in
theorem sl_X5_spread : Cond.selects yX5_spread.cls yX5_spread yX5_spread ∈ mf_tbl := mf_s2 (i := 15) rfl
set_option maxRecDepth 100000 in
theorem ml_X5_100 : Cond.methodLink RX5 100 yX0_liesOnNext ∈ mf_tbl := mf_m4 (i := 227) rfl rfl
set_option maxRecDepth 100000 in
theorem ml_X5_104 : Cond.methodLink RX5 104 yX5_mirrorBits ∈ mf_tbl := mf_m4 (i := 228) rfl rfl
set_option maxRecDepth 100000 in
theorem sm_X5_mirrorBits : Cond.static yX5_mirrorBits ∈ mf_tbl := mf_m4 (i := 229) rfl rfl
set_option maxRecDepth 100000 in
theorem fl_X5_107 : Cond.fieldLink RX5 107 (TX1 11).1 (TX1 11).2.1 (TX1 11).2.2.1 ∈ mf_tbl := mf_m2 (i := 59) rfl rfl
set_option maxRecDepth 100000 in
theorem fl_X5_119 : Cond.fieldLink RX5 119 (TX1 9).1 (TX1 9).2.1 (TX1 9).2.2.1 ∈ mf_tbl := mf_m2 (i := 52) rfl rfl
set_option maxRecDepth 100000 in
theorem fl_X5_110 : Cond.fieldLink RX5 110 (TX1 0).1 (TX1 0).2.1 (TX1 0).2.2.1 ∈ mf_tbl := mf_m2 (i := 24) rfl rfl
set_option maxRecDepth 100000 in
theorem fl_X5_113 : Cond.fieldLink RX5 113 (TX1 1).1 (TX1 1).2.1 (TX1 1).2.2.1 ∈ mf_tbl := mf_m2 (i := 26) rfl rfl
set_option maxRecDepth 100000 in
theorem fl_X5_116 : Cond.fieldLink RX5 116 (TX1 2).1 (TX1 2).2.1 (TX1 2).2.2.1 ∈ mf_tbl := mf_m2 (i := 28) rfl rfl
set_option maxRecDepth 100000 in
theorem fl_X5_122 : Cond.fieldLink RX5 122 (TX6 0).1 (TX6 0).2.1 (TX6 0).2.2.1 ∈ mf_tbl := mf_m1 (i := 219) rfl rfl
set_option maxRecDepth 100000 in
theorem ml_X5_125 : Cond.methodLink RX5 125 yX1_mirror ∈ mf_tbl := mf_m4 (i := 231) rfl rfl
set_option maxRecDepth 100000 in
theorem fl_X5_129 : Cond.fieldLink RX5 129 (TX8 1).1 (TX8 1).2.1 (TX8 1).2.2.1 ∈ mf_tbl := mf_m1 (i := 104) rfl rfl
set_option maxRecDepth 100000 in
theorem fl_X5_140 : Cond.fieldLink RX5 140 (TX5 11).1 (TX5 11).2.1 (TX5 11).2.2.1 ∈ mf_tbl := mf_m2 (i := 171) rfl rfl
set_option maxRecDepth 100000 in
theorem ml_X5_134 : Cond.methodLink RX5 134 yX8_byteAt ∈ mf_tbl := mf_m5 (i := 0) rfl rfl
set_option maxRecDepth 100000 in
theorem im_X8_byteAt : Cond.instanceMethod yX8_byteAt ∈ mf_tbl := mf_m5 (i := 1) rfl rfl
set_option maxRecDepth 100000 in
theorem sl_X8_byteAt : Cond.selects yX8_byteAt.cls yX8_byteAt yX8_byteAt ∈ mf_tbl := mf_m5 (i := 2) rfl rfl
set_option maxRecDepth 100000 in
theorem fl_X5_137 : Cond.fieldLink RX5 137 (TX1 12).1 (TX1 12).2.1 (TX1 12).2.2.1 ∈ mf_tbl := mf_m2 (i := 65) rfl rfl
set_option maxRecDepth 100000 in
theorem ml_X5_143 : Cond.methodLink RX5 143 yX5_isAsSeen ∈ mf_tbl := mf_m5 (i := 12) rfl rfl
set_option maxRecDepth 100000 in
theorem im_X5_isAsSeen : Cond.instanceMethod yX5_isAsSeen ∈ mf_tbl := mf_m5 (i := 14) rfl rfl
set_option maxRecDepth 100000 in
theorem sl_X5_isAsSeen : Cond.selects yX5_isAsSeen.cls yX5_isAsSeen yX5_isAsSeen ∈ mf_tbl := mf_s3 (i := 0) rfl
set_option maxRecDepth 100000 in
theorem ml_X5_151 : Cond.methodLink RX5 151 yX5_mostLeft ∈ mf_tbl := mf_m5 (i := 26) rfl rfl
set_option maxRecDepth 100000 in
theorem im_X5_mostLeft : Cond.instanceMethod yX5_mostLeft ∈ mf_tbl := mf_m5 (i := 28) rfl rfl
set_option maxRecDepth 100000 in
theorem sl_X5_mostLeft : Cond.selects yX5_mostLeft.cls yX5_mostLeft yX5_mostLeft ∈ mf_tbl := mf_s3 (i := 1) rfl
set_option maxRecDepth 100000 in
theorem ml_X5_147 : Cond.methodLink RX5 147 yX5_findOpenings ∈ mf_tbl := mf_m5 (i := 25) rfl rfl
set_option maxRecDepth 100000 in
theorem im_X5_findOpenings : Cond.instanceMethod yX5_findOpenings ∈ mf_tbl := mf_m5 (i := 9) rfl rfl
set_option maxRecDepth 100000 in
theorem sl_X5_findOpenings : Cond.selects yX5_findOpenings.cls yX5_findOpenings yX5_findOpenings ∈ mf_tbl := mf_m5 (i := 10) rfl rfl
set_option maxRecDepth 100000 in
theorem ml_X5_155 : Cond.methodLink RX5 155 yJ9_max_7cf53 ∈ mf_tbl := mf_m5 (i := 30) rfl rfl
set_option maxRecDepth 100000 in
theorem ml_X5_161 : Cond.methodLink RX5 161 yX6_whoStands ∈ mf_tbl := mf_m5 (i := 39) rfl rfl
set_option maxRecDepth 100000 in
theorem im_X6_whoStands : Cond.instanceMethod yX6_whoStands ∈ mf_tbl := mf_m3 (i := 125) rfl rfl
set_option maxRecDepth 100000 in
theorem sl_X6_whoStands : Cond.selects yX6_whoStands.cls yX6_whoStands yX6_whoStands ∈ mf_tbl := mf_m3 (i := 126) rfl rfl
set_option maxRecDepth 100000 in
theorem ml_X5_165 : Cond.methodLink RX5 165 yX6_isFree ∈ mf_tbl := mf_m5 (i := 40) rfl rfl
set_option maxRecDepth 100000 in
theorem ml_X6_3 : Cond.methodLink RX6 3 Lib.objectInit ∈ mf_tbl := mf_m1 (i := 217) rfl rfl
set_option maxRecDepth 100000 in
theorem fl_X6_9 : Cond.fieldLink RX6 9 (TX6 0).1 (TX6 0).2.1 (TX6 0).2.2.1 ∈ mf_tbl := mf_m1 (i := 218) rfl rfl
set_option maxRecDepth 100000 in
theorem fl_X6_15 : Cond.fieldLink RX6 15 (TX6 1).1 (TX6 1).2.1 (TX6 1).2.2.1 ∈ mf_tbl := mf_m1 (i := 221) rfl rfl
set_option maxRecDepth 100000 in
theorem fl_X6_18 : Cond.fieldLink RX6 18 (TX6 2).1 (TX6 2).2.1 (TX6 2).2.2.1 ∈ mf_tbl := mf_m1 (i := 226) rfl rfl
set_option maxRecDepth 100000 in
theorem fl_X6_21 : Cond.fieldLink RX6 21 (TX6 3).1 (TX6 3).2.1 (TX6 3).2.2.1 ∈ mf_tbl := mf_m1 (i := 231) rfl rfl
set_option maxRecDepth 100000 in
theorem fl_X6_24 : Cond.fieldLink RX6 24 (TX6 4).1 (TX6 4).2.1 (TX6 4).2.2.1 ∈ mf_tbl := mf_m1 (i := 235) rfl rfl
set_option maxRecDepth 100000 in
theorem fl_X6_27 : Cond.fieldLink RX6 27 (TX6 5).1 (TX6 5).2.1 (TX6 5).2.2.1 ∈ mf_tbl := mf_m2 (i := 0) rfl rfl
set_option maxRecDepth 100000 in
theorem fl_X6_30 : Cond.fieldLink RX6 30 (TX6 7).1 (TX6 7).2.1 (TX6 7).2.2.1 ∈ mf_tbl := mf_m2 (i := 2) rfl rfl
set_option maxRecDepth 100000 in
theorem fl_X6_34 : Cond.fieldLink RX6 34 (TX6 6).1 (TX6 6).2.1 (TX6 6).2.2.1 ∈ mf_tbl := mf_m2 (i := 1) rfl rfl
set_option maxRecDepth 100000 in
theorem ml_X6_37 : Cond.methodLink RX6 37 yX6_copyFolk ∈ mf_tbl := mf_m4 (i := 2) rfl rfl
set_option maxRecDepth 100000 in
theorem ml_X6_41 : Cond.methodLink RX6 41 arraycopyName ∈ mf_tbl := mf_m4 (i := 6) rfl rfl
set_option maxRecDepth 100000 in
theorem ml_X6_47 : Cond.methodLink RX6 47 yJ6_bitCount_0f7a4 ∈ mf_tbl := mf_m4 (i := 21) rfl rfl
set_option maxRecDepth 100000 in
theorem sm_J6_bitCount_0f7a4 : Cond.static yJ6_bitCount_0f7a4 ∈ mf_tbl := mf_m4 (i := 22) rfl rfl
set_option maxRecDepth 100000 in
theorem ml_X6_53 : Cond.methodLink RX6 53 yX6_hasGloss ∈ mf_tbl := mf_m3 (i := 120) rfl rfl
set_option maxRecDepth 100000 in
theorem im_X6_hasGloss : Cond.instanceMethod yX6_hasGloss ∈ mf_tbl := mf_m3 (i := 121) rfl rfl
set_option maxRecDepth 100000 in
theorem sl_X6_hasGloss : Cond.selects yX6_hasGloss.cls yX6_hasGloss yX6_hasGloss ∈ mf_tbl := mf_m3 (i := 122) rfl rfl
set_option maxRecDepth 100000 in
theorem ml_X6_57 : Cond.methodLink RX6 57 yX6_whoStands ∈ mf_tbl := mf_m3 (i := 124) rfl rfl
set_option maxRecDepth 100000 in
theorem ml_X6_61 : Cond.methodLink RX6 61 yJ9_min_7cf53 ∈ mf_tbl := mf_m4 (i := 71) rfl rfl
set_option maxRecDepth 100000 in
theorem ml_X6_67 : Cond.methodLink RX6 67 yJ9_max_7cf53 ∈ mf_tbl := mf_m4 (i := 192) rfl rfl
set_option maxRecDepth 100000 in
theorem ml_X6_70 : Cond.methodLink RX6 70 yJ9_floorMod_7cf53 ∈ mf_tbl := mf_m4 (i := 121) rfl rfl
set_option maxRecDepth 100000 in
theorem ml_X6_73 : Cond.methodLink RX6 73 yX6_countKept ∈ mf_tbl := mf_m4 (i := 120) rfl rfl
set_option maxRecDepth 100000 in
theorem im_X6_countKept : Cond.instanceMethod yX6_countKept ∈ mf_tbl := mf_m4 (i := 68) rfl rfl
set_option maxRecDepth 100000 in
theorem sl_X6_countKept : Cond.selects yX6_countKept.cls yX6_countKept yX6_countKept ∈ mf_tbl := mf_m4 (i := 69) rfl rfl
set_option maxRecDepth 100000 in
theorem ml_X6_96 : Cond.methodLink RX6 96 yX6_forget ∈ mf_tbl := mf_m5 (i := 138) rfl rfl
set_option maxRecDepth 100000 in
theorem ml_X6_99 : Cond.methodLink RX6 99 yX8_pairAt ∈ mf_tbl := mf_m5 (i := 139) rfl rfl
set_option maxRecDepth 100000 in
theorem im_X8_pairAt : Cond.instanceMethod yX8_pairAt ∈ mf_tbl := mf_m5 (i := 140) rfl rfl
set_option maxRecDepth 100000 in
theorem sl_X8_pairAt : Cond.selects yX8_pairAt.cls yX8_pairAt yX8_pairAt ∈ mf_tbl := mf_m5 (i := 141) rfl rfl
set_option maxRecDepth 100000 in
theorem ml_X6_90 : Cond.methodLink RX6 90 yX8_byteAt ∈ mf_tbl := mf_m5 (i := 136) rfl rfl
set_option maxRecDepth 100000 in
theorem ml_X6_93 : Cond.methodLink RX6 93 yX8_nextCheck ∈ mf_tbl := mf_m5 (i := 137) rfl rfl
set_option maxRecDepth 100000 in
theorem sm_X8_nextCheck : Cond.static yX8_nextCheck ∈ mf_tbl := mf_m5 (i := 122) rfl rfl
set_option maxRecDepth 100000 in
theorem fl_X6_77 : Cond.fieldLink RX6 77 (TX1 8).1 (TX1 8).2.1 (TX1 8).2.2.1 ∈ mf_tbl := mf_m2 (i := 48) rfl rfl
set_option maxRecDepth 100000 in
theorem fl_X6_102 : Cond.fieldLink RX6 102 (TX1 9).1 (TX1 9).2.1 (TX1 9).2.2.1 ∈ mf_tbl := mf_m2 (i := 54) rfl rfl
set_option maxRecDepth 100000 in
theorem fl_X6_82 : Cond.fieldLink RX6 82 (TX1 12).1 (TX1 12).2.1 (TX1 12).2.2.1 ∈ mf_tbl := mf_m2 (i := 66) rfl rfl
set_option maxRecDepth 100000 in
theorem ml_X6_105 : Cond.methodLink RX6 105 yX6_takeBeing ∈ mf_tbl := mf_m5 (i := 144) rfl rfl
set_option maxRecDepth 100000 in
theorem im_X6_takeBeing : Cond.instanceMethod yX6_takeBeing ∈ mf_tbl := mf_m5 (i := 146) rfl rfl
set_option maxRecDepth 100000 in
theorem sl_X6_takeBeing : Cond.selects yX6_takeBeing.cls yX6_takeBeing yX6_takeBeing ∈ mf_tbl := mf_s3 (i := 8) rfl
set_option maxRecDepth 100000 in
theorem fl_X6_85 : Cond.fieldLink RX6 85 (TX8 1).1 (TX8 1).2.1 (TX8 1).2.2.1 ∈ mf_tbl := mf_m1 (i := 105) rfl rfl
set_option maxRecDepth 100000 in
theorem ml_X6_109 : Cond.methodLink RX6 109 yX6_isFree ∈ mf_tbl := mf_m5 (i := 148) rfl rfl
set_option maxRecDepth 100000 in
theorem ml_X7_7 : Cond.methodLink RX7 7 Lib.objectInit ∈ mf_tbl := mf_m1 (i := 190) rfl rfl
set_option maxRecDepth 100000 in
theorem fl_X7_13 : Cond.fieldLink RX7 13 (TX7 0).1 (TX7 0).2.1 (TX7 0).2.2.1 ∈ mf_tbl := mf_m1 (i := 191) rfl rfl
set_option maxRecDepth 100000 in
theorem fl_X7_17 : Cond.fieldLink RX7 17 (TX7 1).1 (TX7 1).2.1 (TX7 1).2.2.1 ∈ mf_tbl := mf_m1 (i := 192) rfl rfl
set_option maxRecDepth 100000 in
theorem fl_X7_21 : Cond.fieldLink RX7 21 (TX7 2).1 (TX7 2).2.1 (TX7 2).2.2.1 ∈ mf_tbl := mf_m1 (i := 193) rfl rfl
set_option maxRecDepth 100000 in
theorem fl_X7_25 : Cond.fieldLink RX7 25 (TX7 3).1 (TX7 3).2.1 (TX7 3).2.2.1 ∈ mf_tbl := mf_m1 (i := 194) rfl rfl
set_option maxRecDepth 100000 in
theorem ml_X7_60 : Cond.methodLink RX7 60 yX9_step ∈ mf_tbl := mf_m3 (i := 191) rfl rfl
set_option maxRecDepth 100000 in
theorem ml_X7_63 : Cond.methodLink RX7 63 yX4_begin ∈ mf_tbl := mf_m5 (i := 96) rfl rfl
set_option maxRecDepth 100000 in
theorem ml_X7_67 : Cond.methodLink RX7 67 yX7_readTest ∈ mf_tbl := mf_m3 (i := 224) rfl rfl
set_option maxRecDepth 100000 in
theorem ml_X7_70 : Cond.methodLink RX7 70 yX7_readSum ∈ mf_tbl := mf_m3 (i := 200) rfl rfl
set_option maxRecDepth 100000 in
theorem fl_X7_53 : Cond.fieldLink RX7 53 (TX9 3).1 (TX9 3).2.1 (TX9 3).2.2.1 ∈ mf_tbl := mf_m1 (i := 124) rfl rfl
set_option maxRecDepth 100000 in
theorem ml_X7_56 : Cond.methodLink RX7 56 yX9_fail ∈ mf_tbl := mf_m3 (i := 206) rfl rfl
set_option maxRecDepth 100000 in
theorem ml_X7_73 : Cond.methodLink RX7 73 yX4_finish ∈ mf_tbl := mf_m5 (i := 97) rfl rfl
set_option maxRecDepth 100000 in
theorem fl_X7_43 : Cond.fieldLink RX7 43 (TX9 2).1 (TX9 2).2.1 (TX9 2).2.2.1 ∈ mf_tbl := mf_m1 (i := 121) rfl rfl
set_option maxRecDepth 100000 in
theorem ml_X7_29 : Cond.methodLink RX7 29 yX4_forget ∈ mf_tbl := mf_m5 (i := 93) rfl rfl
set_option maxRecDepth 100000 in
theorem ml_X7_34 : Cond.methodLink RX7 34 yX7_writeTo ∈ mf_tbl := mf_m5 (i := 94) rfl rfl
set_option maxRecDepth 100000 in
theorem ml_X7_38 : Cond.methodLink RX7 38 yX9_start ∈ mf_tbl := mf_m5 (i := 95) rfl rfl
set_option maxRecDepth 100000 in
theorem fl_X7_46 : Cond.fieldLink RX7 46 (TX9 5).1 (TX9 5).2.1 (TX9 5).2.2.1 ∈ mf_tbl := mf_m1 (i := 128) rfl rfl
set_option maxRecDepth 100000 in
theorem ml_X7_49 : Cond.methodLink RX7 49 yX10_find ∈ mf_tbl := mf_m3 (i := 190) rfl rfl
set_option maxRecDepth 100000 in
theorem ml_X7_76 : Cond.methodLink RX7 76 yX7_readFact ∈ mf_tbl := mf_m3 (i := 219) rfl rfl
set_option maxRecDepth 100000 in
theorem im_X7_readFact : Cond.instanceMethod yX7_readFact ∈ mf_tbl := mf_m3 (i := 221) rfl rfl
set_option maxRecDepth 100000 in
theorem sl_X7_readFact : Cond.selects yX7_readFact.cls yX7_readFact yX7_readFact ∈ mf_tbl := mf_s2 (i := 0) rfl
set_option maxRecDepth 100000 in
theorem fl_X7_79 : Cond.fieldLink RX7 79 (TX9 8).1 (TX9 8).2.1 (TX9 8).2.2.1 ∈ mf_tbl := mf_m1 (i := 135) rfl rfl
set_option maxRecDepth 100000 in
theorem ml_X7_82 : Cond.methodLink RX7 82 yX4_add ∈ mf_tbl := mf_m3 (i := 186) rfl rfl
set_option maxRecDepth 100000 in
theorem im_X4_add : Cond.instanceMethod yX4_add ∈ mf_tbl := mf_m3 (i := 187) rfl rfl
set_option maxRecDepth 100000 in
theorem sl_X4_add : Cond.selects yX4_add.cls yX4_add yX4_add ∈ mf_tbl := mf_m3 (i := 188) rfl rfl
set_option maxRecDepth 100000 in
theorem ml_X7_85 : Cond.methodLink RX7 85 yX9_isWord ∈ mf_tbl := mf_m3 (i := 223) rfl rfl
set_option maxRecDepth 100000 in
theorem im_X9_isWord : Cond.instanceMethod yX9_isWord ∈ mf_tbl := mf_m3 (i := 97) rfl rfl
set_option maxRecDepth 100000 in
theorem sl_X9_isWord : Cond.selects yX9_isWord.cls yX9_isWord yX9_isWord ∈ mf_tbl := mf_m3 (i := 98) rfl rfl
set_option maxRecDepth 100000 in
theorem ml_X7_92 : Cond.methodLink RX7 92 yX9_isSign ∈ mf_tbl := mf_m3 (i := 192) rfl rfl
set_option maxRecDepth 100000 in
theorem im_X9_isSign : Cond.instanceMethod yX9_isSign ∈ mf_tbl := mf_m3 (i := 193) rfl rfl
set_option maxRecDepth 100000 in
theorem sl_X9_isSign : Cond.selects yX9_isSign.cls yX9_isSign yX9_isSign ∈ mf_tbl := mf_m3 (i := 194) rfl rfl
set_option maxRecDepth 100000 in
theorem ml_X7_100 : Cond.methodLink RX7 100 yX7_compareSign ∈ mf_tbl := mf_m3 (i := 225) rfl rfl
set_option maxRecDepth 100000 in
theorem im_X7_compareSign : Cond.instanceMethod yX7_compareSign ∈ mf_tbl := mf_m3 (i := 227) rfl rfl
set_option maxRecDepth 100000 in
theorem sl_X7_compareSign : Cond.selects yX7_compareSign.cls yX7_compareSign yX7_compareSign ∈ mf_tbl := mf_s2 (i := 1) rfl
set_option maxRecDepth 100000 in
theorem ml_X7_89 : Cond.methodLink RX7 89 yX9_mayOpen ∈ mf_tbl := mf_m3 (i := 196) rfl rfl
set_option maxRecDepth 100000 in
theorem im_X9_mayOpen : Cond.instanceMethod yX9_mayOpen ∈ mf_tbl := mf_m3 (i := 197) rfl rfl
set_option maxRecDepth 100000 in
theorem sl_X9_mayOpen : Cond.selects yX9_mayOpen.cls yX9_mayOpen yX9_mayOpen ∈ mf_tbl := mf_m3 (i := 198) rfl rfl
set_option maxRecDepth 100000 in
theorem ml_X7_96 : Cond.methodLink RX7 96 yX9_passSign ∈ mf_tbl := mf_m3 (i := 201) rfl rfl
set_option maxRecDepth 100000 in
theorem ml_X7_104 : Cond.methodLink RX7 104 yX7_readPart ∈ mf_tbl := mf_m3 (i := 180) rfl rfl
set_option maxRecDepth 100000 in
theorem im_X7_readPart : Cond.instanceMethod yX7_readPart ∈ mf_tbl := mf_m3 (i := 182) rfl rfl
set_option maxRecDepth 100000 in
theorem sl_X7_readPart : Cond.selects yX7_readPart.cls yX7_readPart yX7_readPart ∈ mf_tbl := mf_s1 (i := 12) rfl
set_option maxRecDepth 100000 in
theorem ml_X7_107 : Cond.methodLink RX7 107 yX7_productSign ∈ mf_tbl := mf_m3 (i := 207) rfl rfl
set_option maxRecDepth 100000 in
theorem im_X7_productSign : Cond.instanceMethod yX7_productSign ∈ mf_tbl := mf_m3 (i := 209) rfl rfl
set_option maxRecDepth 100000 in
theorem sl_X7_productSign : Cond.selects yX7_productSign.cls yX7_productSign yX7_productSign ∈ mf_tbl := mf_s1 (i := 13) rfl
set_option maxRecDepth 100000 in
theorem ml_X7_110 : Cond.methodLink RX7 110 yX7_sumSign ∈ mf_tbl := mf_m3 (i := 211) rfl rfl
set_option maxRecDepth 100000 in
theorem im_X7_sumSign : Cond.instanceMethod yX7_sumSign ∈ mf_tbl := mf_m3 (i := 213) rfl rfl
set_option maxRecDepth 100000 in
theorem sl_X7_sumSign : Cond.selects yX7_sumSign.cls yX7_sumSign yX7_sumSign ∈ mf_tbl := mf_s1 (i := 14) rfl
set_option maxRecDepth 100000 in
theorem ml_X7_113 : Cond.methodLink RX7 113 yX9_passNumber ∈ mf_tbl := mf_m3 (i := 184) rfl rfl
set_option maxRecDepth 100000 in
theorem ml_X7_117 : Cond.methodLink RX7 117 yJ9_max_7cf53 ∈ mf_tbl := mf_m3 (i := 185) rfl rfl
set_option maxRecDepth 100000 in
theorem ml_X8_3 : Cond.methodLink RX8 3 Lib.objectInit ∈ mf_tbl := mf_m1 (i := 98) rfl rfl
set_option maxRecDepth 100000 in
theorem ac_21 : Cond.arrayClass (newarray.typeOf .byte) ∈ mf_tbl := mf_m1 (i := 92) rfl rfl
set_option maxRecDepth 100000 in
theorem fl_X8_9 : Cond.fieldLink RX8 9 (TX8 0).1 (TX8 0).2.1 (TX8 0).2.2.1 ∈ mf_tbl := mf_m1 (i := 99) rfl rfl
set_option maxRecDepth 100000 in
theorem fl_X8_15 : Cond.fieldLink RX8 15 (TX8 1).1 (TX8 1).2.1 (TX8 1).2.2.1 ∈ mf_tbl := mf_m1 (i := 102) rfl rfl
set_option maxRecDepth 100000 in
theorem ml_X8_19 : Cond.methodLink RX8 19 yX8_byteAt ∈ mf_tbl := mf_m5 (i := 143) rfl rfl
set_option maxRecDepth 100000 in
theorem ml_X9_3 : Cond.methodLink RX9 3 Lib.objectInit ∈ mf_tbl := mf_m1 (i := 116) rfl rfl
set_option maxRecDepth 100000 in
theorem fl_X9_9 : Cond.fieldLink RX9 9 (TX9 0).1 (TX9 0).2.1 (TX9 0).2.2.1 ∈ mf_tbl := mf_m1 (i := 117) rfl rfl
set_option maxRecDepth 100000 in
theorem fl_X9_15 : Cond.fieldLink RX9 15 (TX9 1).1 (TX9 1).2.1 (TX9 1).2.2.1 ∈ mf_tbl := mf_m1 (i := 118) rfl rfl
set_option maxRecDepth 100000 in
theorem fl_X9_19 : Cond.fieldLink RX9 19 (TX9 8).1 (TX9 8).2.1 (TX9 8).2.2.1 ∈ mf_tbl := mf_m1 (i := 133) rfl rfl
set_option maxRecDepth 100000 in
theorem fl_X9_23 : Cond.fieldLink RX9 23 (TX9 9).1 (TX9 9).2.1 (TX9 9).2.2.1 ∈ mf_tbl := mf_m1 (i := 137) rfl rfl
set_option maxRecDepth 100000 in
theorem fl_X9_26 : Cond.fieldLink RX9 26 (TX9 6).1 (TX9 6).2.1 (TX9 6).2.2.1 ∈ mf_tbl := mf_m1 (i := 130) rfl rfl
set_option maxRecDepth 100000 in
theorem fl_X9_29 : Cond.fieldLink RX9 29 (TX9 2).1 (TX9 2).2.1 (TX9 2).2.2.1 ∈ mf_tbl := mf_m1 (i := 119) rfl rfl
set_option maxRecDepth 100000 in
theorem ml_X9_32 : Cond.methodLink RX9 32 yX9_step ∈ mf_tbl := mf_m3 (i := 56) rfl rfl
set_option maxRecDepth 100000 in
theorem fl_X9_35 : Cond.fieldLink RX9 35 (TX8 1).1 (TX8 1).2.1 (TX8 1).2.2.1 ∈ mf_tbl := mf_m1 (i := 103) rfl rfl
set_option maxRecDepth 100000 in
theorem fl_X9_40 : Cond.fieldLink RX9 40 (TX8 0).1 (TX8 0).2.1 (TX8 0).2.2.1 ∈ mf_tbl := mf_m1 (i := 100) rfl rfl
set_option maxRecDepth 100000 in
theorem ml_X9_44 : Cond.methodLink RX9 44 yJ9_min_7cf53 ∈ mf_tbl := mf_m3 (i := 60) rfl rfl
set_option maxRecDepth 100000 in
theorem ml_X9_50 : Cond.methodLink RX9 50 yJ9_max_7cf53 ∈ mf_tbl := mf_m3 (i := 63) rfl rfl
set_option maxRecDepth 100000 in
theorem fl_X9_53 : Cond.fieldLink RX9 53 (TX9 3).1 (TX9 3).2.1 (TX9 3).2.2.1 ∈ mf_tbl := mf_m1 (i := 123) rfl rfl
set_option maxRecDepth 100000 in
theorem fl_X9_56 : Cond.fieldLink RX9 56 (TX9 4).1 (TX9 4).2.1 (TX9 4).2.2.1 ∈ mf_tbl := mf_m1 (i := 125) rfl rfl
set_option maxRecDepth 100000 in
theorem fl_X9_57 : Cond.fieldLink RX9 57 (TX9 5).1 (TX9 5).2.1 (TX9 5).2.2.1 ∈ mf_tbl := mf_m1 (i := 129) rfl rfl
set_option maxRecDepth 100000 in
theorem ml_X9_60 : Cond.methodLink RX9 60 yX9_takeWhole ∈ mf_tbl := mf_m3 (i := 66) rfl rfl
set_option maxRecDepth 100000 in
theorem im_X9_takeWhole : Cond.instanceMethod yX9_takeWhole ∈ mf_tbl := mf_m3 (i := 68) rfl rfl
set_option maxRecDepth 100000 in
theorem sl_X9_takeWhole : Cond.selects yX9_takeWhole.cls yX9_takeWhole yX9_takeWhole ∈ mf_tbl := mf_s1 (i := 0) rfl
set_option maxRecDepth 100000 in
theorem ml_X9_66 : Cond.methodLink RX9 66 yX10_isThat ∈ mf_tbl := mf_m3 (i := 100) rfl rfl
set_option maxRecDepth 100000 in
theorem im_X10_isThat : Cond.instanceMethod yX10_isThat ∈ mf_tbl := mf_m3 (i := 101) rfl rfl
set_option maxRecDepth 100000 in
theorem sl_X10_isThat : Cond.selects yX10_isThat.cls yX10_isThat yX10_isThat ∈ mf_tbl := mf_m3 (i := 102) rfl rfl
set_option maxRecDepth 100000 in
theorem ml_X9_70 : Cond.methodLink RX9 70 yX9_isSign ∈ mf_tbl := mf_m3 (i := 205) rfl rfl
set_option maxRecDepth 100000 in
theorem ml_X9_74 : Cond.methodLink RX9 74 yX9_fail ∈ mf_tbl := mf_m3 (i := 91) rfl rfl
set_option maxRecDepth 100000 in
theorem ml_X9_78 : Cond.methodLink RX9 78 yX9_isWord ∈ mf_tbl := mf_m3 (i := 96) rfl rfl
set_option maxRecDepth 100000 in
theorem fl_X9_82 : Cond.fieldLink RX9 82 (TX9 7).1 (TX9 7).2.1 (TX9 7).2.2.1 ∈ mf_tbl := mf_m1 (i := 132) rfl rfl
set_option maxRecDepth 100000 in
theorem ml_X10_17 : Cond.methodLink RX10 17 yJ0_length_8abf5 ∈ mf_tbl := mf_m1 (i := 36) rfl rfl
set_option maxRecDepth 100000 in
theorem im_J0_length_8abf5 : Cond.instanceMethod yJ0_length_8abf5 ∈ mf_tbl := mf_m1 (i := 37) rfl rfl
set_option maxRecDepth 100000 in
theorem sl_J0_length_8abf5 : Cond.selects yJ0_length_8abf5.cls yJ0_length_8abf5 yJ0_length_8abf5 ∈ mf_tbl := mf_m1 (i := 38) rfl rfl
set_option maxRecDepth 100000 in
theorem ml_X10_23 : Cond.methodLink RX10 23 yJ0_charAt_5068e ∈ mf_tbl := mf_m1 (i := 46) rfl rfl
set_option maxRecDepth 100000 in
theorem im_J0_charAt_5068e : Cond.instanceMethod yJ0_charAt_5068e ∈ mf_tbl := mf_m1 (i := 47) rfl rfl
set_option maxRecDepth 100000 in
theorem sl_J0_charAt_5068e : Cond.selects yJ0_charAt_5068e.cls yJ0_charAt_5068e yJ0_charAt_5068e ∈ mf_tbl := mf_m1 (i := 48) rfl rfl
set_option maxRecDepth 100000 in
theorem fl_X10_11 : Cond.fieldLink RX10 11 (TX10 0).1 (TX10 0).2.1 (TX10 0).2.2.1 ∈ mf_tbl := mf_m1 (i := 87) rfl rfl
set_option maxRecDepth 100000 in
theorem ml_X10_27 : Cond.methodLink RX10 27 yX10_packListed ∈ mf_tbl := mf_m1 (i := 84) rfl rfl
set_option maxRecDepth 100000 in
theorem sm_X10_packListed : Cond.static yX10_packListed ∈ mf_tbl := mf_m1 (i := 85) rfl rfl
set_option maxRecDepth 100000 in
theorem ml_X10_3 : Cond.methodLink RX10 3 Lib.objectInit ∈ mf_tbl := mf_m1 (i := 34) rfl rfl
set_option maxRecDepth 100000 in
theorem fl_X11_89 : Cond.fieldLink RX11 89 (TX11 9).1 (TX11 9).2.1 (TX11 9).2.2.1 ∈ mf_tbl := mf_m2 (i := 208) rfl rfl
set_option maxRecDepth 100000 in
theorem fl_X11_93 : Cond.fieldLink RX11 93 (TX11 10).1 (TX11 10).2.1 (TX11 10).2.2.1 ∈ mf_tbl := mf_m2 (i := 209) rfl rfl
set_option maxRecDepth 100000 in
theorem fl_X11_97 : Cond.fieldLink RX11 97 (TX11 11).1 (TX11 11).2.1 (TX11 11).2.2.1 ∈ mf_tbl := mf_m2 (i := 210) rfl rfl
set_option maxRecDepth 100000 in
theorem fl_X11_100 : Cond.fieldLink RX11 100 (TX11 18).1 (TX11 18).2.1 (TX11 18).2.2.1 ∈ mf_tbl := mf_m2 (i := 217) rfl rfl
set_option maxRecDepth 100000 in
theorem fl_X11_104 : Cond.fieldLink RX11 104 (TX11 19).1 (TX11 19).2.1 (TX11 19).2.2.1 ∈ mf_tbl := mf_m2 (i := 218) rfl rfl
set_option maxRecDepth 100000 in
theorem kl_X11_79 : Cond.classLink RX11 79 RX6 ∈ mf_tbl := mf_m2 (i := 197) rfl rfl
set_option maxRecDepth 100000 in
theorem ml_X11_3 : Cond.methodLink RX11 3 Lib.objectInit ∈ mf_tbl := mf_m1 (i := 26) rfl rfl
set_option maxRecDepth 100000 in
theorem kl_X11_9 : Cond.classLink RX11 9 RX10 ∈ mf_tbl := mf_m1 (i := 29) rfl rfl
set_option maxRecDepth 100000 in
theorem in_X10 : Cond.instantiable RX10 1 ∈ mf_tbl := mf_m1 (i := 30) rfl rfl
set_option maxRecDepth 100000 in
theorem ii_X10 : Cond.initialized RX10 ∈ mf_tbl := mf_m1 (i := 2) rfl rfl
set_option maxRecDepth 100000 in
theorem ml_X11_11 : Cond.methodLink RX11 11 yX10_init ∈ mf_tbl := mf_m1 (i := 31) rfl rfl
set_option maxRecDepth 100000 in
theorem im_X10_init : Cond.instanceMethod yX10_init ∈ mf_tbl := mf_m1 (i := 32) rfl rfl
set_option maxRecDepth 100000 in
theorem kl_X11_12 : Cond.classLink RX11 12 RX8 ∈ mf_tbl := mf_m1 (i := 93) rfl rfl
set_option maxRecDepth 100000 in
theorem in_X8 : Cond.instantiable RX8 2 ∈ mf_tbl := mf_m1 (i := 94) rfl rfl
set_option maxRecDepth 100000 in
theorem ii_X8 : Cond.initialized RX8 ∈ mf_tbl := mf_m1 (i := 7) rfl rfl
set_option maxRecDepth 100000 in
theorem im_X8_init : Cond.instanceMethod yX8_init ∈ mf_tbl := mf_m1 (i := 96) rfl rfl
set_option maxRecDepth 100000 in
theorem fl_X11_15 : Cond.fieldLink RX11 15 (TX11 0).1 (TX11 0).2.1 (TX11 0).2.2.1 ∈ mf_tbl := mf_m2 (i := 199) rfl rfl
set_option maxRecDepth 100000 in
theorem kl_X11_19 : Cond.classLink RX11 19 RX9 ∈ mf_tbl := mf_m1 (i := 111) rfl rfl
set_option maxRecDepth 100000 in
theorem in_X9 : Cond.instantiable RX9 10 ∈ mf_tbl := mf_m1 (i := 112) rfl rfl
set_option maxRecDepth 100000 in
theorem ii_X9 : Cond.initialized RX9 ∈ mf_tbl := mf_m1 (i := 8) rfl rfl
set_option maxRecDepth 100000 in
theorem ml_X11_21 : Cond.methodLink RX11 21 yX9_init ∈ mf_tbl := mf_m1 (i := 113) rfl rfl
set_option maxRecDepth 100000 in
theorem im_X9_init : Cond.instanceMethod yX9_init ∈ mf_tbl := mf_m1 (i := 114) rfl rfl
set_option maxRecDepth 100000 in
theorem fl_X11_24 : Cond.fieldLink RX11 24 (TX11 1).1 (TX11 1).2.1 (TX11 1).2.2.1 ∈ mf_tbl := mf_m2 (i := 200) rfl rfl
set_option maxRecDepth 100000 in
theorem kl_X11_28 : Cond.classLink RX11 28 RX4 ∈ mf_tbl := mf_m1 (i := 160) rfl rfl
set_option maxRecDepth 100000 in
theorem fl_X11_31 : Cond.fieldLink RX11 31 (TX11 6).1 (TX11 6).2.1 (TX11 6).2.2.1 ∈ mf_tbl := mf_m2 (i := 205) rfl rfl
set_option maxRecDepth 100000 in
theorem kl_X11_35 : Cond.classLink RX11 35 RX7 ∈ mf_tbl := mf_m1 (i := 185) rfl rfl
set_option maxRecDepth 100000 in
theorem in_X7 : Cond.instantiable RX7 4 ∈ mf_tbl := mf_m1 (i := 186) rfl rfl
set_option maxRecDepth 100000 in
theorem ii_X7 : Cond.initialized RX7 ∈ mf_tbl := mf_m1 (i := 10) rfl rfl
set_option maxRecDepth 100000 in
theorem ml_X11_37 : Cond.methodLink RX11 37 yX7_init ∈ mf_tbl := mf_m1 (i := 187) rfl rfl
set_option maxRecDepth 100000 in
theorem im_X7_init : Cond.instanceMethod yX7_init ∈ mf_tbl := mf_m1 (i := 188) rfl rfl
set_option maxRecDepth 100000 in
theorem fl_X11_40 : Cond.fieldLink RX11 40 (TX11 2).1 (TX11 2).2.1 (TX11 2).2.2.1 ∈ mf_tbl := mf_m2 (i := 201) rfl rfl
set_option maxRecDepth 100000 in
theorem kl_X11_44 : Cond.classLink RX11 44 RX1 ∈ mf_tbl := mf_m1 (i := 204) rfl rfl
set_option maxRecDepth 100000 in
theorem in_X1 : Cond.instantiable RX1 14 ∈ mf_tbl := mf_m1 (i := 205) rfl rfl
set_option maxRecDepth 100000 in
theorem ii_X1 : Cond.initialized RX1 ∈ mf_tbl := mf_m1 (i := 11) rfl rfl
set_option maxRecDepth 100000 in
theorem im_X1_init : Cond.instanceMethod yX1_init ∈ mf_tbl := mf_m1 (i := 207) rfl rfl
set_option maxRecDepth 100000 in
theorem fl_X11_47 : Cond.fieldLink RX11 47 (TX11 12).1 (TX11 12).2.1 (TX11 12).2.2.1 ∈ mf_tbl := mf_m2 (i := 211) rfl rfl
set_option maxRecDepth 100000 in
theorem fl_X11_51 : Cond.fieldLink RX11 51 (TX11 13).1 (TX11 13).2.1 (TX11 13).2.2.1 ∈ mf_tbl := mf_m2 (i := 212) rfl rfl
set_option maxRecDepth 100000 in
theorem kl_X11_54 : Cond.classLink RX11 54 RX2 ∈ mf_tbl := mf_m2 (i := 99) rfl rfl
set_option maxRecDepth 100000 in
theorem in_X2 : Cond.instantiable RX2 4 ∈ mf_tbl := mf_m2 (i := 100) rfl rfl
set_option maxRecDepth 100000 in
theorem ii_X2 : Cond.initialized RX2 ∈ mf_tbl := mf_m1 (i := 13) rfl rfl
set_option maxRecDepth 100000 in
theorem ml_X11_56 : Cond.methodLink RX11 56 yX2_init ∈ mf_tbl := mf_m2 (i := 101) rfl rfl
set_option maxRecDepth 100000 in
theorem im_X2_init : Cond.instanceMethod yX2_init ∈ mf_tbl := mf_m2 (i := 102) rfl rfl
set_option maxRecDepth 100000 in
theorem fl_X11_59 : Cond.fieldLink RX11 59 (TX11 3).1 (TX11 3).2.1 (TX11 3).2.2.1 ∈ mf_tbl := mf_m2 (i := 202) rfl rfl
set_option maxRecDepth 100000 in
theorem kl_X11_63 : Cond.classLink RX11 63 RX0 ∈ mf_tbl := mf_m2 (i := 118) rfl rfl
set_option maxRecDepth 100000 in
theorem in_X0 : Cond.instantiable RX0 1 ∈ mf_tbl := mf_m2 (i := 119) rfl rfl
set_option maxRecDepth 100000 in
theorem ii_X0 : Cond.initialized RX0 ∈ mf_tbl := mf_m1 (i := 14) rfl rfl
set_option maxRecDepth 100000 in
theorem im_X0_init : Cond.instanceMethod yX0_init ∈ mf_tbl := mf_m2 (i := 121) rfl rfl
set_option maxRecDepth 100000 in
theorem fl_X11_66 : Cond.fieldLink RX11 66 (TX11 4).1 (TX11 4).2.1 (TX11 4).2.2.1 ∈ mf_tbl := mf_m2 (i := 203) rfl rfl
set_option maxRecDepth 100000 in
theorem kl_X11_70 : Cond.classLink RX11 70 RX5 ∈ mf_tbl := mf_m2 (i := 150) rfl rfl
set_option maxRecDepth 100000 in
theorem in_X5 : Cond.instantiable RX5 12 ∈ mf_tbl := mf_m2 (i := 151) rfl rfl
set_option maxRecDepth 100000 in
theorem ii_X5 : Cond.initialized RX5 ∈ mf_tbl := mf_m1 (i := 16) rfl rfl
set_option maxRecDepth 100000 in
theorem ml_X11_72 : Cond.methodLink RX11 72 yX5_init ∈ mf_tbl := mf_m2 (i := 152) rfl rfl
set_option maxRecDepth 100000 in
theorem im_X5_init : Cond.instanceMethod yX5_init ∈ mf_tbl := mf_m2 (i := 153) rfl rfl
set_option maxRecDepth 100000 in
theorem fl_X11_75 : Cond.fieldLink RX11 75 (TX11 5).1 (TX11 5).2.1 (TX11 5).2.2.1 ∈ mf_tbl := mf_m2 (i := 204) rfl rfl
set_option maxRecDepth 100000 in
theorem fl_X11_82 : Cond.fieldLink RX11 82 (TX11 7).1 (TX11 7).2.1 (TX11 7).2.2.1 ∈ mf_tbl := mf_m2 (i := 206) rfl rfl
set_option maxRecDepth 100000 in
theorem fl_X11_86 : Cond.fieldLink RX11 86 (TX11 8).1 (TX11 8).2.1 (TX11 8).2.2.1 ∈ mf_tbl := mf_m2 (i := 207) rfl rfl
set_option maxRecDepth 100000 in
theorem fl_X11_107 : Cond.fieldLink RX11 107 (TX8 1).1 (TX8 1).2.1 (TX8 1).2.2.1 ∈ mf_tbl := mf_m1 (i := 101) rfl rfl
set_option maxRecDepth 100000 in
theorem ml_X11_110 : Cond.methodLink RX11 110 yX8_add ∈ mf_tbl := mf_m3 (i := 24) rfl rfl
set_option maxRecDepth 100000 in
theorem im_X8_add : Cond.instanceMethod yX8_add ∈ mf_tbl := mf_m3 (i := 25) rfl rfl
set_option maxRecDepth 100000 in
theorem sl_X8_add : Cond.selects yX8_add.cls yX8_add yX8_add ∈ mf_tbl := mf_m3 (i := 26) rfl rfl
set_option maxRecDepth 100000 in
theorem ml_X11_114 : Cond.methodLink RX11 114 yX2_read ∈ mf_tbl := mf_m3 (i := 36) rfl rfl
set_option maxRecDepth 100000 in
theorem im_X2_read : Cond.instanceMethod yX2_read ∈ mf_tbl := mf_m3 (i := 37) rfl rfl
set_option maxRecDepth 100000 in
theorem sl_X2_read : Cond.selects yX2_read.cls yX2_read yX2_read ∈ mf_tbl := mf_m3 (i := 38) rfl rfl
set_option maxRecDepth 100000 in
theorem ml_X11_118 : Cond.methodLink RX11 118 yX11_takeFault ∈ mf_tbl := mf_m3 (i := 234) rfl rfl
set_option maxRecDepth 100000 in
theorem im_X11_takeFault : Cond.instanceMethod yX11_takeFault ∈ mf_tbl := mf_m3 (i := 236) rfl rfl
set_option maxRecDepth 100000 in
theorem sl_X11_takeFault : Cond.selects yX11_takeFault.cls yX11_takeFault yX11_takeFault ∈ mf_tbl := mf_s2 (i := 2) rfl
set_option maxRecDepth 100000 in
theorem fl_X11_121 : Cond.fieldLink RX11 121 (TX11 17).1 (TX11 17).2.1 (TX11 17).2.2.1 ∈ mf_tbl := mf_m2 (i := 216) rfl rfl
set_option maxRecDepth 100000 in
theorem fl_X11_124 : Cond.fieldLink RX11 124 (TX1 6).1 (TX1 6).2.1 (TX1 6).2.2.1 ∈ mf_tbl := mf_m2 (i := 38) rfl rfl
set_option maxRecDepth 100000 in
theorem ml_X11_127 : Cond.methodLink RX11 127 yX6_copyAll ∈ mf_tbl := mf_m3 (i := 238) rfl rfl
set_option maxRecDepth 100000 in
theorem im_X6_copyAll : Cond.instanceMethod yX6_copyAll ∈ mf_tbl := mf_m3 (i := 239) rfl rfl
set_option maxRecDepth 100000 in
theorem sl_X6_copyAll : Cond.selects yX6_copyAll.cls yX6_copyAll yX6_copyAll ∈ mf_tbl := mf_m4 (i := 0) rfl rfl
set_option maxRecDepth 100000 in
theorem fl_X11_131 : Cond.fieldLink RX11 131 (TX5 11).1 (TX5 11).2.1 (TX5 11).2.2.1 ∈ mf_tbl := mf_m2 (i := 170) rfl rfl
set_option maxRecDepth 100000 in
theorem fl_X11_134 : Cond.fieldLink RX11 134 (TX11 15).1 (TX11 15).2.1 (TX11 15).2.2.1 ∈ mf_tbl := mf_m2 (i := 214) rfl rfl
set_option maxRecDepth 100000 in
theorem fl_X11_137 : Cond.fieldLink RX11 137 (TX1 7).1 (TX1 7).2.1 (TX1 7).2.2.1 ∈ mf_tbl := mf_m2 (i := 42) rfl rfl
set_option maxRecDepth 100000 in
theorem fl_X11_140 : Cond.fieldLink RX11 140 (TX1 8).1 (TX1 8).2.1 (TX1 8).2.2.1 ∈ mf_tbl := mf_m2 (i := 47) rfl rfl
set_option maxRecDepth 100000 in
theorem fl_X11_143 : Cond.fieldLink RX11 143 (TX1 9).1 (TX1 9).2.1 (TX1 9).2.2.1 ∈ mf_tbl := mf_m2 (i := 51) rfl rfl
set_option maxRecDepth 100000 in
theorem ml_X11_146 : Cond.methodLink RX11 146 yX6_countGlosses ∈ mf_tbl := mf_m4 (i := 17) rfl rfl
set_option maxRecDepth 100000 in
theorem im_X6_countGlosses : Cond.instanceMethod yX6_countGlosses ∈ mf_tbl := mf_m4 (i := 18) rfl rfl
set_option maxRecDepth 100000 in
theorem sl_X6_countGlosses : Cond.selects yX6_countGlosses.cls yX6_countGlosses yX6_countGlosses ∈ mf_tbl := mf_m4 (i := 19) rfl rfl
set_option maxRecDepth 100000 in
theorem fl_X11_150 : Cond.fieldLink RX11 150 (TX1 11).1 (TX1 11).2.1 (TX1 11).2.2.1 ∈ mf_tbl := mf_m2 (i := 58) rfl rfl
set_option maxRecDepth 100000 in
theorem fl_X11_153 : Cond.fieldLink RX11 153 (TX1 12).1 (TX1 12).2.1 (TX1 12).2.2.1 ∈ mf_tbl := mf_m2 (i := 63) rfl rfl
set_option maxRecDepth 100000 in
theorem fl_X11_156 : Cond.fieldLink RX11 156 (TX6 7).1 (TX6 7).2.1 (TX6 7).2.2.1 ∈ mf_tbl := mf_m2 (i := 4) rfl rfl
set_option maxRecDepth 100000 in
theorem ml_X11_159 : Cond.methodLink RX11 159 yX0_openingOf ∈ mf_tbl := mf_m4 (i := 27) rfl rfl
set_option maxRecDepth 100000 in
theorem ml_X11_163 : Cond.methodLink RX11 163 yX11_allPurses ∈ mf_tbl := mf_m4 (i := 63) rfl rfl
set_option maxRecDepth 100000 in
theorem im_X11_allPurses : Cond.instanceMethod yX11_allPurses ∈ mf_tbl := mf_m4 (i := 65) rfl rfl
set_option maxRecDepth 100000 in
theorem sl_X11_allPurses : Cond.selects yX11_allPurses.cls yX11_allPurses yX11_allPurses ∈ mf_tbl := mf_s2 (i := 5) rfl
set_option maxRecDepth 100000 in
theorem ml_X11_166 : Cond.methodLink RX11 166 yX6_countKept ∈ mf_tbl := mf_m4 (i := 67) rfl rfl
set_option maxRecDepth 100000 in
theorem ml_X11_169 : Cond.methodLink RX11 169 yX11_isBeing ∈ mf_tbl := mf_m4 (i := 76) rfl rfl
set_option maxRecDepth 100000 in
theorem im_X11_isBeing : Cond.instanceMethod yX11_isBeing ∈ mf_tbl := mf_m4 (i := 78) rfl rfl
set_option maxRecDepth 100000 in
theorem sl_X11_isBeing : Cond.selects yX11_isBeing.cls yX11_isBeing yX11_isBeing ∈ mf_tbl := mf_s2 (i := 6) rfl
set_option maxRecDepth 100000 in
theorem fl_X11_173 : Cond.fieldLink RX11 173 (TX1 3).1 (TX1 3).2.1 (TX1 3).2.2.1 ∈ mf_tbl := mf_m2 (i := 30) rfl rfl
set_option maxRecDepth 100000 in
theorem ml_X11_176 : Cond.methodLink RX11 176 yX10_letterOf ∈ mf_tbl := mf_m4 (i := 80) rfl rfl
set_option maxRecDepth 100000 in
theorem sm_X10_letterOf : Cond.static yX10_letterOf ∈ mf_tbl := mf_m4 (i := 81) rfl rfl
set_option maxRecDepth 100000 in
theorem fl_X11_180 : Cond.fieldLink RX11 180 (TX6 1).1 (TX6 1).2.1 (TX6 1).2.2.1 ∈ mf_tbl := mf_m1 (i := 225) rfl rfl
set_option maxRecDepth 100000 in
theorem fl_X11_183 : Cond.fieldLink RX11 183 (TX6 2).1 (TX6 2).2.1 (TX6 2).2.2.1 ∈ mf_tbl := mf_m1 (i := 230) rfl rfl
set_option maxRecDepth 100000 in
theorem fl_X11_186 : Cond.fieldLink RX11 186 (TX1 4).1 (TX1 4).2.1 (TX1 4).2.2.1 ∈ mf_tbl := mf_m2 (i := 32) rfl rfl
set_option maxRecDepth 100000 in
theorem fl_X11_189 : Cond.fieldLink RX11 189 (TX6 3).1 (TX6 3).2.1 (TX6 3).2.2.1 ∈ mf_tbl := mf_m1 (i := 233) rfl rfl
set_option maxRecDepth 100000 in
theorem fl_X11_192 : Cond.fieldLink RX11 192 (TX6 4).1 (TX6 4).2.1 (TX6 4).2.2.1 ∈ mf_tbl := mf_m1 (i := 239) rfl rfl
set_option maxRecDepth 100000 in
theorem ml_X11_195 : Cond.methodLink RX11 195 yX0_liesOpen ∈ mf_tbl := mf_m4 (i := 87) rfl rfl
set_option maxRecDepth 100000 in
theorem ml_X11_199 : Cond.methodLink RX11 199 yX11_isCell ∈ mf_tbl := mf_m4 (i := 94) rfl rfl
set_option maxRecDepth 100000 in
theorem im_X11_isCell : Cond.instanceMethod yX11_isCell ∈ mf_tbl := mf_m4 (i := 96) rfl rfl
set_option maxRecDepth 100000 in
theorem sl_X11_isCell : Cond.selects yX11_isCell.cls yX11_isCell yX11_isCell ∈ mf_tbl := mf_s2 (i := 7) rfl
set_option maxRecDepth 100000 in
theorem ml_X11_202 : Cond.methodLink RX11 202 yX6_hasGloss ∈ mf_tbl := mf_m4 (i := 98) rfl rfl
set_option maxRecDepth 100000 in
theorem ml_X11_205 : Cond.methodLink RX11 205 yX6_whoStands ∈ mf_tbl := mf_m4 (i := 99) rfl rfl
set_option maxRecDepth 100000 in
theorem ml_X11_209 : Cond.methodLink RX11 209 yX11_leafUpon ∈ mf_tbl := mf_m4 (i := 100) rfl rfl
set_option maxRecDepth 100000 in
theorem im_X11_leafUpon : Cond.instanceMethod yX11_leafUpon ∈ mf_tbl := mf_m4 (i := 102) rfl rfl
set_option maxRecDepth 100000 in
theorem sl_X11_leafUpon : Cond.selects yX11_leafUpon.cls yX11_leafUpon yX11_leafUpon ∈ mf_tbl := mf_s2 (i := 8) rfl
set_option maxRecDepth 100000 in
theorem ml_X11_213 : Cond.methodLink RX11 213 yX1_mirror ∈ mf_tbl := mf_m4 (i := 108) rfl rfl
set_option maxRecDepth 100000 in
theorem ml_X11_216 : Cond.methodLink RX11 216 yX6_keptAt ∈ mf_tbl := mf_m4 (i := 116) rfl rfl
set_option maxRecDepth 100000 in
theorem im_X6_keptAt : Cond.instanceMethod yX6_keptAt ∈ mf_tbl := mf_m4 (i := 117) rfl rfl
set_option maxRecDepth 100000 in
theorem sl_X6_keptAt : Cond.selects yX6_keptAt.cls yX6_keptAt yX6_keptAt ∈ mf_tbl := mf_m4 (i := 118) rfl rfl
set_option maxRecDepth 100000 in
theorem ml_X11_219 : Cond.methodLink RX11 219 yX0_meet ∈ mf_tbl := mf_m4 (i := 126) rfl rfl
set_option maxRecDepth 100000 in
theorem ml_X11_223 : Cond.methodLink RX11 223 yX0_countPairs ∈ mf_tbl := mf_m4 (i := 137) rfl rfl
set_option maxRecDepth 100000 in
theorem ml_X11_227 : Cond.methodLink RX11 227 yX5_findApart ∈ mf_tbl := mf_m4 (i := 145) rfl rfl
set_option maxRecDepth 100000 in
theorem im_X5_findApart : Cond.instanceMethod yX5_findApart ∈ mf_tbl := mf_m4 (i := 146) rfl rfl
set_option maxRecDepth 100000 in
theorem sl_X5_findApart : Cond.selects yX5_findApart.cls yX5_findApart yX5_findApart ∈ mf_tbl := mf_m4 (i := 147) rfl rfl
set_option maxRecDepth 100000 in
theorem ml_X11_231 : Cond.methodLink RX11 231 yX11_canPass ∈ mf_tbl := mf_m4 (i := 154) rfl rfl
set_option maxRecDepth 100000 in
theorem im_X11_canPass : Cond.instanceMethod yX11_canPass ∈ mf_tbl := mf_m4 (i := 156) rfl rfl
set_option maxRecDepth 100000 in
theorem sl_X11_canPass : Cond.selects yX11_canPass.cls yX11_canPass yX11_canPass ∈ mf_tbl := mf_s2 (i := 9) rfl
set_option maxRecDepth 100000 in
theorem ml_X11_234 : Cond.methodLink RX11 234 yX5_findReading ∈ mf_tbl := mf_m4 (i := 158) rfl rfl
set_option maxRecDepth 100000 in
theorem im_X5_findReading : Cond.instanceMethod yX5_findReading ∈ mf_tbl := mf_m4 (i := 159) rfl rfl
set_option maxRecDepth 100000 in
theorem sl_X5_findReading : Cond.selects yX5_findReading.cls yX5_findReading yX5_findReading ∈ mf_tbl := mf_m4 (i := 160) rfl rfl
set_option maxRecDepth 100000 in
theorem ml_X11_238 : Cond.methodLink RX11 238 yX5_lookAhead ∈ mf_tbl := mf_m4 (i := 206) rfl rfl
set_option maxRecDepth 100000 in
theorem im_X5_lookAhead : Cond.instanceMethod yX5_lookAhead ∈ mf_tbl := mf_m4 (i := 207) rfl rfl
set_option maxRecDepth 100000 in
theorem sl_X5_lookAhead : Cond.selects yX5_lookAhead.cls yX5_lookAhead yX5_lookAhead ∈ mf_tbl := mf_m4 (i := 208) rfl rfl
set_option maxRecDepth 100000 in
theorem ml_X11_242 : Cond.methodLink RX11 242 yX5_findWay ∈ mf_tbl := mf_m4 (i := 219) rfl rfl
set_option maxRecDepth 100000 in
theorem im_X5_findWay : Cond.instanceMethod yX5_findWay ∈ mf_tbl := mf_m4 (i := 220) rfl rfl
set_option maxRecDepth 100000 in
theorem sl_X5_findWay : Cond.selects yX5_findWay.cls yX5_findWay yX5_findWay ∈ mf_tbl := mf_m4 (i := 221) rfl rfl
set_option maxRecDepth 100000 in
theorem ml_X11_246 : Cond.methodLink RX11 246 yX5_takeSeen ∈ mf_tbl := mf_m4 (i := 236) rfl rfl
set_option maxRecDepth 100000 in
theorem im_X5_takeSeen : Cond.instanceMethod yX5_takeSeen ∈ mf_tbl := mf_m4 (i := 237) rfl rfl
set_option maxRecDepth 100000 in
theorem sl_X5_takeSeen : Cond.selects yX5_takeSeen.cls yX5_takeSeen yX5_takeSeen ∈ mf_tbl := mf_m4 (i := 238) rfl rfl
set_option maxRecDepth 100000 in
theorem ml_X11_250 : Cond.methodLink RX11 250 yX5_findOpenings ∈ mf_tbl := mf_m5 (i := 8) rfl rfl
set_option maxRecDepth 100000 in
theorem ml_X11_253 : Cond.methodLink RX11 253 yJ6_bitCount_0f7a4 ∈ mf_tbl := mf_m5 (i := 16) rfl rfl
set_option maxRecDepth 100000 in
theorem ml_X11_258 : Cond.methodLink RX11 258 yX5_askAfter ∈ mf_tbl := mf_m5 (i := 21) rfl rfl
set_option maxRecDepth 100000 in
theorem im_X5_askAfter : Cond.instanceMethod yX5_askAfter ∈ mf_tbl := mf_m5 (i := 22) rfl rfl
set_option maxRecDepth 100000 in
theorem sl_X5_askAfter : Cond.selects yX5_askAfter.cls yX5_askAfter yX5_askAfter ∈ mf_tbl := mf_m5 (i := 23) rfl rfl
set_option maxRecDepth 100000 in
theorem ml_X11_261 : Cond.methodLink RX11 261 yX5_findTrim ∈ mf_tbl := mf_m5 (i := 35) rfl rfl
set_option maxRecDepth 100000 in
theorem im_X5_findTrim : Cond.instanceMethod yX5_findTrim ∈ mf_tbl := mf_m5 (i := 36) rfl rfl
set_option maxRecDepth 100000 in
theorem sl_X5_findTrim : Cond.selects yX5_findTrim.cls yX5_findTrim yX5_findTrim ∈ mf_tbl := mf_m5 (i := 37) rfl rfl
set_option maxRecDepth 100000 in
theorem ml_X11_264 : Cond.methodLink RX11 264 yX6_isFree ∈ mf_tbl := mf_m5 (i := 45) rfl rfl
set_option maxRecDepth 100000 in
theorem ml_X11_268 : Cond.methodLink RX11 268 yX11_saveAct ∈ mf_tbl := mf_m5 (i := 46) rfl rfl
set_option maxRecDepth 100000 in
theorem im_X11_saveAct : Cond.instanceMethod yX11_saveAct ∈ mf_tbl := mf_m5 (i := 48) rfl rfl
set_option maxRecDepth 100000 in
theorem sl_X11_saveAct : Cond.selects yX11_saveAct.cls yX11_saveAct yX11_saveAct ∈ mf_tbl := mf_s3 (i := 2) rfl
set_option maxRecDepth 100000 in
theorem ml_X11_274 : Cond.methodLink RX11 274 yX6_writeGloss ∈ mf_tbl := mf_m5 (i := 59) rfl rfl
set_option maxRecDepth 100000 in
theorem ml_X11_271 : Cond.methodLink RX11 271 yX11_findRefuge ∈ mf_tbl := mf_m5 (i := 55) rfl rfl
set_option maxRecDepth 100000 in
theorem im_X11_findRefuge : Cond.instanceMethod yX11_findRefuge ∈ mf_tbl := mf_m5 (i := 57) rfl rfl
set_option maxRecDepth 100000 in
theorem sl_X11_findRefuge : Cond.selects yX11_findRefuge.cls yX11_findRefuge yX11_findRefuge ∈ mf_tbl := mf_s3 (i := 3) rfl
set_option maxRecDepth 100000 in
theorem ml_X11_278 : Cond.methodLink RX11 278 yX0_passDay ∈ mf_tbl := mf_m5 (i := 64) rfl rfl
set_option maxRecDepth 100000 in
theorem ml_X11_281 : Cond.methodLink RX11 281 yX11_draw ∈ mf_tbl := mf_m5 (i := 69) rfl rfl
set_option maxRecDepth 100000 in
theorem im_X11_draw : Cond.instanceMethod yX11_draw ∈ mf_tbl := mf_m5 (i := 71) rfl rfl
set_option maxRecDepth 100000 in
theorem sl_X11_draw : Cond.selects yX11_draw.cls yX11_draw yX11_draw ∈ mf_tbl := mf_s3 (i := 4) rfl
set_option maxRecDepth 100000 in
theorem fl_X11_284 : Cond.fieldLink RX11 284 (TX1 13).1 (TX1 13).2.1 (TX1 13).2.2.1 ∈ mf_tbl := mf_m2 (i := 69) rfl rfl
set_option maxRecDepth 100000 in
theorem fl_X11_287 : Cond.fieldLink RX11 287 (TX11 16).1 (TX11 16).2.1 (TX11 16).2.2.1 ∈ mf_tbl := mf_m2 (i := 215) rfl rfl
set_option maxRecDepth 100000 in
theorem ml_X11_292 : Cond.methodLink RX11 292 yX7_readQuestion ∈ mf_tbl := mf_m5 (i := 89) rfl rfl
set_option maxRecDepth 100000 in
theorem im_X7_readQuestion : Cond.instanceMethod yX7_readQuestion ∈ mf_tbl := mf_m5 (i := 90) rfl rfl
set_option maxRecDepth 100000 in
theorem sl_X7_readQuestion : Cond.selects yX7_readQuestion.cls yX7_readQuestion yX7_readQuestion ∈ mf_tbl := mf_m5 (i := 91) rfl rfl
set_option maxRecDepth 100000 in
theorem ml_X11_296 : Cond.methodLink RX11 296 yX11_answer ∈ mf_tbl := mf_m5 (i := 98) rfl rfl
set_option maxRecDepth 100000 in
theorem im_X11_answer : Cond.instanceMethod yX11_answer ∈ mf_tbl := mf_m5 (i := 100) rfl rfl
set_option maxRecDepth 100000 in
theorem sl_X11_answer : Cond.selects yX11_answer.cls yX11_answer yX11_answer ∈ mf_tbl := mf_s3 (i := 5) rfl
set_option maxRecDepth 100000 in
theorem cl_X11_290 : Cond.constantLong RX11 290 (-1000000000000000) ∈ mf_tbl := mf_m5 (i := 88) rfl rfl
set_option maxRecDepth 100000 in
theorem fl_X11_306 : Cond.fieldLink RX11 306 (TX6 0).1 (TX6 0).2.1 (TX6 0).2.2.1 ∈ mf_tbl := mf_m1 (i := 220) rfl rfl
set_option maxRecDepth 100000 in
theorem ml_X11_309 : Cond.methodLink RX11 309 yX11_addOctet ∈ mf_tbl := mf_m5 (i := 117) rfl rfl
set_option maxRecDepth 100000 in
theorem im_X11_addOctet : Cond.instanceMethod yX11_addOctet ∈ mf_tbl := mf_m5 (i := 119) rfl rfl
set_option maxRecDepth 100000 in
theorem sl_X11_addOctet : Cond.selects yX11_addOctet.cls yX11_addOctet yX11_addOctet ∈ mf_tbl := mf_s3 (i := 7) rfl
set_option maxRecDepth 100000 in
theorem ml_X11_303 : Cond.methodLink RX11 303 yX11_addOctets ∈ mf_tbl := mf_m5 (i := 113) rfl rfl
set_option maxRecDepth 100000 in
theorem im_X11_addOctets : Cond.instanceMethod yX11_addOctets ∈ mf_tbl := mf_m5 (i := 115) rfl rfl
set_option maxRecDepth 100000 in
theorem sl_X11_addOctets : Cond.selects yX11_addOctets.cls yX11_addOctets yX11_addOctets ∈ mf_tbl := mf_s3 (i := 6) rfl
set_option maxRecDepth 100000 in
theorem fl_X11_300 : Cond.fieldLink RX11 300 (TX11 14).1 (TX11 14).2.1 (TX11 14).2.2.1 ∈ mf_tbl := mf_m2 (i := 213) rfl rfl
set_option maxRecDepth 100000 in
theorem ml_X11_312 : Cond.methodLink RX11 312 yX8_nextCheck ∈ mf_tbl := mf_m5 (i := 121) rfl rfl
set_option maxRecDepth 100000 in
theorem ml_X11_315 : Cond.methodLink RX11 315 yX6_takeImage ∈ mf_tbl := mf_m5 (i := 132) rfl rfl
set_option maxRecDepth 100000 in
theorem im_X6_takeImage : Cond.instanceMethod yX6_takeImage ∈ mf_tbl := mf_m5 (i := 133) rfl rfl
set_option maxRecDepth 100000 in
theorem sl_X6_takeImage : Cond.selects yX6_takeImage.cls yX6_takeImage yX6_takeImage ∈ mf_tbl := mf_m5 (i := 134) rfl rfl
set_option maxRecDepth 100000 in
theorem fl_X11_318 : Cond.fieldLink RX11 318 (TX9 8).1 (TX9 8).2.1 (TX9 8).2.2.1 ∈ mf_tbl := mf_m1 (i := 136) rfl rfl
set_option maxRecDepth 100000 in
theorem fl_X11_319 : Cond.fieldLink RX11 319 (TX9 9).1 (TX9 9).2.1 (TX9 9).2.2.1 ∈ mf_tbl := mf_m1 (i := 138) rfl rfl
set_option maxRecDepth 100000 in
theorem ml_X11_320 : Cond.methodLink RX11 320 yX0_liesOnNext ∈ mf_tbl := mf_m4 (i := 104) rfl rfl
set_option maxRecDepth 100000 in
theorem ml_X11_324 : Cond.methodLink RX11 324 yJ9_min_7cf53 ∈ mf_tbl := mf_m5 (i := 50) rfl rfl
set_option maxRecDepth 100000 in
theorem cl_X11_329 : Cond.constantLong RX11 329 1103515245 ∈ mf_tbl := mf_m5 (i := 73) rfl rfl
set_option maxRecDepth 100000 in
theorem cl_X11_331 : Cond.constantLong RX11 331 12345 ∈ mf_tbl := mf_m5 (i := 74) rfl rfl
set_option maxRecDepth 100000 in
theorem cl_X11_333 : Cond.constantLong RX11 333 2147483647 ∈ mf_tbl := mf_m5 (i := 75) rfl rfl
set_option maxRecDepth 100000 in
theorem ml_X11_337 : Cond.methodLink RX11 337 yX0_reckonOf ∈ mf_tbl := mf_m5 (i := 103) rfl rfl
set_option maxRecDepth 100000 in
theorem im_X0_reckonOf : Cond.instanceMethod yX0_reckonOf ∈ mf_tbl := mf_m5 (i := 104) rfl rfl
set_option maxRecDepth 100000 in
theorem sl_X0_reckonOf : Cond.selects yX0_reckonOf.cls yX0_reckonOf yX0_reckonOf ∈ mf_tbl := mf_m5 (i := 105) rfl rfl
set_option maxRecDepth 100000 in
theorem cl_X11_335 : Cond.constantLong RX11 335 (-1) ∈ mf_tbl := mf_m5 (i := 102) rfl rfl
set_option maxRecDepth 100000 in
theorem ml_X11_341 : Cond.methodLink RX11 341 yJ9_max_f86c9 ∈ mf_tbl := mf_m5 (i := 107) rfl rfl
set_option maxRecDepth 100000 in
theorem ml_X11_345 : Cond.methodLink RX11 345 yJ9_min_f86c9 ∈ mf_tbl := mf_m5 (i := 108) rfl rfl
set_option maxRecDepth 100000 in
theorem ml_X12_1 : Cond.methodLink RX12 1 Lib.objectInit ∈ mf_tbl := mf_m5 (i := 158) rfl rfl
set_option maxRecDepth 100000 in
theorem fl_X12_7 : Cond.fieldLink RX12 7 (TX12 0).1 (TX12 0).2.1 (TX12 0).2.2.1 ∈ mf_tbl := mf_m5 (i := 159) rfl rfl
set_option maxRecDepth 100000 in
theorem fl_X12_13 : Cond.fieldLink RX12 13 (TX12 8).1 (TX12 8).2.1 (TX12 8).2.2.1 ∈ mf_tbl := mf_m5 (i := 167) rfl rfl
set_option maxRecDepth 100000 in
theorem fl_X12_17 : Cond.fieldLink RX12 17 (TX12 9).1 (TX12 9).2.1 (TX12 9).2.2.1 ∈ mf_tbl := mf_m5 (i := 168) rfl rfl
set_option maxRecDepth 100000 in
theorem ac_23 : Cond.arrayClass (newarray.typeOf .char) ∈ mf_tbl := mf_m6 (i := 238) rfl rfl
set_option maxRecDepth 100000 in
theorem fl_X12_20 : Cond.fieldLink RX12 20 (TX12 11).1 (TX12 11).2.1 (TX12 11).2.2.1 ∈ mf_tbl := mf_m5 (i := 170) rfl rfl
set_option maxRecDepth 100000 in
theorem fl_X12_24 : Cond.fieldLink RX12 24 (TX12 12).1 (TX12 12).2.1 (TX12 12).2.2.1 ∈ mf_tbl := mf_m5 (i := 171) rfl rfl
set_option maxRecDepth 100000 in
theorem fl_X12_27 : Cond.fieldLink RX12 27 (TX12 13).1 (TX12 13).2.1 (TX12 13).2.2.1 ∈ mf_tbl := mf_m5 (i := 172) rfl rfl
set_option maxRecDepth 100000 in
theorem fl_X12_30 : Cond.fieldLink RX12 30 (TX12 14).1 (TX12 14).2.1 (TX12 14).2.2.1 ∈ mf_tbl := mf_m5 (i := 173) rfl rfl
set_option maxRecDepth 100000 in
theorem fl_X12_33 : Cond.fieldLink RX12 33 (TX12 15).1 (TX12 15).2.1 (TX12 15).2.2.1 ∈ mf_tbl := mf_m5 (i := 174) rfl rfl
set_option maxRecDepth 100000 in
theorem fl_X12_36 : Cond.fieldLink RX12 36 (TX12 16).1 (TX12 16).2.1 (TX12 16).2.2.1 ∈ mf_tbl := mf_m5 (i := 175) rfl rfl
set_option maxRecDepth 100000 in
theorem fl_X12_39 : Cond.fieldLink RX12 39 (TX12 17).1 (TX12 17).2.1 (TX12 17).2.2.1 ∈ mf_tbl := mf_m5 (i := 176) rfl rfl
set_option maxRecDepth 100000 in
theorem fl_X12_42 : Cond.fieldLink RX12 42 (TX12 18).1 (TX12 18).2.1 (TX12 18).2.2.1 ∈ mf_tbl := mf_m5 (i := 177) rfl rfl
set_option maxRecDepth 100000 in
theorem fl_X12_45 : Cond.fieldLink RX12 45 (TX12 19).1 (TX12 19).2.1 (TX12 19).2.2.1 ∈ mf_tbl := mf_m5 (i := 178) rfl rfl
set_option maxRecDepth 100000 in
theorem fl_X12_48 : Cond.fieldLink RX12 48 (TX12 20).1 (TX12 20).2.1 (TX12 20).2.2.1 ∈ mf_tbl := mf_m5 (i := 179) rfl rfl
set_option maxRecDepth 100000 in
theorem fl_X12_51 : Cond.fieldLink RX12 51 (TX12 21).1 (TX12 21).2.1 (TX12 21).2.2.1 ∈ mf_tbl := mf_m5 (i := 180) rfl rfl
set_option maxRecDepth 100000 in
theorem fl_X12_54 : Cond.fieldLink RX12 54 (TX12 22).1 (TX12 22).2.1 (TX12 22).2.2.1 ∈ mf_tbl := mf_m5 (i := 181) rfl rfl
set_option maxRecDepth 100000 in
theorem fl_X12_57 : Cond.fieldLink RX12 57 (TX12 23).1 (TX12 23).2.1 (TX12 23).2.2.1 ∈ mf_tbl := mf_m5 (i := 182) rfl rfl
set_option maxRecDepth 100000 in
theorem fl_X12_60 : Cond.fieldLink RX12 60 (TX12 24).1 (TX12 24).2.1 (TX12 24).2.2.1 ∈ mf_tbl := mf_m5 (i := 183) rfl rfl
set_option maxRecDepth 100000 in
theorem fl_X12_63 : Cond.fieldLink RX12 63 (TX12 25).1 (TX12 25).2.1 (TX12 25).2.2.1 ∈ mf_tbl := mf_m5 (i := 184) rfl rfl
set_option maxRecDepth 100000 in
theorem fl_X12_66 : Cond.fieldLink RX12 66 (TX12 26).1 (TX12 26).2.1 (TX12 26).2.2.1 ∈ mf_tbl := mf_m5 (i := 185) rfl rfl
set_option maxRecDepth 100000 in
theorem fl_X12_69 : Cond.fieldLink RX12 69 (TX12 27).1 (TX12 27).2.1 (TX12 27).2.2.1 ∈ mf_tbl := mf_m5 (i := 186) rfl rfl
set_option maxRecDepth 100000 in
theorem fl_X12_72 : Cond.fieldLink RX12 72 (TX12 28).1 (TX12 28).2.1 (TX12 28).2.2.1 ∈ mf_tbl := mf_m5 (i := 187) rfl rfl
set_option maxRecDepth 100000 in
theorem fl_X12_75 : Cond.fieldLink RX12 75 (TX12 29).1 (TX12 29).2.1 (TX12 29).2.2.1 ∈ mf_tbl := mf_m5 (i := 188) rfl rfl
set_option maxRecDepth 100000 in
theorem fl_X12_78 : Cond.fieldLink RX12 78 (TX12 30).1 (TX12 30).2.1 (TX12 30).2.2.1 ∈ mf_tbl := mf_m5 (i := 189) rfl rfl
set_option maxRecDepth 100000 in
theorem fl_X12_81 : Cond.fieldLink RX12 81 (TX12 31).1 (TX12 31).2.1 (TX12 31).2.2.1 ∈ mf_tbl := mf_m5 (i := 190) rfl rfl
set_option maxRecDepth 100000 in
theorem fl_X12_84 : Cond.fieldLink RX12 84 (TX12 32).1 (TX12 32).2.1 (TX12 32).2.2.1 ∈ mf_tbl := mf_m5 (i := 191) rfl rfl
set_option maxRecDepth 100000 in
theorem fl_X12_87 : Cond.fieldLink RX12 87 (TX12 33).1 (TX12 33).2.1 (TX12 33).2.2.1 ∈ mf_tbl := mf_m5 (i := 192) rfl rfl
set_option maxRecDepth 100000 in
theorem fl_X12_90 : Cond.fieldLink RX12 90 (TX12 34).1 (TX12 34).2.1 (TX12 34).2.2.1 ∈ mf_tbl := mf_m5 (i := 193) rfl rfl
set_option maxRecDepth 100000 in
theorem fl_X12_93 : Cond.fieldLink RX12 93 (TX12 35).1 (TX12 35).2.1 (TX12 35).2.2.1 ∈ mf_tbl := mf_m5 (i := 194) rfl rfl
set_option maxRecDepth 100000 in
theorem fl_X12_96 : Cond.fieldLink RX12 96 (TX12 36).1 (TX12 36).2.1 (TX12 36).2.2.1 ∈ mf_tbl := mf_m5 (i := 195) rfl rfl
set_option maxRecDepth 100000 in
theorem fl_X12_99 : Cond.fieldLink RX12 99 (TX12 37).1 (TX12 37).2.1 (TX12 37).2.2.1 ∈ mf_tbl := mf_m5 (i := 196) rfl rfl
set_option maxRecDepth 100000 in
theorem fl_X12_102 : Cond.fieldLink RX12 102 (TX12 38).1 (TX12 38).2.1 (TX12 38).2.2.1 ∈ mf_tbl := mf_m5 (i := 197) rfl rfl
set_option maxRecDepth 100000 in
theorem fl_X12_105 : Cond.fieldLink RX12 105 (TX12 40).1 (TX12 40).2.1 (TX12 40).2.2.1 ∈ mf_tbl := mf_m5 (i := 199) rfl rfl
set_option maxRecDepth 100000 in
theorem fl_X12_108 : Cond.fieldLink RX12 108 (TX12 41).1 (TX12 41).2.1 (TX12 41).2.2.1 ∈ mf_tbl := mf_m5 (i := 200) rfl rfl
set_option maxRecDepth 100000 in
theorem ac_24 : Cond.arrayClass (newarray.typeOf .long) ∈ mf_tbl := mf_m6 (i := 239) rfl rfl
set_option maxRecDepth 100000 in
theorem fl_X12_111 : Cond.fieldLink RX12 111 (TX12 42).1 (TX12 42).2.1 (TX12 42).2.2.1 ∈ mf_tbl := mf_m5 (i := 201) rfl rfl
set_option maxRecDepth 100000 in
theorem fl_X12_115 : Cond.fieldLink RX12 115 (TX12 43).1 (TX12 43).2.1 (TX12 43).2.2.1 ∈ mf_tbl := mf_m5 (i := 202) rfl rfl
set_option maxRecDepth 100000 in
theorem fl_X12_118 : Cond.fieldLink RX12 118 (TX12 44).1 (TX12 44).2.1 (TX12 44).2.2.1 ∈ mf_tbl := mf_m5 (i := 203) rfl rfl
set_option maxRecDepth 100000 in
theorem fl_X12_121 : Cond.fieldLink RX12 121 (TX12 45).1 (TX12 45).2.1 (TX12 45).2.2.1 ∈ mf_tbl := mf_m5 (i := 204) rfl rfl
set_option maxRecDepth 100000 in
theorem fl_X12_124 : Cond.fieldLink RX12 124 (TX12 46).1 (TX12 46).2.1 (TX12 46).2.2.1 ∈ mf_tbl := mf_m5 (i := 205) rfl rfl
set_option maxRecDepth 100000 in
theorem fl_X12_127 : Cond.fieldLink RX12 127 (TX12 49).1 (TX12 49).2.1 (TX12 49).2.2.1 ∈ mf_tbl := mf_m5 (i := 208) rfl rfl
set_option maxRecDepth 100000 in
theorem fl_X12_130 : Cond.fieldLink RX12 130 (TX12 50).1 (TX12 50).2.1 (TX12 50).2.2.1 ∈ mf_tbl := mf_m5 (i := 209) rfl rfl
set_option maxRecDepth 100000 in
theorem fl_X12_133 : Cond.fieldLink RX12 133 (TX12 51).1 (TX12 51).2.1 (TX12 51).2.2.1 ∈ mf_tbl := mf_m5 (i := 210) rfl rfl
set_option maxRecDepth 100000 in
theorem fl_X12_136 : Cond.fieldLink RX12 136 (TX12 56).1 (TX12 56).2.1 (TX12 56).2.2.1 ∈ mf_tbl := mf_m5 (i := 215) rfl rfl
set_option maxRecDepth 100000 in
theorem fl_X12_139 : Cond.fieldLink RX12 139 (TX12 57).1 (TX12 57).2.1 (TX12 57).2.2.1 ∈ mf_tbl := mf_m5 (i := 216) rfl rfl
set_option maxRecDepth 100000 in
theorem fl_X12_142 : Cond.fieldLink RX12 142 (TX12 63).1 (TX12 63).2.1 (TX12 63).2.2.1 ∈ mf_tbl := mf_m5 (i := 222) rfl rfl
set_option maxRecDepth 100000 in
theorem fl_X12_145 : Cond.fieldLink RX12 145 (TX12 64).1 (TX12 64).2.1 (TX12 64).2.2.1 ∈ mf_tbl := mf_m5 (i := 223) rfl rfl
set_option maxRecDepth 100000 in
theorem fl_X12_149 : Cond.fieldLink RX12 149 (TX12 66).1 (TX12 66).2.1 (TX12 66).2.2.1 ∈ mf_tbl := mf_m5 (i := 225) rfl rfl
set_option maxRecDepth 100000 in
theorem fl_X12_152 : Cond.fieldLink RX12 152 (TX12 67).1 (TX12 67).2.1 (TX12 67).2.2.1 ∈ mf_tbl := mf_m5 (i := 226) rfl rfl
set_option maxRecDepth 100000 in
theorem fl_X12_155 : Cond.fieldLink RX12 155 (TX12 68).1 (TX12 68).2.1 (TX12 68).2.2.1 ∈ mf_tbl := mf_m5 (i := 227) rfl rfl
set_option maxRecDepth 100000 in
theorem fl_X12_158 : Cond.fieldLink RX12 158 (TX12 71).1 (TX12 71).2.1 (TX12 71).2.2.1 ∈ mf_tbl := mf_m5 (i := 230) rfl rfl
set_option maxRecDepth 100000 in
theorem fl_X12_162 : Cond.fieldLink RX12 162 (TX12 72).1 (TX12 72).2.1 (TX12 72).2.2.1 ∈ mf_tbl := mf_m5 (i := 231) rfl rfl
set_option maxRecDepth 100000 in
theorem fl_X12_165 : Cond.fieldLink RX12 165 (TX12 73).1 (TX12 73).2.1 (TX12 73).2.2.1 ∈ mf_tbl := mf_m5 (i := 232) rfl rfl
set_option maxRecDepth 100000 in
theorem fl_X12_168 : Cond.fieldLink RX12 168 (TX12 74).1 (TX12 74).2.1 (TX12 74).2.2.1 ∈ mf_tbl := mf_m5 (i := 233) rfl rfl
set_option maxRecDepth 100000 in
theorem fl_X12_171 : Cond.fieldLink RX12 171 (TX12 75).1 (TX12 75).2.1 (TX12 75).2.2.1 ∈ mf_tbl := mf_m5 (i := 234) rfl rfl
set_option maxRecDepth 100000 in
theorem fl_X12_174 : Cond.fieldLink RX12 174 (TX12 76).1 (TX12 76).2.1 (TX12 76).2.2.1 ∈ mf_tbl := mf_m5 (i := 235) rfl rfl
set_option maxRecDepth 100000 in
theorem fl_X12_177 : Cond.fieldLink RX12 177 (TX12 77).1 (TX12 77).2.1 (TX12 77).2.2.1 ∈ mf_tbl := mf_m5 (i := 236) rfl rfl
set_option maxRecDepth 100000 in
theorem fl_X12_180 : Cond.fieldLink RX12 180 (TX12 78).1 (TX12 78).2.1 (TX12 78).2.2.1 ∈ mf_tbl := mf_m5 (i := 237) rfl rfl
set_option maxRecDepth 100000 in
theorem fl_X12_183 : Cond.fieldLink RX12 183 (TX12 79).1 (TX12 79).2.1 (TX12 79).2.2.1 ∈ mf_tbl := mf_m5 (i := 238) rfl rfl
set_option maxRecDepth 100000 in
theorem fl_X12_186 : Cond.fieldLink RX12 186 (TX12 80).1 (TX12 80).2.1 (TX12 80).2.2.1 ∈ mf_tbl := mf_m5 (i := 239) rfl rfl
set_option maxRecDepth 100000 in
theorem fl_X12_189 : Cond.fieldLink RX12 189 (TX12 81).1 (TX12 81).2.1 (TX12 81).2.2.1 ∈ mf_tbl := mf_m6 (i := 0) rfl rfl
set_option maxRecDepth 100000 in
theorem fl_X12_192 : Cond.fieldLink RX12 192 (TX12 82).1 (TX12 82).2.1 (TX12 82).2.2.1 ∈ mf_tbl := mf_m6 (i := 1) rfl rfl
set_option maxRecDepth 100000 in
theorem fl_X12_195 : Cond.fieldLink RX12 195 (TX12 83).1 (TX12 83).2.1 (TX12 83).2.2.1 ∈ mf_tbl := mf_m6 (i := 2) rfl rfl
set_option maxRecDepth 100000 in
theorem fl_X12_198 : Cond.fieldLink RX12 198 (TX12 84).1 (TX12 84).2.1 (TX12 84).2.2.1 ∈ mf_tbl := mf_m6 (i := 3) rfl rfl
set_option maxRecDepth 100000 in
theorem fl_X12_201 : Cond.fieldLink RX12 201 (TX12 85).1 (TX12 85).2.1 (TX12 85).2.2.1 ∈ mf_tbl := mf_m6 (i := 4) rfl rfl
set_option maxRecDepth 100000 in
theorem fl_X12_204 : Cond.fieldLink RX12 204 (TX12 86).1 (TX12 86).2.1 (TX12 86).2.2.1 ∈ mf_tbl := mf_m6 (i := 5) rfl rfl
set_option maxRecDepth 100000 in
theorem fl_X12_207 : Cond.fieldLink RX12 207 (TX12 87).1 (TX12 87).2.1 (TX12 87).2.2.1 ∈ mf_tbl := mf_m6 (i := 6) rfl rfl
set_option maxRecDepth 100000 in
theorem fl_X12_210 : Cond.fieldLink RX12 210 (TX12 88).1 (TX12 88).2.1 (TX12 88).2.2.1 ∈ mf_tbl := mf_m6 (i := 7) rfl rfl
set_option maxRecDepth 100000 in
theorem fl_X12_213 : Cond.fieldLink RX12 213 (TX12 89).1 (TX12 89).2.1 (TX12 89).2.2.1 ∈ mf_tbl := mf_m6 (i := 8) rfl rfl
set_option maxRecDepth 100000 in
theorem fl_X12_216 : Cond.fieldLink RX12 216 (TX12 90).1 (TX12 90).2.1 (TX12 90).2.2.1 ∈ mf_tbl := mf_m6 (i := 9) rfl rfl
set_option maxRecDepth 100000 in
theorem fl_X12_219 : Cond.fieldLink RX12 219 (TX12 91).1 (TX12 91).2.1 (TX12 91).2.2.1 ∈ mf_tbl := mf_m6 (i := 10) rfl rfl
set_option maxRecDepth 100000 in
theorem fl_X12_222 : Cond.fieldLink RX12 222 (TX12 92).1 (TX12 92).2.1 (TX12 92).2.2.1 ∈ mf_tbl := mf_m6 (i := 11) rfl rfl
set_option maxRecDepth 100000 in
theorem fl_X12_225 : Cond.fieldLink RX12 225 (TX12 93).1 (TX12 93).2.1 (TX12 93).2.2.1 ∈ mf_tbl := mf_m6 (i := 12) rfl rfl
set_option maxRecDepth 100000 in
theorem fl_X12_228 : Cond.fieldLink RX12 228 (TX12 94).1 (TX12 94).2.1 (TX12 94).2.2.1 ∈ mf_tbl := mf_m6 (i := 13) rfl rfl
set_option maxRecDepth 100000 in
theorem fl_X12_231 : Cond.fieldLink RX12 231 (TX12 96).1 (TX12 96).2.1 (TX12 96).2.2.1 ∈ mf_tbl := mf_m6 (i := 15) rfl rfl
set_option maxRecDepth 100000 in
theorem fl_X12_234 : Cond.fieldLink RX12 234 (TX12 100).1 (TX12 100).2.1 (TX12 100).2.2.1 ∈ mf_tbl := mf_m6 (i := 19) rfl rfl
set_option maxRecDepth 100000 in
theorem fl_X12_237 : Cond.fieldLink RX12 237 (TX12 104).1 (TX12 104).2.1 (TX12 104).2.2.1 ∈ mf_tbl := mf_m6 (i := 23) rfl rfl
set_option maxRecDepth 100000 in
theorem fl_X12_240 : Cond.fieldLink RX12 240 (TX12 1).1 (TX12 1).2.1 (TX12 1).2.2.1 ∈ mf_tbl := mf_m5 (i := 160) rfl rfl
set_option maxRecDepth 100000 in
theorem fl_X12_243 : Cond.fieldLink RX12 243 (TX12 5).1 (TX12 5).2.1 (TX12 5).2.2.1 ∈ mf_tbl := mf_m5 (i := 164) rfl rfl
set_option maxRecDepth 100000 in
theorem fl_X12_246 : Cond.fieldLink RX12 246 (TX12 6).1 (TX12 6).2.1 (TX12 6).2.2.1 ∈ mf_tbl := mf_m5 (i := 165) rfl rfl
set_option maxRecDepth 100000 in
theorem fl_X12_249 : Cond.fieldLink RX12 249 (TX12 2).1 (TX12 2).2.1 (TX12 2).2.2.1 ∈ mf_tbl := mf_m5 (i := 161) rfl rfl
set_option maxRecDepth 100000 in
theorem fl_X12_252 : Cond.fieldLink RX12 252 (TX12 3).1 (TX12 3).2.1 (TX12 3).2.2.1 ∈ mf_tbl := mf_m5 (i := 162) rfl rfl
set_option maxRecDepth 100000 in
theorem ml_X12_259 : Cond.methodLink RX12 259 yX12_isLetter ∈ mf_tbl := mf_m7 (i := 32) rfl rfl
set_option maxRecDepth 100000 in
theorem sm_X12_isLetter : Cond.static yX12_isLetter ∈ mf_tbl := mf_m7 (i := 33) rfl rfl
set_option maxRecDepth 100000 in
theorem ml_X12_255 : Cond.methodLink RX12 255 yX12_look ∈ mf_tbl := mf_m7 (i := 28) rfl rfl
set_option maxRecDepth 100000 in
theorem im_X12_look : Cond.instanceMethod yX12_look ∈ mf_tbl := mf_m7 (i := 30) rfl rfl
set_option maxRecDepth 100000 in
theorem sl_X12_look : Cond.selects yX12_look.cls yX12_look yX12_look ∈ mf_tbl := mf_s3 (i := 13) rfl
set_option maxRecDepth 100000 in
theorem fl_X12_263 : Cond.fieldLink RX12 263 (TX12 4).1 (TX12 4).2.1 (TX12 4).2.2.1 ∈ mf_tbl := mf_m5 (i := 163) rfl rfl
set_option maxRecDepth 100000 in
theorem ml_X12_266 : Cond.methodLink RX12 266 yX12_isHere ∈ mf_tbl := mf_m7 (i := 24) rfl rfl
set_option maxRecDepth 100000 in
theorem im_X12_isHere : Cond.instanceMethod yX12_isHere ∈ mf_tbl := mf_m7 (i := 26) rfl rfl
set_option maxRecDepth 100000 in
theorem sl_X12_isHere : Cond.selects yX12_isHere.cls yX12_isHere yX12_isHere ∈ mf_tbl := mf_s3 (i := 12) rfl
set_option maxRecDepth 100000 in
theorem ml_X12_270 : Cond.methodLink RX12 270 yX12_takes ∈ mf_tbl := mf_m7 (i := 20) rfl rfl
set_option maxRecDepth 100000 in
theorem im_X12_takes : Cond.instanceMethod yX12_takes ∈ mf_tbl := mf_m7 (i := 22) rfl rfl
set_option maxRecDepth 100000 in
theorem sl_X12_takes : Cond.selects yX12_takes.cls yX12_takes yX12_takes ∈ mf_tbl := mf_s3 (i := 11) rfl
set_option maxRecDepth 100000 in
theorem ml_X12_273 : Cond.methodLink RX12 273 yX12_fail ∈ mf_tbl := mf_m7 (i := 35) rfl rfl
set_option maxRecDepth 100000 in
theorem im_X12_fail : Cond.instanceMethod yX12_fail ∈ mf_tbl := mf_m7 (i := 37) rfl rfl
set_option maxRecDepth 100000 in
theorem sl_X12_fail : Cond.selects yX12_fail.cls yX12_fail yX12_fail ∈ mf_tbl := mf_s3 (i := 14) rfl
set_option maxRecDepth 100000 in
theorem ml_X12_277 : Cond.methodLink RX12 277 yX12_takesSign ∈ mf_tbl := mf_m7 (i := 53) rfl rfl
set_option maxRecDepth 100000 in
theorem im_X12_takesSign : Cond.instanceMethod yX12_takesSign ∈ mf_tbl := mf_m7 (i := 55) rfl rfl
set_option maxRecDepth 100000 in
theorem sl_X12_takesSign : Cond.selects yX12_takesSign.cls yX12_takesSign yX12_takesSign ∈ mf_tbl := mf_s4 (i := 1) rfl
set_option maxRecDepth 100000 in
theorem ml_X12_280 : Cond.methodLink RX12 280 yX12_isDigit ∈ mf_tbl := mf_m7 (i := 43) rfl rfl
set_option maxRecDepth 100000 in
theorem sm_X12_isDigit : Cond.static yX12_isDigit ∈ mf_tbl := mf_m7 (i := 44) rfl rfl
set_option maxRecDepth 100000 in
theorem fl_X12_283 : Cond.fieldLink RX12 283 (TX12 10).1 (TX12 10).2.1 (TX12 10).2.2.1 ∈ mf_tbl := mf_m5 (i := 169) rfl rfl
set_option maxRecDepth 100000 in
theorem ml_X12_286 : Cond.methodLink RX12 286 yX12_isIn ∈ mf_tbl := mf_m7 (i := 46) rfl rfl
set_option maxRecDepth 100000 in
theorem sm_X12_isIn : Cond.static yX12_isIn ∈ mf_tbl := mf_m7 (i := 47) rfl rfl
set_option maxRecDepth 100000 in
theorem fl_X12_294 : Cond.fieldLink RX12 294 (TX12 39).1 (TX12 39).2.1 (TX12 39).2.2.1 ∈ mf_tbl := mf_m5 (i := 198) rfl rfl
set_option maxRecDepth 100000 in
theorem cl_X12_297 : Cond.constantLong RX12 297 27 ∈ mf_tbl := mf_m7 (i := 97) rfl rfl
set_option maxRecDepth 100000 in
theorem cl_X12_299 : Cond.constantLong RX12 299 97 ∈ mf_tbl := mf_m7 (i := 98) rfl rfl
set_option maxRecDepth 100000 in
theorem ml_X12_290 : Cond.methodLink RX12 290 yX12_isOwnHere ∈ mf_tbl := mf_m7 (i := 93) rfl rfl
set_option maxRecDepth 100000 in
theorem im_X12_isOwnHere : Cond.instanceMethod yX12_isOwnHere ∈ mf_tbl := mf_m7 (i := 95) rfl rfl
set_option maxRecDepth 100000 in
theorem sl_X12_isOwnHere : Cond.selects yX12_isOwnHere.cls yX12_isOwnHere yX12_isOwnHere ∈ mf_tbl := mf_s4 (i := 11) rfl
set_option maxRecDepth 100000 in
theorem fl_X12_301 : Cond.fieldLink RX12 301 (TX12 55).1 (TX12 55).2.1 (TX12 55).2.2.1 ∈ mf_tbl := mf_m5 (i := 214) rfl rfl
set_option maxRecDepth 100000 in
theorem ml_X12_304 : Cond.methodLink RX12 304 yX12_asks ∈ mf_tbl := mf_m7 (i := 16) rfl rfl
set_option maxRecDepth 100000 in
theorem im_X12_asks : Cond.instanceMethod yX12_asks ∈ mf_tbl := mf_m7 (i := 18) rfl rfl
set_option maxRecDepth 100000 in
theorem sl_X12_asks : Cond.selects yX12_asks.cls yX12_asks yX12_asks ∈ mf_tbl := mf_s3 (i := 10) rfl
set_option maxRecDepth 100000 in
theorem ml_X12_308 : Cond.methodLink RX12 308 yX12_number ∈ mf_tbl := mf_m7 (i := 39) rfl rfl
set_option maxRecDepth 100000 in
theorem im_X12_number : Cond.instanceMethod yX12_number ∈ mf_tbl := mf_m7 (i := 41) rfl rfl
set_option maxRecDepth 100000 in
theorem sl_X12_number : Cond.selects yX12_number.cls yX12_number yX12_number ∈ mf_tbl := mf_s3 (i := 15) rfl
set_option maxRecDepth 100000 in
theorem ml_X12_312 : Cond.methodLink RX12 312 yX12_asksSign ∈ mf_tbl := mf_m7 (i := 49) rfl rfl
set_option maxRecDepth 100000 in
theorem im_X12_asksSign : Cond.instanceMethod yX12_asksSign ∈ mf_tbl := mf_m7 (i := 51) rfl rfl
set_option maxRecDepth 100000 in
theorem sl_X12_asksSign : Cond.selects yX12_asksSign.cls yX12_asksSign yX12_asksSign ∈ mf_tbl := mf_s4 (i := 0) rfl
set_option maxRecDepth 100000 in
theorem ml_X12_316 : Cond.methodLink RX12 316 yX12_standsTold ∈ mf_tbl := mf_m7 (i := 77) rfl rfl
set_option maxRecDepth 100000 in
theorem im_X12_standsTold : Cond.instanceMethod yX12_standsTold ∈ mf_tbl := mf_m7 (i := 79) rfl rfl
set_option maxRecDepth 100000 in
theorem sl_X12_standsTold : Cond.selects yX12_standsTold.cls yX12_standsTold yX12_standsTold ∈ mf_tbl := mf_s4 (i := 7) rfl
set_option maxRecDepth 100000 in
theorem ml_X12_320 : Cond.methodLink RX12 320 yX12_isFull ∈ mf_tbl := mf_m7 (i := 65) rfl rfl
set_option maxRecDepth 100000 in
theorem im_X12_isFull : Cond.instanceMethod yX12_isFull ∈ mf_tbl := mf_m7 (i := 67) rfl rfl
set_option maxRecDepth 100000 in
theorem sl_X12_isFull : Cond.selects yX12_isFull.cls yX12_isFull yX12_isFull ∈ mf_tbl := mf_s4 (i := 4) rfl
set_option maxRecDepth 100000 in
theorem ml_X12_324 : Cond.methodLink RX12 324 yX12_leafTold ∈ mf_tbl := mf_m7 (i := 69) rfl rfl
set_option maxRecDepth 100000 in
theorem im_X12_leafTold : Cond.instanceMethod yX12_leafTold ∈ mf_tbl := mf_m7 (i := 71) rfl rfl
set_option maxRecDepth 100000 in
theorem sl_X12_leafTold : Cond.selects yX12_leafTold.cls yX12_leafTold yX12_leafTold ∈ mf_tbl := mf_s4 (i := 5) rfl
set_option maxRecDepth 100000 in
theorem ml_X12_327 : Cond.methodLink RX12 327 yX12_cellTold ∈ mf_tbl := mf_m7 (i := 73) rfl rfl
set_option maxRecDepth 100000 in
theorem im_X12_cellTold : Cond.instanceMethod yX12_cellTold ∈ mf_tbl := mf_m7 (i := 75) rfl rfl
set_option maxRecDepth 100000 in
theorem sl_X12_cellTold : Cond.selects yX12_cellTold.cls yX12_cellTold yX12_cellTold ∈ mf_tbl := mf_s4 (i := 6) rfl
set_option maxRecDepth 100000 in
theorem ml_X12_331 : Cond.methodLink RX12 331 yX12_name ∈ mf_tbl := mf_m7 (i := 89) rfl rfl
set_option maxRecDepth 100000 in
theorem im_X12_name : Cond.instanceMethod yX12_name ∈ mf_tbl := mf_m7 (i := 91) rfl rfl
set_option maxRecDepth 100000 in
theorem sl_X12_name : Cond.selects yX12_name.cls yX12_name yX12_name ∈ mf_tbl := mf_s4 (i := 10) rfl
set_option maxRecDepth 100000 in
theorem ml_X12_335 : Cond.methodLink RX12 335 yX12_kindBy ∈ mf_tbl := mf_m7 (i := 103) rfl rfl
set_option maxRecDepth 100000 in
theorem sm_X12_kindBy : Cond.static yX12_kindBy ∈ mf_tbl := mf_m7 (i := 104) rfl rfl
set_option maxRecDepth 100000 in
theorem fl_X12_338 : Cond.fieldLink RX12 338 (TX12 95).1 (TX12 95).2.1 (TX12 95).2.2.1 ∈ mf_tbl := mf_m6 (i := 14) rfl rfl
set_option maxRecDepth 100000 in
theorem fl_X12_341 : Cond.fieldLink RX12 341 (TX12 97).1 (TX12 97).2.1 (TX12 97).2.2.1 ∈ mf_tbl := mf_m6 (i := 16) rfl rfl
set_option maxRecDepth 100000 in
theorem fl_X12_344 : Cond.fieldLink RX12 344 (TX12 98).1 (TX12 98).2.1 (TX12 98).2.2.1 ∈ mf_tbl := mf_m6 (i := 17) rfl rfl
set_option maxRecDepth 100000 in
theorem fl_X12_347 : Cond.fieldLink RX12 347 (TX12 99).1 (TX12 99).2.1 (TX12 99).2.2.1 ∈ mf_tbl := mf_m6 (i := 18) rfl rfl
set_option maxRecDepth 100000 in
theorem ml_X12_353 : Cond.methodLink RX12 353 yX12_qSums ∈ mf_tbl := mf_m7 (i := 122) rfl rfl
set_option maxRecDepth 100000 in
theorem im_X12_qSums : Cond.instanceMethod yX12_qSums ∈ mf_tbl := mf_m7 (i := 124) rfl rfl
set_option maxRecDepth 100000 in
theorem sl_X12_qSums : Cond.selects yX12_qSums.cls yX12_qSums yX12_qSums ∈ mf_tbl := mf_s5 (i := 1) rfl
set_option maxRecDepth 100000 in
theorem fl_X12_356 : Cond.fieldLink RX12 356 (TX12 52).1 (TX12 52).2.1 (TX12 52).2.2.1 ∈ mf_tbl := mf_m5 (i := 211) rfl rfl
set_option maxRecDepth 100000 in
theorem ml_X12_350 : Cond.methodLink RX12 350 yX12_qTest ∈ mf_tbl := mf_m7 (i := 106) rfl rfl
set_option maxRecDepth 100000 in
theorem im_X12_qTest : Cond.instanceMethod yX12_qTest ∈ mf_tbl := mf_m7 (i := 108) rfl rfl
set_option maxRecDepth 100000 in
theorem sl_X12_qTest : Cond.selects yX12_qTest.cls yX12_qTest yX12_qTest ∈ mf_tbl := mf_s4 (i := 13) rfl
set_option maxRecDepth 100000 in
theorem fl_X12_359 : Cond.fieldLink RX12 359 (TX12 53).1 (TX12 53).2.1 (TX12 53).2.2.1 ∈ mf_tbl := mf_m5 (i := 212) rfl rfl
set_option maxRecDepth 100000 in
theorem fl_X12_374 : Cond.fieldLink RX12 374 (TX12 47).1 (TX12 47).2.1 (TX12 47).2.2.1 ∈ mf_tbl := mf_m5 (i := 206) rfl rfl
set_option maxRecDepth 100000 in
theorem ml_X12_371 : Cond.methodLink RX12 371 yX12_codesTold ∈ mf_tbl := mf_m7 (i := 99) rfl rfl
set_option maxRecDepth 100000 in
theorem im_X12_codesTold : Cond.instanceMethod yX12_codesTold ∈ mf_tbl := mf_m7 (i := 101) rfl rfl
set_option maxRecDepth 100000 in
theorem sl_X12_codesTold : Cond.selects yX12_codesTold.cls yX12_codesTold yX12_codesTold ∈ mf_tbl := mf_s4 (i := 12) rfl
set_option maxRecDepth 100000 in
theorem ml_X12_368 : Cond.methodLink RX12 368 yX12_beingTold ∈ mf_tbl := mf_m7 (i := 85) rfl rfl
set_option maxRecDepth 100000 in
theorem im_X12_beingTold : Cond.instanceMethod yX12_beingTold ∈ mf_tbl := mf_m7 (i := 87) rfl rfl
set_option maxRecDepth 100000 in
theorem sl_X12_beingTold : Cond.selects yX12_beingTold.cls yX12_beingTold yX12_beingTold ∈ mf_tbl := mf_s4 (i := 9) rfl
set_option maxRecDepth 100000 in
theorem ml_X12_365 : Cond.methodLink RX12 365 yX12_wormTold ∈ mf_tbl := mf_m7 (i := 81) rfl rfl
set_option maxRecDepth 100000 in
theorem im_X12_wormTold : Cond.instanceMethod yX12_wormTold ∈ mf_tbl := mf_m7 (i := 83) rfl rfl
set_option maxRecDepth 100000 in
theorem sl_X12_wormTold : Cond.selects yX12_wormTold.cls yX12_wormTold yX12_wormTold ∈ mf_tbl := mf_s4 (i := 8) rfl
set_option maxRecDepth 100000 in
theorem ml_X12_362 : Cond.methodLink RX12 362 yX12_glossTold ∈ mf_tbl := mf_m7 (i := 61) rfl rfl
set_option maxRecDepth 100000 in
theorem im_X12_glossTold : Cond.instanceMethod yX12_glossTold ∈ mf_tbl := mf_m7 (i := 63) rfl rfl
set_option maxRecDepth 100000 in
theorem sl_X12_glossTold : Cond.selects yX12_glossTold.cls yX12_glossTold yX12_glossTold ∈ mf_tbl := mf_s4 (i := 3) rfl
set_option maxRecDepth 100000 in
theorem ml_X12_377 : Cond.methodLink RX12 377 yX12_folioTold ∈ mf_tbl := mf_m7 (i := 12) rfl rfl
set_option maxRecDepth 100000 in
theorem im_X12_folioTold : Cond.instanceMethod yX12_folioTold ∈ mf_tbl := mf_m7 (i := 14) rfl rfl
set_option maxRecDepth 100000 in
theorem sl_X12_folioTold : Cond.selects yX12_folioTold.cls yX12_folioTold yX12_folioTold ∈ mf_tbl := mf_s3 (i := 9) rfl
set_option maxRecDepth 100000 in
theorem ml_X12_380 : Cond.methodLink RX12 380 yX12_statementTold ∈ mf_tbl := mf_m7 (i := 57) rfl rfl
set_option maxRecDepth 100000 in
theorem im_X12_statementTold : Cond.instanceMethod yX12_statementTold ∈ mf_tbl := mf_m7 (i := 59) rfl rfl
set_option maxRecDepth 100000 in
theorem sl_X12_statementTold : Cond.selects yX12_statementTold.cls yX12_statementTold yX12_statementTold ∈ mf_tbl := mf_s4 (i := 2) rfl
set_option maxRecDepth 100000 in
theorem fl_X12_383 : Cond.fieldLink RX12 383 (TX12 7).1 (TX12 7).2.1 (TX12 7).2.2.1 ∈ mf_tbl := mf_m5 (i := 166) rfl rfl
set_option maxRecDepth 100000 in
theorem ml_X12_386 : Cond.methodLink RX12 386 yX12_stands ∈ mf_tbl := mf_m7 (i := 185) rfl rfl
set_option maxRecDepth 100000 in
theorem im_X12_stands : Cond.instanceMethod yX12_stands ∈ mf_tbl := mf_m7 (i := 187) rfl rfl
set_option maxRecDepth 100000 in
theorem sl_X12_stands : Cond.selects yX12_stands.cls yX12_stands yX12_stands ∈ mf_tbl := mf_s6 (i := 0) rfl
set_option maxRecDepth 100000 in
theorem fl_X12_393 : Cond.fieldLink RX12 393 (TX12 48).1 (TX12 48).2.1 (TX12 48).2.2.1 ∈ mf_tbl := mf_m5 (i := 207) rfl rfl
set_option maxRecDepth 100000 in
theorem fl_X12_396 : Cond.fieldLink RX12 396 (TX12 69).1 (TX12 69).2.1 (TX12 69).2.2.1 ∈ mf_tbl := mf_m5 (i := 228) rfl rfl
set_option maxRecDepth 100000 in
theorem fl_X12_399 : Cond.fieldLink RX12 399 (TX12 65).1 (TX12 65).2.1 (TX12 65).2.2.1 ∈ mf_tbl := mf_m5 (i := 224) rfl rfl
set_option maxRecDepth 100000 in
theorem fl_X12_389 : Cond.fieldLink RX12 389 (TX12 54).1 (TX12 54).2.1 (TX12 54).2.2.1 ∈ mf_tbl := mf_m5 (i := 213) rfl rfl
set_option maxRecDepth 100000 in
theorem ml_X12_402 : Cond.methodLink RX12 402 yX12_beingMany ∈ mf_tbl := mf_m7 (i := 204) rfl rfl
set_option maxRecDepth 100000 in
theorem im_X12_beingMany : Cond.instanceMethod yX12_beingMany ∈ mf_tbl := mf_m7 (i := 206) rfl rfl
set_option maxRecDepth 100000 in
theorem sl_X12_beingMany : Cond.selects yX12_beingMany.cls yX12_beingMany yX12_beingMany ∈ mf_tbl := mf_s6 (i := 2) rfl
set_option maxRecDepth 100000 in
theorem ml_X12_405 : Cond.methodLink RX12 405 yX12_leaves ∈ mf_tbl := mf_m8 (i := 11) rfl rfl
set_option maxRecDepth 100000 in
theorem im_X12_leaves : Cond.instanceMethod yX12_leaves ∈ mf_tbl := mf_m8 (i := 13) rfl rfl
set_option maxRecDepth 100000 in
theorem sl_X12_leaves : Cond.selects yX12_leaves.cls yX12_leaves yX12_leaves ∈ mf_tbl := mf_s6 (i := 11) rfl
set_option maxRecDepth 100000 in
theorem cl_X12_408 : Cond.constantLong RX12 408 9999 ∈ mf_tbl := mf_m8 (i := 122) rfl rfl
set_option maxRecDepth 100000 in
theorem ml_X12_410 : Cond.methodLink RX12 410 yX12_leafOf ∈ mf_tbl := mf_m7 (i := 224) rfl rfl
set_option maxRecDepth 100000 in
theorem im_X12_leafOf : Cond.instanceMethod yX12_leafOf ∈ mf_tbl := mf_m7 (i := 226) rfl rfl
set_option maxRecDepth 100000 in
theorem sl_X12_leafOf : Cond.selects yX12_leafOf.cls yX12_leafOf yX12_leafOf ∈ mf_tbl := mf_s6 (i := 7) rfl
set_option maxRecDepth 100000 in
theorem ml_X12_413 : Cond.methodLink RX12 413 yX12_cellOf ∈ mf_tbl := mf_m7 (i := 228) rfl rfl
set_option maxRecDepth 100000 in
theorem im_X12_cellOf : Cond.instanceMethod yX12_cellOf ∈ mf_tbl := mf_m7 (i := 230) rfl rfl
set_option maxRecDepth 100000 in
theorem sl_X12_cellOf : Cond.selects yX12_cellOf.cls yX12_cellOf yX12_cellOf ∈ mf_tbl := mf_s6 (i := 8) rfl
set_option maxRecDepth 100000 in
theorem ml_X12_416 : Cond.methodLink RX12 416 yX12_isOpen ∈ mf_tbl := mf_m7 (i := 236) rfl rfl
set_option maxRecDepth 100000 in
theorem sm_X12_isOpen : Cond.static yX12_isOpen ∈ mf_tbl := mf_m7 (i := 237) rfl rfl
set_option maxRecDepth 100000 in
theorem ml_X12_419 : Cond.methodLink RX12 419 yX12_liesOnNext ∈ mf_tbl := mf_m8 (i := 40) rfl rfl
set_option maxRecDepth 100000 in
theorem im_X12_liesOnNext : Cond.instanceMethod yX12_liesOnNext ∈ mf_tbl := mf_m8 (i := 42) rfl rfl
set_option maxRecDepth 100000 in
theorem sl_X12_liesOnNext : Cond.selects yX12_liesOnNext.cls yX12_liesOnNext yX12_liesOnNext ∈ mf_tbl := mf_s6 (i := 15) rfl
set_option maxRecDepth 100000 in
theorem ml_X12_433 : Cond.methodLink RX12 433 yX12_qJoins ∈ mf_tbl := mf_m7 (i := 239) rfl rfl
set_option maxRecDepth 100000 in
theorem im_X12_qJoins : Cond.instanceMethod yX12_qJoins ∈ mf_tbl := mf_m8 (i := 1) rfl rfl
set_option maxRecDepth 100000 in
theorem sl_X12_qJoins : Cond.selects yX12_qJoins.cls yX12_qJoins yX12_qJoins ∈ mf_tbl := mf_s6 (i := 10) rfl
set_option maxRecDepth 100000 in
theorem fl_X12_422 : Cond.fieldLink RX12 422 (TX12 101).1 (TX12 101).2.1 (TX12 101).2.2.1 ∈ mf_tbl := mf_m6 (i := 20) rfl rfl
set_option maxRecDepth 100000 in
theorem ml_X12_425 : Cond.methodLink RX12 425 yX12_qPuts ∈ mf_tbl := mf_m7 (i := 216) rfl rfl
set_option maxRecDepth 100000 in
theorem im_X12_qPuts : Cond.instanceMethod yX12_qPuts ∈ mf_tbl := mf_m7 (i := 218) rfl rfl
set_option maxRecDepth 100000 in
theorem sl_X12_qPuts : Cond.selects yX12_qPuts.cls yX12_qPuts yX12_qPuts ∈ mf_tbl := mf_s6 (i := 5) rfl
set_option maxRecDepth 100000 in
theorem ml_X12_429 : Cond.methodLink RX12 429 yX12_qPartOf ∈ mf_tbl := mf_m7 (i := 220) rfl rfl
set_option maxRecDepth 100000 in
theorem im_X12_qPartOf : Cond.instanceMethod yX12_qPartOf ∈ mf_tbl := mf_m7 (i := 222) rfl rfl
set_option maxRecDepth 100000 in
theorem sl_X12_qPartOf : Cond.selects yX12_qPartOf.cls yX12_qPartOf yX12_qPartOf ∈ mf_tbl := mf_s6 (i := 6) rfl
set_option maxRecDepth 100000 in
theorem fl_X12_436 : Cond.fieldLink RX12 436 (TX12 58).1 (TX12 58).2.1 (TX12 58).2.2.1 ∈ mf_tbl := mf_m5 (i := 217) rfl rfl
set_option maxRecDepth 100000 in
theorem ml_X12_439 : Cond.methodLink RX12 439 yX12_codesTell ∈ mf_tbl := mf_m7 (i := 212) rfl rfl
set_option maxRecDepth 100000 in
theorem im_X12_codesTell : Cond.instanceMethod yX12_codesTell ∈ mf_tbl := mf_m7 (i := 214) rfl rfl
set_option maxRecDepth 100000 in
theorem sl_X12_codesTell : Cond.selects yX12_codesTell.cls yX12_codesTell yX12_codesTell ∈ mf_tbl := mf_s6 (i := 4) rfl
set_option maxRecDepth 100000 in
theorem fl_X12_442 : Cond.fieldLink RX12 442 (TX12 61).1 (TX12 61).2.1 (TX12 61).2.2.1 ∈ mf_tbl := mf_m5 (i := 220) rfl rfl
set_option maxRecDepth 100000 in
theorem ml_X12_445 : Cond.methodLink RX12 445 yX12_purseOf ∈ mf_tbl := mf_m7 (i := 232) rfl rfl
set_option maxRecDepth 100000 in
theorem im_X12_purseOf : Cond.instanceMethod yX12_purseOf ∈ mf_tbl := mf_m7 (i := 234) rfl rfl
set_option maxRecDepth 100000 in
theorem sl_X12_purseOf : Cond.selects yX12_purseOf.cls yX12_purseOf yX12_purseOf ∈ mf_tbl := mf_s6 (i := 9) rfl
set_option maxRecDepth 100000 in
theorem ml_X12_448 : Cond.methodLink RX12 448 yX12_purseIs ∈ mf_tbl := mf_m8 (i := 118) rfl rfl
set_option maxRecDepth 100000 in
theorem im_X12_purseIs : Cond.instanceMethod yX12_purseIs ∈ mf_tbl := mf_m8 (i := 120) rfl rfl
set_option maxRecDepth 100000 in
theorem sl_X12_purseIs : Cond.selects yX12_purseIs.cls yX12_purseIs yX12_purseIs ∈ mf_tbl := mf_s7 (i := 13) rfl
set_option maxRecDepth 100000 in
theorem ml_X12_464 : Cond.methodLink RX12 464 yX12_pays ∈ mf_tbl := mf_m8 (i := 114) rfl rfl
set_option maxRecDepth 100000 in
theorem im_X12_pays : Cond.instanceMethod yX12_pays ∈ mf_tbl := mf_m8 (i := 116) rfl rfl
set_option maxRecDepth 100000 in
theorem sl_X12_pays : Cond.selects yX12_pays.cls yX12_pays yX12_pays ∈ mf_tbl := mf_s7 (i := 12) rfl
set_option maxRecDepth 100000 in
theorem fl_X12_452 : Cond.fieldLink RX12 452 (TX12 62).1 (TX12 62).2.1 (TX12 62).2.2.1 ∈ mf_tbl := mf_m5 (i := 221) rfl rfl
set_option maxRecDepth 100000 in
theorem ml_X12_455 : Cond.methodLink RX12 455 yX12_isMet ∈ mf_tbl := mf_m8 (i := 106) rfl rfl
set_option maxRecDepth 100000 in
theorem im_X12_isMet : Cond.instanceMethod yX12_isMet ∈ mf_tbl := mf_m8 (i := 108) rfl rfl
set_option maxRecDepth 100000 in
theorem sl_X12_isMet : Cond.selects yX12_isMet.cls yX12_isMet yX12_isMet ∈ mf_tbl := mf_s7 (i := 10) rfl
set_option maxRecDepth 100000 in
theorem ml_X12_458 : Cond.methodLink RX12 458 yX12_isKept ∈ mf_tbl := mf_m8 (i := 110) rfl rfl
set_option maxRecDepth 100000 in
theorem im_X12_isKept : Cond.instanceMethod yX12_isKept ∈ mf_tbl := mf_m8 (i := 112) rfl rfl
set_option maxRecDepth 100000 in
theorem sl_X12_isKept : Cond.selects yX12_isKept.cls yX12_isKept yX12_isKept ∈ mf_tbl := mf_s7 (i := 11) rfl
set_option maxRecDepth 100000 in
theorem fl_X12_461 : Cond.fieldLink RX12 461 (TX12 60).1 (TX12 60).2.1 (TX12 60).2.2.1 ∈ mf_tbl := mf_m5 (i := 219) rfl rfl
set_option maxRecDepth 100000 in
theorem ml_X12_471 : Cond.methodLink RX12 471 yX12_doMeet ∈ mf_tbl := mf_m8 (i := 61) rfl rfl
set_option maxRecDepth 100000 in
theorem im_X12_doMeet : Cond.instanceMethod yX12_doMeet ∈ mf_tbl := mf_m8 (i := 63) rfl rfl
set_option maxRecDepth 100000 in
theorem sl_X12_doMeet : Cond.selects yX12_doMeet.cls yX12_doMeet yX12_doMeet ∈ mf_tbl := mf_s7 (i := 2) rfl
set_option maxRecDepth 100000 in
theorem ml_X12_474 : Cond.methodLink RX12 474 yX12_meet ∈ mf_tbl := mf_m8 (i := 102) rfl rfl
set_option maxRecDepth 100000 in
theorem im_X12_meet : Cond.instanceMethod yX12_meet ∈ mf_tbl := mf_m8 (i := 104) rfl rfl
set_option maxRecDepth 100000 in
theorem sl_X12_meet : Cond.selects yX12_meet.cls yX12_meet yX12_meet ∈ mf_tbl := mf_s7 (i := 9) rfl
set_option maxRecDepth 100000 in
theorem cl_X12_477 : Cond.constantLong RX12 477 (-99) ∈ mf_tbl := mf_m8 (i := 123) rfl rfl
set_option maxRecDepth 100000 in
theorem cl_X12_479 : Cond.constantLong RX12 479 99 ∈ mf_tbl := mf_m8 (i := 124) rfl rfl
set_option maxRecDepth 100000 in
theorem ml_X12_481 : Cond.methodLink RX12 481 yX12_hasGloss ∈ mf_tbl := mf_m8 (i := 44) rfl rfl
set_option maxRecDepth 100000 in
theorem im_X12_hasGloss : Cond.instanceMethod yX12_hasGloss ∈ mf_tbl := mf_m8 (i := 46) rfl rfl
set_option maxRecDepth 100000 in
theorem sl_X12_hasGloss : Cond.selects yX12_hasGloss.cls yX12_hasGloss yX12_hasGloss ∈ mf_tbl := mf_s7 (i := 0) rfl
set_option maxRecDepth 100000 in
theorem ml_X12_484 : Cond.methodLink RX12 484 yX12_standsOn ∈ mf_tbl := mf_m8 (i := 48) rfl rfl
set_option maxRecDepth 100000 in
theorem im_X12_standsOn : Cond.instanceMethod yX12_standsOn ∈ mf_tbl := mf_m8 (i := 50) rfl rfl
set_option maxRecDepth 100000 in
theorem sl_X12_standsOn : Cond.selects yX12_standsOn.cls yX12_standsOn yX12_standsOn ∈ mf_tbl := mf_s7 (i := 1) rfl
set_option maxRecDepth 100000 in
theorem fl_X12_468 : Cond.fieldLink RX12 468 (TX12 59).1 (TX12 59).2.1 (TX12 59).2.2.1 ∈ mf_tbl := mf_m5 (i := 218) rfl rfl
set_option maxRecDepth 100000 in
theorem ml_X12_487 : Cond.methodLink RX12 487 yX12_openingOn ∈ mf_tbl := mf_m7 (i := 208) rfl rfl
set_option maxRecDepth 100000 in
theorem im_X12_openingOn : Cond.instanceMethod yX12_openingOn ∈ mf_tbl := mf_m7 (i := 210) rfl rfl
set_option maxRecDepth 100000 in
theorem sl_X12_openingOn : Cond.selects yX12_openingOn.cls yX12_openingOn yX12_openingOn ∈ mf_tbl := mf_s6 (i := 3) rfl
set_option maxRecDepth 100000 in
theorem ml_X12_490 : Cond.methodLink RX12 490 yX12_dayBy ∈ mf_tbl := mf_m8 (i := 98) rfl rfl
set_option maxRecDepth 100000 in
theorem im_X12_dayBy : Cond.instanceMethod yX12_dayBy ∈ mf_tbl := mf_m8 (i := 100) rfl rfl
set_option maxRecDepth 100000 in
theorem sl_X12_dayBy : Cond.selects yX12_dayBy.cls yX12_dayBy yX12_dayBy ∈ mf_tbl := mf_s7 (i := 8) rfl
set_option maxRecDepth 100000 in
theorem ml_X12_493 : Cond.methodLink RX12 493 yX12_bits ∈ mf_tbl := mf_m7 (i := 201) rfl rfl
set_option maxRecDepth 100000 in
theorem sm_X12_bits : Cond.static yX12_bits ∈ mf_tbl := mf_m7 (i := 202) rfl rfl
set_option maxRecDepth 100000 in
theorem ml_X12_496 : Cond.methodLink RX12 496 yX12_glossMany ∈ mf_tbl := mf_m7 (i := 197) rfl rfl
set_option maxRecDepth 100000 in
theorem im_X12_glossMany : Cond.instanceMethod yX12_glossMany ∈ mf_tbl := mf_m7 (i := 199) rfl rfl
set_option maxRecDepth 100000 in
theorem sl_X12_glossMany : Cond.selects yX12_glossMany.cls yX12_glossMany yX12_glossMany ∈ mf_tbl := mf_s6 (i := 1) rfl
set_option maxRecDepth 100000 in
theorem ml_X12_499 : Cond.methodLink RX12 499 yX12_pursesAll ∈ mf_tbl := mf_m8 (i := 15) rfl rfl
set_option maxRecDepth 100000 in
theorem im_X12_pursesAll : Cond.instanceMethod yX12_pursesAll ∈ mf_tbl := mf_m8 (i := 17) rfl rfl
set_option maxRecDepth 100000 in
theorem sl_X12_pursesAll : Cond.selects yX12_pursesAll.cls yX12_pursesAll yX12_pursesAll ∈ mf_tbl := mf_s6 (i := 12) rfl
set_option maxRecDepth 100000 in
theorem ml_X12_502 : Cond.methodLink RX12 502 yX12_isBeing ∈ mf_tbl := mf_m8 (i := 23) rfl rfl
set_option maxRecDepth 100000 in
theorem im_X12_isBeing : Cond.instanceMethod yX12_isBeing ∈ mf_tbl := mf_m8 (i := 25) rfl rfl
set_option maxRecDepth 100000 in
theorem sl_X12_isBeing : Cond.selects yX12_isBeing.cls yX12_isBeing yX12_isBeing ∈ mf_tbl := mf_s6 (i := 13) rfl
set_option maxRecDepth 100000 in
theorem cl_X12_505 : Cond.constantLong RX12 505 5 ∈ mf_tbl := mf_m8 (i := 27) rfl rfl
set_option maxRecDepth 100000 in
theorem ml_X12_507 : Cond.methodLink RX12 507 yX12_isCell ∈ mf_tbl := mf_m8 (i := 36) rfl rfl
set_option maxRecDepth 100000 in
theorem im_X12_isCell : Cond.instanceMethod yX12_isCell ∈ mf_tbl := mf_m8 (i := 38) rfl rfl
set_option maxRecDepth 100000 in
theorem sl_X12_isCell : Cond.selects yX12_isCell.cls yX12_isCell yX12_isCell ∈ mf_tbl := mf_s6 (i := 14) rfl
set_option maxRecDepth 100000 in
theorem cl_X12_510 : Cond.constantLong RX12 510 2 ∈ mf_tbl := mf_m8 (i := 56) rfl rfl
set_option maxRecDepth 100000 in
theorem cl_X12_512 : Cond.constantLong RX12 512 (-1) ∈ mf_tbl := mf_m8 (i := 69) rfl rfl
set_option maxRecDepth 100000 in
theorem ml_X12_514 : Cond.methodLink RX12 514 yX12_pairsBy ∈ mf_tbl := mf_m8 (i := 70) rfl rfl
set_option maxRecDepth 100000 in
theorem im_X12_pairsBy : Cond.instanceMethod yX12_pairsBy ∈ mf_tbl := mf_m8 (i := 72) rfl rfl
set_option maxRecDepth 100000 in
theorem sl_X12_pairsBy : Cond.selects yX12_pairsBy.cls yX12_pairsBy yX12_pairsBy ∈ mf_tbl := mf_s7 (i := 3) rfl
set_option maxRecDepth 100000 in
theorem ml_X12_517 : Cond.methodLink RX12 517 yX12_rowsOf ∈ mf_tbl := mf_m8 (i := 86) rfl rfl
set_option maxRecDepth 100000 in
theorem im_X12_rowsOf : Cond.instanceMethod yX12_rowsOf ∈ mf_tbl := mf_m8 (i := 88) rfl rfl
set_option maxRecDepth 100000 in
theorem sl_X12_rowsOf : Cond.selects yX12_rowsOf.cls yX12_rowsOf yX12_rowsOf ∈ mf_tbl := mf_s7 (i := 5) rfl
set_option maxRecDepth 100000 in
theorem ml_X12_533 : Cond.methodLink RX12 533 yX12_takesBack ∈ mf_tbl := mf_m8 (i := 129) rfl rfl
set_option maxRecDepth 100000 in
theorem im_X12_takesBack : Cond.instanceMethod yX12_takesBack ∈ mf_tbl := mf_m8 (i := 131) rfl rfl
set_option maxRecDepth 100000 in
theorem sl_X12_takesBack : Cond.selects yX12_takesBack.cls yX12_takesBack yX12_takesBack ∈ mf_tbl := mf_s7 (i := 15) rfl
set_option maxRecDepth 100000 in
theorem ml_X12_526 : Cond.methodLink RX12 526 yX12_openingAt ∈ mf_tbl := mf_m8 (i := 94) rfl rfl
set_option maxRecDepth 100000 in
theorem im_X12_openingAt : Cond.instanceMethod yX12_openingAt ∈ mf_tbl := mf_m8 (i := 96) rfl rfl
set_option maxRecDepth 100000 in
theorem sl_X12_openingAt : Cond.selects yX12_openingAt.cls yX12_openingAt yX12_openingAt ∈ mf_tbl := mf_s7 (i := 7) rfl
set_option maxRecDepth 100000 in
theorem ml_X12_530 : Cond.methodLink RX12 530 yX12_triesAnew ∈ mf_tbl := mf_m8 (i := 125) rfl rfl
set_option maxRecDepth 100000 in
theorem im_X12_triesAnew : Cond.instanceMethod yX12_triesAnew ∈ mf_tbl := mf_m8 (i := 127) rfl rfl
set_option maxRecDepth 100000 in
theorem sl_X12_triesAnew : Cond.selects yX12_triesAnew.cls yX12_triesAnew yX12_triesAnew ∈ mf_tbl := mf_s7 (i := 14) rfl
set_option maxRecDepth 100000 in
theorem ml_X12_520 : Cond.methodLink RX12 520 yX12_isAhead ∈ mf_tbl := mf_m8 (i := 82) rfl rfl
set_option maxRecDepth 100000 in
theorem im_X12_isAhead : Cond.instanceMethod yX12_isAhead ∈ mf_tbl := mf_m8 (i := 84) rfl rfl
set_option maxRecDepth 100000 in
theorem sl_X12_isAhead : Cond.selects yX12_isAhead.cls yX12_isAhead yX12_isAhead ∈ mf_tbl := mf_s7 (i := 4) rfl
set_option maxRecDepth 100000 in
theorem ml_X12_523 : Cond.methodLink RX12 523 yX12_putsAside ∈ mf_tbl := mf_m8 (i := 90) rfl rfl
set_option maxRecDepth 100000 in
theorem im_X12_putsAside : Cond.instanceMethod yX12_putsAside ∈ mf_tbl := mf_m8 (i := 92) rfl rfl
set_option maxRecDepth 100000 in
theorem sl_X12_putsAside : Cond.selects yX12_putsAside.cls yX12_putsAside yX12_putsAside ∈ mf_tbl := mf_s7 (i := 6) rfl
set_option maxRecDepth 100000 in
theorem ml_X12_536 : Cond.methodLink RX12 536 yX12_daysGo ∈ mf_tbl := mf_m8 (i := 137) rfl rfl
set_option maxRecDepth 100000 in
theorem im_X12_daysGo : Cond.instanceMethod yX12_daysGo ∈ mf_tbl := mf_m8 (i := 139) rfl rfl
set_option maxRecDepth 100000 in
theorem sl_X12_daysGo : Cond.selects yX12_daysGo.cls yX12_daysGo yX12_daysGo ∈ mf_tbl := mf_s8 (i := 0) rfl
set_option maxRecDepth 100000 in
theorem ml_X12_539 : Cond.methodLink RX12 539 yX12_comes ∈ mf_tbl := mf_m8 (i := 153) rfl rfl
set_option maxRecDepth 100000 in
theorem im_X12_comes : Cond.instanceMethod yX12_comes ∈ mf_tbl := mf_m8 (i := 155) rfl rfl
set_option maxRecDepth 100000 in
theorem sl_X12_comes : Cond.selects yX12_comes.cls yX12_comes yX12_comes ∈ mf_tbl := mf_s8 (i := 2) rfl
set_option maxRecDepth 100000 in
theorem ml_X12_543 : Cond.methodLink RX12 543 yX12_goesOn ∈ mf_tbl := mf_m8 (i := 149) rfl rfl
set_option maxRecDepth 100000 in
theorem im_X12_goesOn : Cond.instanceMethod yX12_goesOn ∈ mf_tbl := mf_m8 (i := 151) rfl rfl
set_option maxRecDepth 100000 in
theorem sl_X12_goesOn : Cond.selects yX12_goesOn.cls yX12_goesOn yX12_goesOn ∈ mf_tbl := mf_s8 (i := 1) rfl
set_option maxRecDepth 100000 in
theorem ml_X12_546 : Cond.methodLink RX12 546 yX12_refuses ∈ mf_tbl := mf_m8 (i := 161) rfl rfl
set_option maxRecDepth 100000 in
theorem im_X12_refuses : Cond.instanceMethod yX12_refuses ∈ mf_tbl := mf_m8 (i := 163) rfl rfl
set_option maxRecDepth 100000 in
theorem sl_X12_refuses : Cond.selects yX12_refuses.cls yX12_refuses yX12_refuses ∈ mf_tbl := mf_s8 (i := 3) rfl
set_option maxRecDepth 100000 in
theorem ml_X12_549 : Cond.methodLink RX12 549 yX12_isAsSeen ∈ mf_tbl := mf_m8 (i := 173) rfl rfl
set_option maxRecDepth 100000 in
theorem im_X12_isAsSeen : Cond.instanceMethod yX12_isAsSeen ∈ mf_tbl := mf_m8 (i := 175) rfl rfl
set_option maxRecDepth 100000 in
theorem sl_X12_isAsSeen : Cond.selects yX12_isAsSeen.cls yX12_isAsSeen yX12_isAsSeen ∈ mf_tbl := mf_s8 (i := 5) rfl
set_option maxRecDepth 100000 in
theorem ml_X12_552 : Cond.methodLink RX12 552 yX12_openingsSeen ∈ mf_tbl := mf_m8 (i := 169) rfl rfl
set_option maxRecDepth 100000 in
theorem im_X12_openingsSeen : Cond.instanceMethod yX12_openingsSeen ∈ mf_tbl := mf_m8 (i := 171) rfl rfl
set_option maxRecDepth 100000 in
theorem sl_X12_openingsSeen : Cond.selects yX12_openingsSeen.cls yX12_openingsSeen yX12_openingsSeen ∈ mf_tbl := mf_s8 (i := 4) rfl
set_option maxRecDepth 100000 in
theorem fl_X12_555 : Cond.fieldLink RX12 555 (TX12 70).1 (TX12 70).2.1 (TX12 70).2.2.1 ∈ mf_tbl := mf_m5 (i := 229) rfl rfl
set_option maxRecDepth 100000 in
theorem ml_X12_558 : Cond.methodLink RX12 558 yX12_keeps ∈ mf_tbl := mf_m8 (i := 193) rfl rfl
set_option maxRecDepth 100000 in
theorem im_X12_keeps : Cond.instanceMethod yX12_keeps ∈ mf_tbl := mf_m8 (i := 195) rfl rfl
set_option maxRecDepth 100000 in
theorem sl_X12_keeps : Cond.selects yX12_keeps.cls yX12_keeps yX12_keeps ∈ mf_tbl := mf_s8 (i := 6) rfl
set_option maxRecDepth 100000 in
theorem ml_X12_561 : Cond.methodLink RX12 561 yX12_isFree ∈ mf_tbl := mf_m8 (i := 205) rfl rfl
set_option maxRecDepth 100000 in
theorem im_X12_isFree : Cond.instanceMethod yX12_isFree ∈ mf_tbl := mf_m8 (i := 207) rfl rfl
set_option maxRecDepth 100000 in
theorem sl_X12_isFree : Cond.selects yX12_isFree.cls yX12_isFree yX12_isFree ∈ mf_tbl := mf_s8 (i := 8) rfl
set_option maxRecDepth 100000 in
theorem ml_X12_564 : Cond.methodLink RX12 564 yX12_refuge ∈ mf_tbl := mf_m8 (i := 201) rfl rfl
set_option maxRecDepth 100000 in
theorem im_X12_refuge : Cond.instanceMethod yX12_refuge ∈ mf_tbl := mf_m8 (i := 203) rfl rfl
set_option maxRecDepth 100000 in
theorem sl_X12_refuge : Cond.selects yX12_refuge.cls yX12_refuge yX12_refuge ∈ mf_tbl := mf_s8 (i := 7) rfl
set_option maxRecDepth 100000 in
theorem cl_X12_567 : Cond.constantLong RX12 567 1103515245 ∈ mf_tbl := mf_m8 (i := 225) rfl rfl
set_option maxRecDepth 100000 in
theorem cl_X12_569 : Cond.constantLong RX12 569 12345 ∈ mf_tbl := mf_m8 (i := 226) rfl rfl
set_option maxRecDepth 100000 in
theorem cl_X12_571 : Cond.constantLong RX12 571 2147483648 ∈ mf_tbl := mf_m8 (i := 227) rfl rfl
set_option maxRecDepth 100000 in
theorem cl_X12_573 : Cond.constantLong RX12 573 64 ∈ mf_tbl := mf_m8 (i := 228) rfl rfl
set_option maxRecDepth 100000 in
theorem ml_X12_575 : Cond.methodLink RX12 575 yX12_drawOf ∈ mf_tbl := mf_m8 (i := 221) rfl rfl
set_option maxRecDepth 100000 in
theorem im_X12_drawOf : Cond.instanceMethod yX12_drawOf ∈ mf_tbl := mf_m8 (i := 223) rfl rfl
set_option maxRecDepth 100000 in
theorem sl_X12_drawOf : Cond.selects yX12_drawOf.cls yX12_drawOf yX12_drawOf ∈ mf_tbl := mf_s8 (i := 9) rfl
set_option maxRecDepth 100000 in
theorem ml_X12_578 : Cond.methodLink RX12 578 yX12_qCode ∈ mf_tbl := mf_m7 (i := 118) rfl rfl
set_option maxRecDepth 100000 in
theorem im_X12_qCode : Cond.instanceMethod yX12_qCode ∈ mf_tbl := mf_m7 (i := 120) rfl rfl
set_option maxRecDepth 100000 in
theorem sl_X12_qCode : Cond.selects yX12_qCode.cls yX12_qCode yX12_qCode ∈ mf_tbl := mf_s5 (i := 0) rfl
set_option maxRecDepth 100000 in
theorem ml_X12_581 : Cond.methodLink RX12 581 yX12_qIsBracket ∈ mf_tbl := mf_m7 (i := 162) rfl rfl
set_option maxRecDepth 100000 in
theorem sm_X12_qIsBracket : Cond.static yX12_qIsBracket ∈ mf_tbl := mf_m7 (i := 163) rfl rfl
set_option maxRecDepth 100000 in
theorem ml_X12_584 : Cond.methodLink RX12 584 yX12_qDrops ∈ mf_tbl := mf_m7 (i := 150) rfl rfl
set_option maxRecDepth 100000 in
theorem im_X12_qDrops : Cond.instanceMethod yX12_qDrops ∈ mf_tbl := mf_m7 (i := 152) rfl rfl
set_option maxRecDepth 100000 in
theorem sl_X12_qDrops : Cond.selects yX12_qDrops.cls yX12_qDrops yX12_qDrops ∈ mf_tbl := mf_s5 (i := 8) rfl
set_option maxRecDepth 100000 in
theorem ml_X12_587 : Cond.methodLink RX12 587 yX12_qWordHere ∈ mf_tbl := mf_m7 (i := 134) rfl rfl
set_option maxRecDepth 100000 in
theorem im_X12_qWordHere : Cond.instanceMethod yX12_qWordHere ∈ mf_tbl := mf_m7 (i := 136) rfl rfl
set_option maxRecDepth 100000 in
theorem sl_X12_qWordHere : Cond.selects yX12_qWordHere.cls yX12_qWordHere yX12_qWordHere ∈ mf_tbl := mf_s5 (i := 4) rfl
set_option maxRecDepth 100000 in
theorem ml_X12_590 : Cond.methodLink RX12 590 yX12_isAllowed ∈ mf_tbl := mf_m7 (i := 138) rfl rfl
set_option maxRecDepth 100000 in
theorem im_X12_isAllowed : Cond.instanceMethod yX12_isAllowed ∈ mf_tbl := mf_m7 (i := 140) rfl rfl
set_option maxRecDepth 100000 in
theorem sl_X12_isAllowed : Cond.selects yX12_isAllowed.cls yX12_isAllowed yX12_isAllowed ∈ mf_tbl := mf_s5 (i := 5) rfl
set_option maxRecDepth 100000 in
theorem ml_X12_593 : Cond.methodLink RX12 593 yX12_qWordOf ∈ mf_tbl := mf_m7 (i := 130) rfl rfl
set_option maxRecDepth 100000 in
theorem im_X12_qWordOf : Cond.instanceMethod yX12_qWordOf ∈ mf_tbl := mf_m7 (i := 132) rfl rfl
set_option maxRecDepth 100000 in
theorem sl_X12_qWordOf : Cond.selects yX12_qWordOf.cls yX12_qWordOf yX12_qWordOf ∈ mf_tbl := mf_s5 (i := 3) rfl
set_option maxRecDepth 100000 in
theorem ml_X12_596 : Cond.methodLink RX12 596 yX12_qOpens ∈ mf_tbl := mf_m7 (i := 110) rfl rfl
set_option maxRecDepth 100000 in
theorem im_X12_qOpens : Cond.instanceMethod yX12_qOpens ∈ mf_tbl := mf_m7 (i := 112) rfl rfl
set_option maxRecDepth 100000 in
theorem sl_X12_qOpens : Cond.selects yX12_qOpens.cls yX12_qOpens yX12_qOpens ∈ mf_tbl := mf_s4 (i := 14) rfl
set_option maxRecDepth 100000 in
theorem ml_X12_599 : Cond.methodLink RX12 599 yX12_qAsksWord ∈ mf_tbl := mf_m7 (i := 142) rfl rfl
set_option maxRecDepth 100000 in
theorem im_X12_qAsksWord : Cond.instanceMethod yX12_qAsksWord ∈ mf_tbl := mf_m7 (i := 144) rfl rfl
set_option maxRecDepth 100000 in
theorem sl_X12_qAsksWord : Cond.selects yX12_qAsksWord.cls yX12_qAsksWord yX12_qAsksWord ∈ mf_tbl := mf_s5 (i := 6) rfl
set_option maxRecDepth 100000 in
theorem ml_X12_602 : Cond.methodLink RX12 602 yX12_qEndsPart ∈ mf_tbl := mf_m7 (i := 146) rfl rfl
set_option maxRecDepth 100000 in
theorem im_X12_qEndsPart : Cond.instanceMethod yX12_qEndsPart ∈ mf_tbl := mf_m7 (i := 148) rfl rfl
set_option maxRecDepth 100000 in
theorem sl_X12_qEndsPart : Cond.selects yX12_qEndsPart.cls yX12_qEndsPart yX12_qEndsPart ∈ mf_tbl := mf_s5 (i := 7) rfl
set_option maxRecDepth 100000 in
theorem ml_X12_605 : Cond.methodLink RX12 605 yX12_qBracket ∈ mf_tbl := mf_m7 (i := 158) rfl rfl
set_option maxRecDepth 100000 in
theorem im_X12_qBracket : Cond.instanceMethod yX12_qBracket ∈ mf_tbl := mf_m7 (i := 160) rfl rfl
set_option maxRecDepth 100000 in
theorem sl_X12_qBracket : Cond.selects yX12_qBracket.cls yX12_qBracket yX12_qBracket ∈ mf_tbl := mf_s5 (i := 10) rfl
set_option maxRecDepth 100000 in
theorem ml_X12_608 : Cond.methodLink RX12 608 yX12_qDropsToBracket ∈ mf_tbl := mf_m7 (i := 165) rfl rfl
set_option maxRecDepth 100000 in
theorem im_X12_qDropsToBracket : Cond.instanceMethod yX12_qDropsToBracket ∈ mf_tbl := mf_m7 (i := 167) rfl rfl
set_option maxRecDepth 100000 in
theorem sl_X12_qDropsToBracket : Cond.selects yX12_qDropsToBracket.cls yX12_qDropsToBracket yX12_qDropsToBracket ∈ mf_tbl := mf_s5 (i := 11) rfl
set_option maxRecDepth 100000 in
theorem ml_X12_611 : Cond.methodLink RX12 611 yX12_qIsOn ∈ mf_tbl := mf_m7 (i := 169) rfl rfl
set_option maxRecDepth 100000 in
theorem im_X12_qIsOn : Cond.instanceMethod yX12_qIsOn ∈ mf_tbl := mf_m7 (i := 171) rfl rfl
set_option maxRecDepth 100000 in
theorem sl_X12_qIsOn : Cond.selects yX12_qIsOn.cls yX12_qIsOn yX12_qIsOn ∈ mf_tbl := mf_s5 (i := 12) rfl
set_option maxRecDepth 100000 in
theorem ml_X12_614 : Cond.methodLink RX12 614 yX12_qPartTold ∈ mf_tbl := mf_m7 (i := 126) rfl rfl
set_option maxRecDepth 100000 in
theorem im_X12_qPartTold : Cond.instanceMethod yX12_qPartTold ∈ mf_tbl := mf_m7 (i := 128) rfl rfl
set_option maxRecDepth 100000 in
theorem sl_X12_qPartTold : Cond.selects yX12_qPartTold.cls yX12_qPartTold yX12_qPartTold ∈ mf_tbl := mf_s5 (i := 2) rfl
set_option maxRecDepth 100000 in
theorem ml_X12_617 : Cond.methodLink RX12 617 yX12_qGoesOn ∈ mf_tbl := mf_m7 (i := 154) rfl rfl
set_option maxRecDepth 100000 in
theorem im_X12_qGoesOn : Cond.instanceMethod yX12_qGoesOn ∈ mf_tbl := mf_m7 (i := 156) rfl rfl
set_option maxRecDepth 100000 in
theorem sl_X12_qGoesOn : Cond.selects yX12_qGoesOn.cls yX12_qGoesOn yX12_qGoesOn ∈ mf_tbl := mf_s5 (i := 9) rfl
set_option maxRecDepth 100000 in
theorem ml_X12_620 : Cond.methodLink RX12 620 yX12_qFact ∈ mf_tbl := mf_m7 (i := 114) rfl rfl
set_option maxRecDepth 100000 in
theorem im_X12_qFact : Cond.instanceMethod yX12_qFact ∈ mf_tbl := mf_m7 (i := 116) rfl rfl
set_option maxRecDepth 100000 in
theorem sl_X12_qFact : Cond.selects yX12_qFact.cls yX12_qFact yX12_qFact ∈ mf_tbl := mf_s4 (i := 15) rfl
set_option maxRecDepth 100000 in
theorem ml_X12_623 : Cond.methodLink RX12 623 yX12_qDropsNots ∈ mf_tbl := mf_m7 (i := 173) rfl rfl
set_option maxRecDepth 100000 in
theorem im_X12_qDropsNots : Cond.instanceMethod yX12_qDropsNots ∈ mf_tbl := mf_m7 (i := 175) rfl rfl
set_option maxRecDepth 100000 in
theorem sl_X12_qDropsNots : Cond.selects yX12_qDropsNots.cls yX12_qDropsNots yX12_qDropsNots ∈ mf_tbl := mf_s5 (i := 13) rfl
set_option maxRecDepth 100000 in
theorem ml_X12_626 : Cond.methodLink RX12 626 yX12_qGoesOnTest ∈ mf_tbl := mf_m7 (i := 177) rfl rfl
set_option maxRecDepth 100000 in
theorem im_X12_qGoesOnTest : Cond.instanceMethod yX12_qGoesOnTest ∈ mf_tbl := mf_m7 (i := 179) rfl rfl
set_option maxRecDepth 100000 in
theorem sl_X12_qGoesOnTest : Cond.selects yX12_qGoesOnTest.cls yX12_qGoesOnTest yX12_qGoesOnTest ∈ mf_tbl := mf_s5 (i := 14) rfl
set_option maxRecDepth 100000 in
theorem ml_X12_629 : Cond.methodLink RX12 629 yX12_qHasSquare ∈ mf_tbl := mf_m7 (i := 181) rfl rfl
set_option maxRecDepth 100000 in
theorem im_X12_qHasSquare : Cond.instanceMethod yX12_qHasSquare ∈ mf_tbl := mf_m7 (i := 183) rfl rfl
set_option maxRecDepth 100000 in
theorem sl_X12_qHasSquare : Cond.selects yX12_qHasSquare.cls yX12_qHasSquare yX12_qHasSquare ∈ mf_tbl := mf_s5 (i := 15) rfl
set_option maxRecDepth 100000 in
theorem cl_X12_632 : Cond.constantLong RX12 632 1000000 ∈ mf_tbl := mf_m8 (i := 6) rfl rfl
set_option maxRecDepth 100000 in
theorem cl_X12_634 : Cond.constantLong RX12 634 (-1000000) ∈ mf_tbl := mf_m8 (i := 7) rfl rfl
set_option maxRecDepth 100000 in
theorem ml_X12_636 : Cond.methodLink RX12 636 yX12_qClip ∈ mf_tbl := mf_m8 (i := 3) rfl rfl
set_option maxRecDepth 100000 in
theorem sm_X12_qClip : Cond.static yX12_qClip ∈ mf_tbl := mf_m8 (i := 4) rfl rfl
set_option maxRecDepth 100000 in
theorem ml_X12_640 : Cond.methodLink RX12 640 yX12_qFloor ∈ mf_tbl := mf_m8 (i := 8) rfl rfl
set_option maxRecDepth 100000 in
theorem sm_X12_qFloor : Cond.static yX12_qFloor ∈ mf_tbl := mf_m8 (i := 9) rfl rfl
set_option maxRecDepth 100000 in
theorem ml_X12_644 : Cond.methodLink RX12 644 yX12_qOf ∈ mf_tbl := mf_m9 (i := 2) rfl rfl
set_option maxRecDepth 100000 in
theorem im_X12_qOf : Cond.instanceMethod yX12_qOf ∈ mf_tbl := mf_m9 (i := 4) rfl rfl
set_option maxRecDepth 100000 in
theorem sl_X12_qOf : Cond.selects yX12_qOf.cls yX12_qOf yX12_qOf ∈ mf_tbl := mf_s8 (i := 12) rfl
set_option maxRecDepth 100000 in
theorem fl_X12_648 : Cond.fieldLink RX12 648 (TX12 102).1 (TX12 102).2.1 (TX12 102).2.2.1 ∈ mf_tbl := mf_m6 (i := 21) rfl rfl
set_option maxRecDepth 100000 in
theorem fl_X12_651 : Cond.fieldLink RX12 651 (TX12 103).1 (TX12 103).2.1 (TX12 103).2.2.1 ∈ mf_tbl := mf_m6 (i := 22) rfl rfl
set_option maxRecDepth 100000 in
theorem cl_X12_654 : Cond.constantLong RX12 654 (-1000000000000000) ∈ mf_tbl := mf_m8 (i := 233) rfl rfl
set_option maxRecDepth 100000 in
theorem ml_X12_659 : Cond.methodLink RX12 659 yX12_qTold ∈ mf_tbl := mf_m8 (i := 238) rfl rfl
set_option maxRecDepth 100000 in
theorem im_X12_qTold : Cond.instanceMethod yX12_qTold ∈ mf_tbl := mf_m9 (i := 0) rfl rfl
set_option maxRecDepth 100000 in
theorem sl_X12_qTold : Cond.selects yX12_qTold.cls yX12_qTold yX12_qTold ∈ mf_tbl := mf_s8 (i := 11) rfl
set_option maxRecDepth 100000 in
theorem ml_X12_663 : Cond.methodLink RX12 663 yX12_qTakes ∈ mf_tbl := mf_m9 (i := 6) rfl rfl
set_option maxRecDepth 100000 in
theorem im_X12_qTakes : Cond.instanceMethod yX12_qTakes ∈ mf_tbl := mf_m9 (i := 8) rfl rfl
set_option maxRecDepth 100000 in
theorem sl_X12_qTakes : Cond.selects yX12_qTakes.cls yX12_qTakes yX12_qTakes ∈ mf_tbl := mf_s8 (i := 13) rfl
set_option maxRecDepth 100000 in
theorem ml_X12_656 : Cond.methodLink RX12 656 yX12_qKind ∈ mf_tbl := mf_m8 (i := 234) rfl rfl
set_option maxRecDepth 100000 in
theorem im_X12_qKind : Cond.instanceMethod yX12_qKind ∈ mf_tbl := mf_m8 (i := 236) rfl rfl
set_option maxRecDepth 100000 in
theorem sl_X12_qKind : Cond.selects yX12_qKind.cls yX12_qKind yX12_qKind ∈ mf_tbl := mf_s8 (i := 10) rfl
set_option maxRecDepth 100000 in
theorem fl_X12_667 : Cond.fieldLink RX12 667 (TX12 105).1 (TX12 105).2.1 (TX12 105).2.2.1 ∈ mf_tbl := mf_m6 (i := 24) rfl rfl
set_option maxRecDepth 100000 in
theorem ml_X12_670 : Cond.methodLink RX12 670 yX12_writes ∈ mf_tbl := mf_m9 (i := 18) rfl rfl
set_option maxRecDepth 100000 in
theorem im_X12_writes : Cond.instanceMethod yX12_writes ∈ mf_tbl := mf_m9 (i := 20) rfl rfl
set_option maxRecDepth 100000 in
theorem sl_X12_writes : Cond.selects yX12_writes.cls yX12_writes yX12_writes ∈ mf_tbl := mf_s8 (i := 15) rfl
set_option maxRecDepth 100000 in
theorem ml_X12_676 : Cond.methodLink RX12 676 yX12_checked ∈ mf_tbl := mf_m9 (i := 22) rfl rfl
set_option maxRecDepth 100000 in
theorem sm_X12_checked : Cond.static yX12_checked ∈ mf_tbl := mf_m9 (i := 23) rfl rfl
set_option maxRecDepth 100000 in
theorem ml_X12_673 : Cond.methodLink RX12 673 yX12_writesTwo ∈ mf_tbl := mf_m9 (i := 14) rfl rfl
set_option maxRecDepth 100000 in
theorem im_X12_writesTwo : Cond.instanceMethod yX12_writesTwo ∈ mf_tbl := mf_m9 (i := 16) rfl rfl
set_option maxRecDepth 100000 in
theorem sl_X12_writesTwo : Cond.selects yX12_writesTwo.cls yX12_writesTwo yX12_writesTwo ∈ mf_tbl := mf_s8 (i := 14) rfl
set_option maxRecDepth 100000 in
theorem ml_X12_680 : Cond.methodLink RX12 680 yX12_twoAt ∈ mf_tbl := mf_m9 (i := 37) rfl rfl
set_option maxRecDepth 100000 in
theorem im_X12_twoAt : Cond.instanceMethod yX12_twoAt ∈ mf_tbl := mf_m9 (i := 39) rfl rfl
set_option maxRecDepth 100000 in
theorem sl_X12_twoAt : Cond.selects yX12_twoAt.cls yX12_twoAt yX12_twoAt ∈ mf_tbl := mf_s9 (i := 1) rfl
set_option maxRecDepth 100000 in
theorem ml_X12_683 : Cond.methodLink RX12 683 yX12_isBeingTold ∈ mf_tbl := mf_m9 (i := 41) rfl rfl
set_option maxRecDepth 100000 in
theorem im_X12_isBeingTold : Cond.instanceMethod yX12_isBeingTold ∈ mf_tbl := mf_m9 (i := 43) rfl rfl
set_option maxRecDepth 100000 in
theorem sl_X12_isBeingTold : Cond.selects yX12_isBeingTold.cls yX12_isBeingTold yX12_isBeingTold ∈ mf_tbl := mf_s9 (i := 2) rfl
set_option maxRecDepth 100000 in
theorem ml_X12_686 : Cond.methodLink RX12 686 yX12_isImage ∈ mf_tbl := mf_m9 (i := 33) rfl rfl
set_option maxRecDepth 100000 in
theorem im_X12_isImage : Cond.instanceMethod yX12_isImage ∈ mf_tbl := mf_m9 (i := 35) rfl rfl
set_option maxRecDepth 100000 in
theorem sl_X12_isImage : Cond.selects yX12_isImage.cls yX12_isImage yX12_isImage ∈ mf_tbl := mf_s9 (i := 0) rfl
set_option maxRecDepth 100000 in
theorem cl_J6_265 : Cond.constant RJ6 265 1431655765 ∈ mf_tbl := mf_m4 (i := 24) rfl rfl
set_option maxRecDepth 100000 in
theorem cl_J6_266 : Cond.constant RJ6 266 858993459 ∈ mf_tbl := mf_m4 (i := 25) rfl rfl
set_option maxRecDepth 100000 in
theorem cl_J6_267 : Cond.constant RJ6 267 252645135 ∈ mf_tbl := mf_m4 (i := 26) rfl rfl
set_option maxRecDepth 100000 in
theorem fl_J0_9 : Cond.fieldLink RJ0 9 "java/lang/String" "value" "[B" ∈ mf_tbl := mf_m9 (i := 49) rfl rfl
set_option maxRecDepth 100000 in
theorem ml_J0_335 : Cond.methodLink RJ0 335 yJ0_coder_7d493 ∈ mf_tbl := mf_m1 (i := 40) rfl rfl
set_option maxRecDepth 100000 in
theorem im_J0_coder_7d493 : Cond.instanceMethod yJ0_coder_7d493 ∈ mf_tbl := mf_m1 (i := 41) rfl rfl
set_option maxRecDepth 100000 in
theorem sl_J0_coder_7d493 : Cond.selects yJ0_coder_7d493.cls yJ0_coder_7d493 yJ0_coder_7d493 ∈ mf_tbl := mf_m1 (i := 42) rfl rfl
set_option maxRecDepth 100000 in
theorem ml_J0_492 : Cond.methodLink RJ0 492 yJ0_isLatin1_aae02 ∈ mf_tbl := mf_m1 (i := 50) rfl rfl
set_option maxRecDepth 100000 in
theorem im_J0_isLatin1_aae02 : Cond.instanceMethod yJ0_isLatin1_aae02 ∈ mf_tbl := mf_m1 (i := 51) rfl rfl
set_option maxRecDepth 100000 in
theorem sl_J0_isLatin1_aae02 : Cond.selects yJ0_isLatin1_aae02.cls yJ0_isLatin1_aae02 yJ0_isLatin1_aae02 ∈ mf_tbl := mf_m1 (i := 52) rfl rfl
set_option maxRecDepth 100000 in
theorem ml_J0_498 : Cond.methodLink RJ0 498 yJ2_charAt_3b067 ∈ mf_tbl := mf_m1 (i := 65) rfl rfl
set_option maxRecDepth 100000 in
theorem sm_J2_charAt_3b067 : Cond.static yJ2_charAt_3b067 ∈ mf_tbl := mf_m1 (i := 66) rfl rfl
set_option maxRecDepth 100000 in
theorem ml_J0_495 : Cond.methodLink RJ0 495 yJ1_charAt_3b067 ∈ mf_tbl := mf_m1 (i := 54) rfl rfl
set_option maxRecDepth 100000 in
theorem sm_J1_charAt_3b067 : Cond.static yJ1_charAt_3b067 ∈ mf_tbl := mf_m1 (i := 55) rfl rfl
set_option maxRecDepth 100000 in
theorem fl_J0_38 : Cond.fieldLink RJ0 38 "java/lang/String" "COMPACT_STRINGS" "Z" ∈ mf_tbl := mf_m1 (i := 44) rfl rfl
set_option maxRecDepth 100000 in
theorem fl_J0_15 : Cond.fieldLink RJ0 15 "java/lang/String" "coder" "B" ∈ mf_tbl := mf_m9 (i := 50) rfl rfl
set_option maxRecDepth 100000 in
theorem fl_J0_1053 : Cond.fieldLink RJ0 1053 "jdk/internal/util/Preconditions" "SIOOBE_FORMATTER" "Ljava/util/function/BiFunction;" ∈ mf_tbl := mf_m1 (i := 60) rfl rfl
set_option maxRecDepth 100000 in
theorem ml_J0_1059 : Cond.methodLink RJ0 1059 yJ3_checkIndex_8e157 ∈ mf_tbl := mf_m1 (i := 62) rfl rfl
set_option maxRecDepth 100000 in
theorem sm_J3_checkIndex_8e157 : Cond.static yJ3_checkIndex_8e157 ∈ mf_tbl := mf_m1 (i := 63) rfl rfl
set_option maxRecDepth 100000 in
theorem ml_J1_9 : Cond.methodLink RJ1 9 yJ0_checkIndex_df160 ∈ mf_tbl := mf_m1 (i := 57) rfl rfl
set_option maxRecDepth 100000 in
theorem sm_J0_checkIndex_df160 : Cond.static yJ0_checkIndex_df160 ∈ mf_tbl := mf_m1 (i := 58) rfl rfl
