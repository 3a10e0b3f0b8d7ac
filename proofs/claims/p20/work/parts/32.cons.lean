/-! the constructors -/
def nw_yE : MethodName := ⟨"java/lang/Exception", "<init>", "(Ljava/lang/String;Ljava/lang/Throwable;ZZ)V"⟩
def nw_yT : MethodName := ⟨"java/lang/Throwable", "<init>", "(Ljava/lang/String;Ljava/lang/Throwable;ZZ)V"⟩
def nw_RT : String := "java/lang/Throwable"
def nw_RE : String := "java/lang/Exception"
theorem nw_oi : Cond.instanceMethod Lib.objectInit ∈ lw_good := sv_mem 99 (by decide +kernel) rfl
theorem nw_oc : Cond.code Lib.objectInit ⟨#[0xb1]⟩ 1 none ∈ lw_good := sv_mem 100 (by decide +kernel) rfl
theorem nw_a_int : Cond.arrayClass .int ∈ lw_good := sv_mem 238 (by decide +kernel) rfl
theorem nw_a_byte : Cond.arrayClass .byte ∈ lw_good := sv_mem 116 (by decide +kernel) rfl
theorem nw_a_boolean : Cond.arrayClass .boolean ∈ lw_good := sv_mem 1103 (by decide +kernel) rfl
theorem nw_ml_X3_3 : Cond.methodLink RX3 3 Lib.objectInit ∈ lw_good := sv_mem 184 (by decide +kernel) rfl
theorem nw_ml_X6_3 : Cond.methodLink RX6 3 Lib.objectInit ∈ lw_good := sv_mem 122 (by decide +kernel) rfl
theorem nw_fl_X6_9 : Cond.fieldLink RX6 9 "SaintsRoad$Reader" "faultPlace" "I" ∈ lw_good := sv_mem 125 (by decide +kernel) rfl
theorem nw_ml_X7_3 : Cond.methodLink RX7 3 Lib.objectInit ∈ lw_good := sv_mem 106 (by decide +kernel) rfl
theorem nw_fl_X7_9 : Cond.fieldLink RX7 9 "SaintsRoad$Tape" "bytes" "[B" ∈ lw_good := sv_mem 107 (by decide +kernel) rfl
theorem nw_ml_X5_3 : Cond.methodLink RX5 3 Lib.objectInit ∈ lw_good := sv_mem 369 (by decide +kernel) rfl
theorem nw_fl_X5_9 : Cond.fieldLink RX5 9 "SaintsRoad$Procession" "corners" "[I" ∈ lw_good := sv_mem 375 (by decide +kernel) rfl
theorem nw_fl_X5_15 : Cond.fieldLink RX5 15 "SaintsRoad$Procession" "reached" "[I" ∈ lw_good := sv_mem 376 (by decide +kernel) rfl
theorem nw_ml_X0_3 : Cond.methodLink RX0 3 Lib.objectInit ∈ lw_good := sv_mem 316 (by decide +kernel) rfl
theorem nw_fl_X0_9 : Cond.fieldLink RX0 9 "SaintsRoad$Brotherhoods" "carriedBy" "[I" ∈ lw_good := sv_mem 317 (by decide +kernel) rfl
theorem nw_fl_X0_15 : Cond.fieldLink RX0 15 "SaintsRoad$Brotherhoods" "quarrels" "[I" ∈ lw_good := sv_mem 323 (by decide +kernel) rfl
theorem nw_fl_X0_18 : Cond.fieldLink RX0 18 "SaintsRoad$Brotherhoods" "latestTurn" "[I" ∈ lw_good := sv_mem 324 (by decide +kernel) rfl
theorem nw_fl_X0_21 : Cond.fieldLink RX0 21 "SaintsRoad$Brotherhoods" "yearOf" "[I" ∈ lw_good := sv_mem 325 (by decide +kernel) rfl
theorem nw_fl_X0_24 : Cond.fieldLink RX0 24 "SaintsRoad$Brotherhoods" "dayOf" "[I" ∈ lw_good := sv_mem 326 (by decide +kernel) rfl
theorem nw_fl_X0_27 : Cond.fieldLink RX0 27 "SaintsRoad$Brotherhoods" "feastOf" "[I" ∈ lw_good := sv_mem 327 (by decide +kernel) rfl
theorem nw_fl_X0_30 : Cond.fieldLink RX0 30 "SaintsRoad$Brotherhoods" "carrierOf" "[I" ∈ lw_good := sv_mem 328 (by decide +kernel) rfl
theorem nw_ml_X1_3 : Cond.methodLink RX1 3 Lib.objectInit ∈ lw_good := sv_mem 177 (by decide +kernel) rfl
theorem nw_kl_X1_9 : Cond.classLink RX1 9 RX3 ∈ lw_good := sv_mem 178 (by decide +kernel) rfl
theorem nw_fl_X1_11 : Cond.fieldLink RX1 11 "SaintsRoad$Calendar" "feasts" "[LSaintsRoad$Feast;" ∈ lw_good := sv_mem 242 (by decide +kernel) rfl
theorem nw_fl_X1_17 : Cond.fieldLink RX1 17 "SaintsRoad$Calendar" "waxByRank" "[I" ∈ lw_good := sv_mem 246 (by decide +kernel) rfl
theorem nw_ml_X1_21 : Cond.methodLinkNest RX1 21 yX3_init "SaintsRoad" ∈ sv_nest := sv_memN 181 (by decide +kernel) rfl
theorem nw_ns_X3 : Cond.instantiable RX3 12 ∈ lw_good := sv_mem 180 (by decide +kernel) rfl
theorem nw_in_X3 : Cond.initialized RX3 ∈ lw_good := sv_mem 77 (by decide +kernel) rfl
theorem nw_co_X3_init : Cond.code yX3_init cX3_init 1 none ∈ lw_good := sv_mem 183 (by decide +kernel) rfl
theorem nw_im_X3_init : Cond.instanceMethod yX3_init ∈ lw_good := sv_mem 182 (by decide +kernel) rfl
theorem nw_fl_X1_22 : Cond.fieldLink RX1 22 "SaintsRoad$Calendar" "lent" "I" ∈ lw_good := sv_mem 258 (by decide +kernel) rfl
theorem nw_ml_X1_26 : Cond.methodLink RX1 26 yJ7_fill_53178 ∈ lw_good := sv_mem 239 (by decide +kernel) rfl
theorem nw_co_J7_fill_53178 : Cond.code yJ7_fill_53178 cJ7_fill_53178 4 none ∈ lw_good := sv_mem 241 (by decide +kernel) rfl
theorem nw_in_J7 : Cond.initialized RJ7 ∈ lw_good := sv_mem 78 (by decide +kernel) rfl
theorem nw_st_J7_fill_53178 : Cond.static yJ7_fill_53178 ∈ lw_good := sv_mem 240 (by decide +kernel) rfl
theorem nw_ml_X4_3 : Cond.methodLink RX4 3 Lib.objectInit ∈ lw_good := sv_mem 171 (by decide +kernel) rfl
theorem nw_fl_X4_9 : Cond.fieldLink RX4 9 "SaintsRoad$Place" "heldDay" "[I" ∈ lw_good := sv_mem 274 (by decide +kernel) rfl
theorem nw_fl_X4_15 : Cond.fieldLink RX4 15 "SaintsRoad$Place" "heldOn" "[I" ∈ lw_good := sv_mem 276 (by decide +kernel) rfl
theorem nw_kl_X4_18 : Cond.classLink RX4 18 RX1 ∈ lw_good := sv_mem 172 (by decide +kernel) rfl
theorem nw_ml_X4_20 : Cond.methodLink RX4 20 yX1_init ∈ lw_good := sv_mem 174 (by decide +kernel) rfl
theorem nw_ns_X1 : Cond.instantiable RX1 6 ∈ lw_good := sv_mem 173 (by decide +kernel) rfl
theorem nw_in_X1 : Cond.initialized RX1 ∈ lw_good := sv_mem 76 (by decide +kernel) rfl
theorem nw_co_X1_init : Cond.code yX1_init cX1_init 2 none ∈ lw_good := sv_mem 176 (by decide +kernel) rfl
theorem nw_im_X1_init : Cond.instanceMethod yX1_init ∈ lw_good := sv_mem 175 (by decide +kernel) rfl
theorem nw_fl_X4_21 : Cond.fieldLink RX4 21 "SaintsRoad$Place" "calendar" "LSaintsRoad$Calendar;" ∈ lw_good := sv_mem 278 (by decide +kernel) rfl
theorem nw_fl_X4_25 : Cond.fieldLink RX4 25 "SaintsRoad$Place" "ownDay" "[I" ∈ lw_good := sv_mem 280 (by decide +kernel) rfl
theorem nw_fl_X4_28 : Cond.fieldLink RX4 28 "SaintsRoad$Place" "timesMoved" "[I" ∈ lw_good := sv_mem 281 (by decide +kernel) rfl
theorem nw_fl_X4_31 : Cond.fieldLink RX4 31 "SaintsRoad$Place" "byOwnDay" "[I" ∈ lw_good := sv_mem 282 (by decide +kernel) rfl
theorem nw_fl_X4_34 : Cond.fieldLink RX4 34 "SaintsRoad$Place" "waiting" "[I" ∈ lw_good := sv_mem 283 (by decide +kernel) rfl
theorem nw_ml_X8_3 : Cond.methodLink RX8 3 Lib.objectInit ∈ lw_good := sv_mem 362 (by decide +kernel) rfl
theorem nw_kl_X8_9 : Cond.classLink RX8 9 RX5 ∈ lw_good := sv_mem 363 (by decide +kernel) rfl
theorem nw_fl_X8_11 : Cond.fieldLink RX8 11 "SaintsRoad$Town" "processions" "[LSaintsRoad$Procession;" ∈ lw_good := sv_mem 389 (by decide +kernel) rfl
theorem nw_fl_X8_17 : Cond.fieldLink RX8 17 "SaintsRoad$Town" "minutes" "[I" ∈ lw_good := sv_mem 393 (by decide +kernel) rfl
theorem nw_fl_X8_21 : Cond.fieldLink RX8 21 "SaintsRoad$Town" "hindrances" "[I" ∈ lw_good := sv_mem 394 (by decide +kernel) rfl
theorem nw_ml_X8_24 : Cond.methodLinkNest RX8 24 yX5_init "SaintsRoad" ∈ sv_nest := sv_memN 366 (by decide +kernel) rfl
theorem nw_ns_X5 : Cond.instantiable RX5 5 ∈ lw_good := sv_mem 365 (by decide +kernel) rfl
theorem nw_in_X5 : Cond.initialized RX5 ∈ lw_good := sv_mem 81 (by decide +kernel) rfl
theorem nw_co_X5_init : Cond.code yX5_init cX5_init 1 none ∈ lw_good := sv_mem 368 (by decide +kernel) rfl
theorem nw_im_X5_init : Cond.instanceMethod yX5_init ∈ lw_good := sv_mem 367 (by decide +kernel) rfl
theorem nw_ml_X9_1 : Cond.methodLink RX9 1 Lib.objectInit ∈ lw_good := sv_mem 98 (by decide +kernel) rfl
theorem nw_kl_X9_7 : Cond.classLink RX9 7 RX7 ∈ lw_good := sv_mem 101 (by decide +kernel) rfl
theorem nw_ml_X9_9 : Cond.methodLinkNest RX9 9 yX7_init "SaintsRoad" ∈ sv_nest := sv_memN 103 (by decide +kernel) rfl
theorem nw_ns_X7 : Cond.instantiable RX7 2 ∈ lw_good := sv_mem 102 (by decide +kernel) rfl
theorem nw_in_X7 : Cond.initialized RX7 ∈ lw_good := sv_mem 73 (by decide +kernel) rfl
theorem nw_co_X7_init : Cond.code yX7_init cX7_init 1 none ∈ lw_good := sv_mem 105 (by decide +kernel) rfl
theorem nw_im_X7_init : Cond.instanceMethod yX7_init ∈ lw_good := sv_mem 104 (by decide +kernel) rfl
theorem nw_fl_X9_10 : Cond.fieldLink RX9 10 "SaintsRoad" "tape" "LSaintsRoad$Tape;" ∈ lw_good := sv_mem 406 (by decide +kernel) rfl
theorem nw_kl_X9_16 : Cond.classLink RX9 16 RX6 ∈ lw_good := sv_mem 117 (by decide +kernel) rfl
theorem nw_ml_X9_18 : Cond.methodLinkNest RX9 18 yX6_init "SaintsRoad" ∈ sv_nest := sv_memN 119 (by decide +kernel) rfl
theorem nw_ns_X6 : Cond.instantiable RX6 13 ∈ lw_good := sv_mem 118 (by decide +kernel) rfl
theorem nw_in_X6 : Cond.initialized RX6 ∈ lw_good := sv_mem 74 (by decide +kernel) rfl
theorem nw_co_X6_init : Cond.code yX6_init cX6_init 1 none ∈ lw_good := sv_mem 121 (by decide +kernel) rfl
theorem nw_im_X6_init : Cond.instanceMethod yX6_init ∈ lw_good := sv_mem 120 (by decide +kernel) rfl
theorem nw_fl_X9_19 : Cond.fieldLink RX9 19 "SaintsRoad" "reader" "LSaintsRoad$Reader;" ∈ lw_good := sv_mem 407 (by decide +kernel) rfl
theorem nw_kl_X9_23 : Cond.classLink RX9 23 RX4 ∈ lw_good := sv_mem 165 (by decide +kernel) rfl
theorem nw_fl_X9_25 : Cond.fieldLink RX9 25 "SaintsRoad" "places" "[LSaintsRoad$Place;" ∈ lw_good := sv_mem 408 (by decide +kernel) rfl
theorem nw_ml_X9_29 : Cond.methodLinkNest RX9 29 yX4_init "SaintsRoad" ∈ sv_nest := sv_memN 168 (by decide +kernel) rfl
theorem nw_ns_X4 : Cond.instantiable RX4 11 ∈ lw_good := sv_mem 167 (by decide +kernel) rfl
theorem nw_in_X4 : Cond.initialized RX4 ∈ lw_good := sv_mem 75 (by decide +kernel) rfl
theorem nw_co_X4_init : Cond.code yX4_init cX4_init 1 none ∈ lw_good := sv_mem 170 (by decide +kernel) rfl
theorem nw_im_X4_init : Cond.instanceMethod yX4_init ∈ lw_good := sv_mem 169 (by decide +kernel) rfl
theorem nw_kl_X9_30 : Cond.classLink RX9 30 RX0 ∈ lw_good := sv_mem 311 (by decide +kernel) rfl
theorem nw_ml_X9_32 : Cond.methodLinkNest RX9 32 yX0_init "SaintsRoad" ∈ sv_nest := sv_memN 313 (by decide +kernel) rfl
theorem nw_ns_X0 : Cond.instantiable RX0 12 ∈ lw_good := sv_mem 312 (by decide +kernel) rfl
theorem nw_in_X0 : Cond.initialized RX0 ∈ lw_good := sv_mem 79 (by decide +kernel) rfl
theorem nw_co_X0_init : Cond.code yX0_init cX0_init 1 none ∈ lw_good := sv_mem 315 (by decide +kernel) rfl
theorem nw_im_X0_init : Cond.instanceMethod yX0_init ∈ lw_good := sv_mem 314 (by decide +kernel) rfl
theorem nw_fl_X9_33 : Cond.fieldLink RX9 33 "SaintsRoad" "brotherhoods" "LSaintsRoad$Brotherhoods;" ∈ lw_good := sv_mem 409 (by decide +kernel) rfl
theorem nw_kl_X9_37 : Cond.classLink RX9 37 RX8 ∈ lw_good := sv_mem 357 (by decide +kernel) rfl
theorem nw_ml_X9_39 : Cond.methodLink RX9 39 yX8_init ∈ lw_good := sv_mem 359 (by decide +kernel) rfl
theorem nw_ns_X8 : Cond.instantiable RX8 4 ∈ lw_good := sv_mem 358 (by decide +kernel) rfl
theorem nw_in_X8 : Cond.initialized RX8 ∈ lw_good := sv_mem 80 (by decide +kernel) rfl
theorem nw_co_X8_init : Cond.code yX8_init cX8_init 2 none ∈ lw_good := sv_mem 361 (by decide +kernel) rfl
theorem nw_im_X8_init : Cond.instanceMethod yX8_init ∈ lw_good := sv_mem 360 (by decide +kernel) rfl
theorem nw_fl_X9_40 : Cond.fieldLink RX9 40 "SaintsRoad" "town" "LSaintsRoad$Town;" ∈ lw_good := sv_mem 410 (by decide +kernel) rfl
theorem nw_kl_X9_44 : Cond.classLink RX9 44 RX1 ∈ lw_good := sv_mem 404 (by decide +kernel) rfl
theorem nw_ml_X9_46 : Cond.methodLink RX9 46 yX1_init ∈ lw_good := sv_mem 405 (by decide +kernel) rfl
theorem nw_fl_X9_47 : Cond.fieldLink RX9 47 "SaintsRoad" "spare" "LSaintsRoad$Calendar;" ∈ lw_good := sv_mem 411 (by decide +kernel) rfl
theorem nw_ml_X11_41 : Cond.methodLink RX11 41 Lib.objectInit ∈ lw_good := sv_mem 1043 (by decide +kernel) rfl
theorem nw_fl_X11_47 : Cond.fieldLink RX11 47 "SaintsRoadModel" "feasts" "[I" ∈ lw_good := sv_mem 1104 (by decide +kernel) rfl
theorem nw_fl_X11_51 : Cond.fieldLink RX11 51 "SaintsRoadModel" "yieldRank" "[I" ∈ lw_good := sv_mem 1105 (by decide +kernel) rfl
theorem nw_fl_X11_54 : Cond.fieldLink RX11 54 "SaintsRoadModel" "yieldTimes" "[I" ∈ lw_good := sv_mem 1106 (by decide +kernel) rfl
theorem nw_fl_X11_57 : Cond.fieldLink RX11 57 "SaintsRoadModel" "lent" "[I" ∈ lw_good := sv_mem 1107 (by decide +kernel) rfl
theorem nw_fl_X11_60 : Cond.fieldLink RX11 60 "SaintsRoadModel" "wax" "[I" ∈ lw_good := sv_mem 1108 (by decide +kernel) rfl
theorem nw_fl_X11_63 : Cond.fieldLink RX11 63 "SaintsRoadModel" "kind" "[I" ∈ lw_good := sv_mem 1109 (by decide +kernel) rfl
theorem nw_fl_X11_66 : Cond.fieldLink RX11 66 "SaintsRoadModel" "one" "[I" ∈ lw_good := sv_mem 1110 (by decide +kernel) rfl
theorem nw_fl_X11_69 : Cond.fieldLink RX11 69 "SaintsRoadModel" "two" "[I" ∈ lw_good := sv_mem 1111 (by decide +kernel) rfl
theorem nw_fl_X11_72 : Cond.fieldLink RX11 72 "SaintsRoadModel" "rank" "[I" ∈ lw_good := sv_mem 1112 (by decide +kernel) rfl
theorem nw_fl_X11_75 : Cond.fieldLink RX11 75 "SaintsRoadModel" "from" "[I" ∈ lw_good := sv_mem 1113 (by decide +kernel) rfl
theorem nw_fl_X11_78 : Cond.fieldLink RX11 78 "SaintsRoadModel" "till" "[I" ∈ lw_good := sv_mem 1114 (by decide +kernel) rfl
theorem nw_fl_X11_81 : Cond.fieldLink RX11 81 "SaintsRoadModel" "nameSize" "[I" ∈ lw_good := sv_mem 1115 (by decide +kernel) rfl
theorem nw_fl_X11_84 : Cond.fieldLink RX11 84 "SaintsRoadModel" "vigil" "[Z" ∈ lw_good := sv_mem 1116 (by decide +kernel) rfl
theorem nw_fl_X11_88 : Cond.fieldLink RX11 88 "SaintsRoadModel" "octave" "[Z" ∈ lw_good := sv_mem 1117 (by decide +kernel) rfl
theorem nw_fl_X11_91 : Cond.fieldLink RX11 91 "SaintsRoadModel" "name" "[B" ∈ lw_good := sv_mem 1118 (by decide +kernel) rfl
theorem nw_kl_X11_95 : Cond.classLink RX11 95 RX10 ∈ lw_good := sv_mem 1044 (by decide +kernel) rfl
theorem nw_ml_X11_97 : Cond.methodLink RX11 97 yX10_init ∈ lw_good := sv_mem 1081 (by decide +kernel) rfl
theorem nw_ns_X10 : Cond.instantiable RX10 6 ∈ lw_good := sv_mem 1045 (by decide +kernel) rfl
theorem nw_in_X10 : Cond.initialized RX10 ∈ lw_good := sv_mem 85 (by decide +kernel) rfl
theorem nw_co_X10_init : Cond.code yX10_init cX10_init 1 none ∈ lw_good := sv_mem 1083 (by decide +kernel) rfl
theorem nw_im_X10_init : Cond.instanceMethod yX10_init ∈ lw_good := sv_mem 1082 (by decide +kernel) rfl
theorem nw_fl_X11_98 : Cond.fieldLink RX11 98 "SaintsRoadModel" "stop" "LSaintsRoadModel$Stop;" ∈ lw_good := sv_mem 1119 (by decide +kernel) rfl
theorem nw_fl_X11_102 : Cond.fieldLink RX11 102 "SaintsRoadModel" "tape" "[B" ∈ lw_good := sv_mem 1120 (by decide +kernel) rfl
theorem nw_fl_X11_105 : Cond.fieldLink RX11 105 "SaintsRoadModel" "faultAt" "I" ∈ lw_good := sv_mem 1128 (by decide +kernel) rfl
theorem nw_fl_X11_109 : Cond.fieldLink RX11 109 "SaintsRoadModel" "hasWax" "[Z" ∈ lw_good := sv_mem 1131 (by decide +kernel) rfl
theorem nw_fl_X11_112 : Cond.fieldLink RX11 112 "SaintsRoadModel" "waits" "[I" ∈ lw_good := sv_mem 1132 (by decide +kernel) rfl
theorem nw_fl_X11_115 : Cond.fieldLink RX11 115 "SaintsRoadModel" "moves" "[I" ∈ lw_good := sv_mem 1133 (by decide +kernel) rfl
theorem nw_fl_X11_118 : Cond.fieldLink RX11 118 "SaintsRoadModel" "heldOn" "[I" ∈ lw_good := sv_mem 1134 (by decide +kernel) rfl
theorem nw_fl_X11_121 : Cond.fieldLink RX11 121 "SaintsRoadModel" "office" "[I" ∈ lw_good := sv_mem 1135 (by decide +kernel) rfl
theorem nw_fl_X11_124 : Cond.fieldLink RX11 124 "SaintsRoadModel" "otherOffice" "[I" ∈ lw_good := sv_mem 1136 (by decide +kernel) rfl
theorem nw_fl_X11_127 : Cond.fieldLink RX11 127 "SaintsRoadModel" "quarrels" "[Z" ∈ lw_good := sv_mem 1137 (by decide +kernel) rfl
theorem nw_fl_X11_130 : Cond.fieldLink RX11 130 "SaintsRoadModel" "turnYear" "[I" ∈ lw_good := sv_mem 1138 (by decide +kernel) rfl
theorem nw_fl_X11_133 : Cond.fieldLink RX11 133 "SaintsRoadModel" "turnDay" "[I" ∈ lw_good := sv_mem 1139 (by decide +kernel) rfl
theorem nw_fl_X11_136 : Cond.fieldLink RX11 136 "SaintsRoadModel" "turnFeast" "[I" ∈ lw_good := sv_mem 1140 (by decide +kernel) rfl
theorem nw_fl_X11_139 : Cond.fieldLink RX11 139 "SaintsRoadModel" "turnBy" "[I" ∈ lw_good := sv_mem 1141 (by decide +kernel) rfl
theorem nw_fl_X11_142 : Cond.fieldLink RX11 142 "SaintsRoadModel" "carriedBy" "[I" ∈ lw_good := sv_mem 1142 (by decide +kernel) rfl
theorem nw_fl_X11_145 : Cond.fieldLink RX11 145 "SaintsRoadModel" "lastTurn" "[I" ∈ lw_good := sv_mem 1143 (by decide +kernel) rfl
theorem nw_fl_X11_148 : Cond.fieldLink RX11 148 "SaintsRoadModel" "streets" "[I" ∈ lw_good := sv_mem 1145 (by decide +kernel) rfl
theorem nw_fl_X11_151 : Cond.fieldLink RX11 151 "SaintsRoadModel" "stops" "[I" ∈ lw_good := sv_mem 1146 (by decide +kernel) rfl
theorem nw_fl_X11_154 : Cond.fieldLink RX11 154 "SaintsRoadModel" "start" "[I" ∈ lw_good := sv_mem 1147 (by decide +kernel) rfl
theorem nw_fl_X11_157 : Cond.fieldLink RX11 157 "SaintsRoadModel" "tail" "[I" ∈ lw_good := sv_mem 1148 (by decide +kernel) rfl
theorem nw_fl_X11_160 : Cond.fieldLink RX11 160 "SaintsRoadModel" "corner" "[I" ∈ lw_good := sv_mem 1149 (by decide +kernel) rfl
theorem nw_fl_X11_163 : Cond.fieldLink RX11 163 "SaintsRoadModel" "after" "[I" ∈ lw_good := sv_mem 1150 (by decide +kernel) rfl
theorem nw_coE : Cond.code nw_yE prog_14_method_5_code 5 none ∈ lw_good := sv_mem 1086 (by decide +kernel) rfl
theorem nw_coT : Cond.code nw_yT prog_20_method_5_code 5 none ∈ lw_good := sv_mem 1089 (by decide +kernel) rfl
theorem nw_imE : Cond.instanceMethod nw_yE ∈ lw_good := sv_mem 1085 (by decide +kernel) rfl
theorem nw_imT : Cond.instanceMethod nw_yT ∈ lw_good := sv_mem 1088 (by decide +kernel) rfl
theorem nw_inE : Cond.initialized nw_RE ∈ lw_good := sv_mem 84 (by decide +kernel) rfl
theorem nw_inT : Cond.initialized nw_RT ∈ lw_good := sv_mem 83 (by decide +kernel) rfl
theorem nw_mlS : Cond.methodLink RX10 1 nw_yE ∈ lw_good := sv_mem 1084 (by decide +kernel) rfl
theorem nw_mlE : Cond.methodLink nw_RE 16 nw_yT ∈ lw_good := sv_mem 1087 (by decide +kernel) rfl
theorem nw_mlT : Cond.methodLink nw_RT 1 Lib.objectInit ∈ lw_good := sv_mem 1067 (by decide +kernel) rfl
theorem nw_flT7 : Cond.fieldLink nw_RT 7 (TX10 0).1 (TX10 0).2.1 (TX10 0).2.2.1 ∈ lw_good := sv_mem 1092 (by decide +kernel) rfl
theorem nw_flT17 : Cond.fieldLink nw_RT 17 (TX10 1).1 (TX10 1).2.1 (TX10 1).2.2.1 ∈ lw_good := sv_mem 1093 (by decide +kernel) rfl
theorem nw_flT24 : Cond.fieldLink nw_RT 24 (TX10 2).1 (TX10 2).2.1 (TX10 2).2.2.1 ∈ lw_good := sv_mem 1094 (by decide +kernel) rfl
theorem nw_flT31 : Cond.fieldLink nw_RT 31 (TX10 3).1 (TX10 3).2.1 (TX10 3).2.2.1 ∈ lw_good := sv_mem 1091 (by decide +kernel) rfl
theorem nw_flT13 : Cond.fieldLink nw_RT 13 "java/lang/Throwable" "UNASSIGNED_STACK" "[Ljava/lang/StackTraceElement;" ∈ lw_good := sv_mem 1068 (by decide +kernel) rfl
theorem nw_flT20 : Cond.fieldLink nw_RT 20 "java/lang/Throwable" "SUPPRESSED_SENTINEL" "Ljava/util/List;" ∈ lw_good := sv_mem 1070 (by decide +kernel) rfl
set_option maxHeartbeats 4000000 in
set_option maxRecDepth 100000 in
theorem ct_T_init (l : Launch) (g : sv_G) (A : Nat → Prop) (a : Nat) (ty : Nat → Nat) (σ : Nat → Nat → Int) (hT : sv_TT A ty) (hok : sv_ok ty σ) (ha : ty a = 11) : sv_NN l nw_yT prog_20_method_5_code 5 1 12 0 0 g A ty σ [sv_r a, sv_a 0, sv_a 0, sv_i 0, sv_i 0] (sv_po A a 11 ty σ) := by
  refine sv_enterN (by decide) (Nat.le_of_ble_eq_true rfl) ?_
  intro p e s m args below meth c C J hr hin
  have C : sv_C g A nw_RT prog_20_method_5_code 5 p s m args meth c := C
  have g0 : sv_gx A (fun x => x = a) ty σ ty σ := ⟨fun _ _ => rfl, fun _ _ _ => rfl, fun x hx _ k => by rw [hx]; exact ⟨trivial, trivial⟩, hT, hok⟩
  refine sv_same (st2 := []) (lv2 := [(0, sv_r a), (1, sv_a 0), (2, sv_a 0), (3, sv_i 0), (4, sv_i 0)]) rfl rfl ?_
  refine sv_go C.1 C.2.1 [(.aload_n 0, 1)] (pc' := 1) (by decide +kernel) rfl (lv' := [(0, sv_r a), (1, sv_a 0), (2, sv_a 0), (3, sv_i 0), (4, sv_i 0)]) (st' := [sv_r a]) rfl ?_
  refine sv_oin C (by decide +kernel) nw_mlT nw_oi nw_oc (by decide) (by decide) ?_
  refine sv_go C.1 C.2.1 [(.aload_n 0, 1), (.aload_n 0, 1)] (pc' := 6) (by decide +kernel) rfl (lv' := [(0, sv_r a), (1, sv_a 0), (2, sv_a 0), (3, sv_i 0), (4, sv_i 0)]) (st' := [sv_r a, sv_r a]) rfl ?_
  refine sv_pfT C g0 ha (k := 0) (by decide +kernel) (by decide) nw_flT7 (by omega) fun σg1 g1 => ?_
  refine sv_go C.1 C.2.1 [(.aload_n 0, 1)] (pc' := 10) (by decide +kernel) rfl (lv' := [(0, sv_r a), (1, sv_a 0), (2, sv_a 0), (3, sv_i 0), (4, sv_i 0)]) (st' := [sv_r a]) rfl ?_
  refine sv_gsq C J.2.2.1 (by decide +kernel) nw_flT13 fun z1 hz1 => ?_
  refine sv_pfT C g1 ha (k := 1) (by decide +kernel) (by decide) nw_flT17 (by omega) fun σg2 g2 => ?_
  refine sv_go C.1 C.2.1 [(.aload_n 0, 1)] (pc' := 17) (by decide +kernel) rfl (lv' := [(0, sv_r a), (1, sv_a 0), (2, sv_a 0), (3, sv_i 0), (4, sv_i 0)]) (st' := [sv_r a]) rfl ?_
  refine sv_gsq C J.2.2.2 (by decide +kernel) nw_flT20 fun z2 hz2 => ?_
  refine sv_pfT C g2 ha (k := 2) (by decide +kernel) (by decide) nw_flT24 (by omega) fun σg3 g3 => ?_
  refine sv_go C.1 C.2.1 [(.iload 4, 2)] (pc' := 25) (by decide +kernel) rfl (lv' := [(0, sv_r a), (1, sv_a 0), (2, sv_a 0), (3, sv_i 0), (4, sv_i 0)]) (st' := [sv_i 0]) rfl ?_
  refine sv_if C.1 C.2.1 (cnd := .eq) (off := 11) (by decide +kernel) (tgt := 36) rfl ⟨by decide, by decide⟩ (fun _ => ?_) (fun h => absurd rfl h)
  refine sv_go C.1 C.2.1 [(.aload_n 0, 1), (.aconst_null, 1)] (pc' := 38) (by decide +kernel) rfl (lv' := [(0, sv_r a), (1, sv_a 0), (2, sv_a 0), (3, sv_i 0), (4, sv_i 0)]) (st' := [sv_a 0, sv_r a]) rfl ?_
  refine sv_pfT C g3 ha (k := 1) (by decide +kernel) (by decide) nw_flT17 (by omega) fun σg4 g4 => ?_
  refine sv_go C.1 C.2.1 [(.aload_n 0, 1), (.aload_n 1, 1)] (pc' := 43) (by decide +kernel) rfl (lv' := [(0, sv_r a), (1, sv_a 0), (2, sv_a 0), (3, sv_i 0), (4, sv_i 0)]) (st' := [sv_a 0, sv_r a]) rfl ?_
  refine sv_pfT C g4 ha (k := 3) (by decide +kernel) (by decide) nw_flT31 (by omega) fun σg5 g5 => ?_
  refine sv_go C.1 C.2.1 [(.aload_n 0, 1), (.aload_n 2, 1)] (pc' := 48) (by decide +kernel) rfl (lv' := [(0, sv_r a), (1, sv_a 0), (2, sv_a 0), (3, sv_i 0), (4, sv_i 0)]) (st' := [sv_a 0, sv_r a]) rfl ?_
  refine sv_pfT C g5 ha (k := 0) (by decide +kernel) (by decide) nw_flT7 (by omega) fun σg6 g6 => ?_
  refine sv_go C.1 C.2.1 [(.iload_n 3, 1)] (pc' := 52) (by decide +kernel) rfl (lv' := [(0, sv_r a), (1, sv_a 0), (2, sv_a 0), (3, sv_i 0), (4, sv_i 0)]) (st' := [sv_i 0]) rfl ?_
  refine sv_if C.1 C.2.1 (cnd := .ne) (off := 8) (by decide +kernel) (tgt := 60) rfl ⟨by decide, by decide⟩ (fun h => absurd rfl h) (fun _ => ?_)
  refine sv_go C.1 C.2.1 [(.aload_n 0, 1), (.aconst_null, 1)] (pc' := 57) (by decide +kernel) rfl (lv' := [(0, sv_r a), (1, sv_a 0), (2, sv_a 0), (3, sv_i 0), (4, sv_i 0)]) (st' := [sv_a 0, sv_r a]) rfl ?_
  refine sv_pfT C g6 ha (k := 2) (by decide +kernel) (by decide) nw_flT24 (by omega) fun σg7 g7 => ?_
  exact sv_nret C hr (by decide +kernel) rfl rfl ⟨g7, ha, fun k => ⟨by rw [sp_1_11]; exact trivial, by rw [sp_0_11]; exact trivial⟩⟩
set_option maxHeartbeats 4000000 in
set_option maxRecDepth 100000 in
theorem ct_E_init (l : Launch) (g : sv_G) (A : Nat → Prop) (a : Nat) (ty : Nat → Nat) (σ : Nat → Nat → Int) (hT : sv_TT A ty) (hok : sv_ok ty σ) (ha : ty a = 11) : sv_NN l nw_yE prog_14_method_5_code 5 2 36 0 0 g A ty σ [sv_r a, sv_a 0, sv_a 0, sv_i 0, sv_i 0] (sv_po A a 11 ty σ) := by
  refine sv_enterN (by decide) (Nat.le_of_ble_eq_true rfl) ?_
  intro p e s m args below meth c C J hr hin
  have C : sv_C g A nw_RE prog_14_method_5_code 5 p s m args meth c := C
  refine sv_same (st2 := []) (lv2 := [(0, sv_r a), (1, sv_a 0), (2, sv_a 0), (3, sv_i 0), (4, sv_i 0)]) rfl rfl ?_
  refine sv_go C.1 C.2.1 [(.aload_n 0, 1), (.aload_n 1, 1), (.aload_n 2, 1), (.iload_n 3, 1), (.iload 4, 2)] (pc' := 6) (by decide +kernel) rfl (lv' := [(0, sv_r a), (1, sv_a 0), (2, sv_a 0), (3, sv_i 0), (4, sv_i 0)]) (st' := [sv_i 0, sv_i 0, sv_a 0, sv_a 0, sv_r a]) rfl ?_
  refine sv_ci C J (a := a) (as := [sv_a 0, sv_a 0, sv_i 0, sv_i 0]) (k := 4) (rest := []) (by decide +kernel) (ct_T_init l g A a ty σ hT hok ha) ⟨nw_coT, nw_inT, by decide +kernel, by decide, by decide⟩ nw_mlE nw_imT rfl rfl rfl (Nat.le_of_ble_eq_true rfl) ⟨by decide, by decide⟩ fun ty1 σ1 hp => ?_
  exact sv_nret C hr (by decide +kernel) rfl rfl hp
set_option maxHeartbeats 4000000 in
set_option maxRecDepth 100000 in
theorem ct_X10_init (l : Launch) (g : sv_G) (A : Nat → Prop) (a : Nat) (ty : Nat → Nat) (σ : Nat → Nat → Int) (hT : sv_TT A ty) (hok : sv_ok ty σ) (ha : ty a = 11) (hz : ∀ k, σ a k = 0) : sv_NN l yX10_init cX10_init 1 3 60 0 0 g A ty σ [sv_r a] (sv_po A a 11 ty σ) := by
  refine sv_enterN (by decide) (Nat.le_of_ble_eq_true rfl) ?_
  intro p e s m args below meth c C J hr hin
  have C : sv_C g A RX10 cX10_init 1 p s m args meth c := C
  refine sv_same (st2 := []) (lv2 := [(0, sv_r a)]) rfl rfl ?_
  refine sv_go C.1 C.2.1 [(.aload_n 0, 1), (.aconst_null, 1), (.aconst_null, 1), (.iconst 0, 1), (.iconst 0, 1)] (pc' := 5) (by decide +kernel) rfl (lv' := [(0, sv_r a)]) (st' := [sv_i 0, sv_i 0, sv_a 0, sv_a 0, sv_r a]) rfl ?_
  refine sv_ci C J (a := a) (as := [sv_a 0, sv_a 0, sv_i 0, sv_i 0]) (k := 4) (rest := []) (by decide +kernel) (ct_E_init l g A a ty σ hT hok ha) ⟨nw_coE, nw_inE, by decide +kernel, by decide, by decide⟩ nw_mlS nw_imE rfl rfl rfl (Nat.le_of_ble_eq_true rfl) ⟨by decide, by decide⟩ fun ty1 σ1 hp => ?_
  exact sv_nret C hr (by decide +kernel) rfl rfl hp
set_option maxHeartbeats 4000000 in
set_option maxRecDepth 100000 in
theorem ct_X3_init (l : Launch) (g : sv_G) (A : Nat → Prop) (a : Nat) (ty : Nat → Nat) (σ : Nat → Nat → Int) (hT : sv_TT A ty) (hok : sv_ok ty σ) (ha : ty a = 8) (hz : ∀ k, σ a k = 0) : sv_NN l yX3_init cX3_init 1 1 12 0 0 g A ty σ [sv_r a] (sv_po A a 8 ty σ) := by
  refine sv_enterN (by decide) (Nat.le_of_ble_eq_true rfl) ?_
  intro p e s m args below meth c C J hr hin
  have C : sv_C g A RX3 cX3_init 1 p s m args meth c := C
  have hin : meth.name = "<init>" := hin
  have G0 := sv_S.start hT hok ha (by decide) hz
  refine sv_same (st2 := []) (lv2 := [(0, sv_r a)]) rfl rfl ?_
  refine sv_go C.1 C.2.1 [(.aload_n 0, 1)] (pc' := 1) (by decide +kernel) rfl (lv' := [(0, sv_r a)]) (st' := [sv_r a]) rfl ?_
  refine sv_oin C (by decide +kernel) nw_ml_X3_3 nw_oi nw_oc (by decide) (by decide) ?_
  exact sv_nret C hr (by decide +kernel) rfl rfl (G0.done (sv_zend (by decide) (fun _ => rfl)))

set_option maxHeartbeats 4000000 in
set_option maxRecDepth 100000 in
theorem ct_X6_init (l : Launch) (g : sv_G) (A : Nat → Prop) (a : Nat) (ty : Nat → Nat) (σ : Nat → Nat → Int) (hT : sv_TT A ty) (hok : sv_ok ty σ) (ha : ty a = 3) (hz : ∀ k, σ a k = 0) : sv_NN l yX6_init cX6_init 1 1 12 0 0 g A ty σ [sv_r a] (sv_po A a 3 ty σ) := by
  refine sv_enterN (by decide) (Nat.le_of_ble_eq_true rfl) ?_
  intro p e s m args below meth c C J hr hin
  have C : sv_C g A RX6 cX6_init 1 p s m args meth c := C
  have hin : meth.name = "<init>" := hin
  have G0 := sv_S.start hT hok ha (by decide) hz
  refine sv_same (st2 := []) (lv2 := [(0, sv_r a)]) rfl rfl ?_
  refine sv_go C.1 C.2.1 [(.aload_n 0, 1)] (pc' := 1) (by decide +kernel) rfl (lv' := [(0, sv_r a)]) (st' := [sv_r a]) rfl ?_
  refine sv_oin C (by decide +kernel) nw_ml_X6_3 nw_oi nw_oc (by decide) (by decide) ?_
  refine sv_go C.1 C.2.1 [(.aload_n 0, 1), (.iconst (-1), 1)] (pc' := 6) (by decide +kernel) rfl (lv' := [(0, sv_r a)]) (st' := [sv_i ((-1)), sv_r a]) rfl ?_
  refine sv_pfG C hin G0 (z := ((-1))) (k := 1) (by decide +kernel) rfl (r := (RX6, TX6, 13)) rfl (by decide) rfl nw_fl_X6_9 rfl ⟨by decide, by decide⟩ (by decide) (by decide) ⟨by first | exact trivial | exact ⟨by decide, by decide⟩, by first | exact trivial | exact ⟨by decide, by decide⟩⟩ fun G1 => ?_
  generalize eσ2 : (sv_up σ a 1 ((-1))) = σ2 at G1 ⊢
  clear eσ2
  exact sv_nret C hr (by decide +kernel) rfl rfl (G1.done (sv_zend (by decide) (fun _ => rfl)))

set_option maxHeartbeats 4000000 in
set_option maxRecDepth 100000 in
theorem ct_X7_init (l : Launch) (g : sv_G) (A : Nat → Prop) (a : Nat) (ty : Nat → Nat) (σ : Nat → Nat → Int) (hT : sv_TT A ty) (hok : sv_ok ty σ) (ha : ty a = 2) (hz : ∀ k, σ a k = 0) : sv_NN l yX7_init cX7_init 1 1 12 1 4000 g A ty σ [sv_r a] (sv_po A a 2 ty σ) := by
  refine sv_enterN (by decide) (Nat.le_of_ble_eq_true rfl) ?_
  intro p e s m args below meth c C J hr hin
  have C : sv_C g A RX7 cX7_init 1 p s m args meth c := C
  have hin : meth.name = "<init>" := hin
  have G0 := sv_S.start hT hok ha (by decide) hz
  refine sv_same (st2 := []) (lv2 := [(0, sv_r a)]) rfl rfl ?_
  refine sv_go C.1 C.2.1 [(.aload_n 0, 1)] (pc' := 1) (by decide +kernel) rfl (lv' := [(0, sv_r a)]) (st' := [sv_r a]) rfl ?_
  refine sv_oin C (by decide +kernel) nw_ml_X7_3 nw_oi nw_oc (by decide) (by decide) ?_
  refine sv_go C.1 C.2.1 [(.aload_n 0, 1), (.sipush 4000, 3)] (pc' := 8) (by decide +kernel) rfl (lv' := [(0, sv_r a)]) (st' := [sv_i 4000, sv_r a]) rfl ?_
  refine sv_newaG C J G0 (Kq := 20) (N := 4000) (t := .byte) (atype := .byte) (by decide +kernel) rfl (by simp) rfl rfl (by decide) nw_a_byte (by decide) (fun _ => rfl) (Nat.le_of_ble_eq_true rfl) (Nat.le_of_ble_eq_true rfl) fun q1 ty2 σ3 G4 h05 hq6 hk7 => ?_
  refine sv_pfG C hin G4 (z := ((q1 : Int) + 1)) (k := 0) (by decide +kernel) rfl (r := (RX7, TX7, 2)) rfl (by decide) rfl nw_fl_X7_9 rfl (by show (0 : Int) ≤ _; omega) (by decide) (by decide) ⟨Or.inr ⟨q1, rfl, hq6⟩, trivial⟩ fun G8 => ?_
  generalize eσ9 : (sv_up σ3 a 0 ((q1 : Int) + 1)) = σ9 at G8 ⊢
  clear eσ9
  exact sv_nret C hr (by decide +kernel) rfl rfl (G8.done (sv_zend (by decide) (fun _ => rfl)))

set_option maxHeartbeats 4000000 in
set_option maxRecDepth 100000 in
theorem ct_X5_init (l : Launch) (g : sv_G) (A : Nat → Prop) (a : Nat) (ty : Nat → Nat) (σ : Nat → Nat → Int) (hT : sv_TT A ty) (hok : sv_ok ty σ) (ha : ty a = 9) (hz : ∀ k, σ a k = 0) : sv_NN l yX5_init cX5_init 1 1 12 2 24 g A ty σ [sv_r a] (sv_po A a 9 ty σ) := by
  refine sv_enterN (by decide) (Nat.le_of_ble_eq_true rfl) ?_
  intro p e s m args below meth c C J hr hin
  have C : sv_C g A RX5 cX5_init 1 p s m args meth c := C
  have hin : meth.name = "<init>" := hin
  have G0 := sv_S.start hT hok ha (by decide) hz
  refine sv_same (st2 := []) (lv2 := [(0, sv_r a)]) rfl rfl ?_
  refine sv_go C.1 C.2.1 [(.aload_n 0, 1)] (pc' := 1) (by decide +kernel) rfl (lv' := [(0, sv_r a)]) (st' := [sv_r a]) rfl ?_
  refine sv_oin C (by decide +kernel) nw_ml_X5_3 nw_oi nw_oc (by decide) (by decide) ?_
  refine sv_go C.1 C.2.1 [(.aload_n 0, 1), (.bipush 12, 2)] (pc' := 7) (by decide +kernel) rfl (lv' := [(0, sv_r a)]) (st' := [sv_i 12, sv_r a]) rfl ?_
  refine sv_newaG C J G0 (Kq := 40) (N := 12) (t := .int) (atype := .int) (by decide +kernel) rfl (by simp) rfl rfl (by decide) nw_a_int (by decide) (fun _ => rfl) (Nat.le_of_ble_eq_true rfl) (Nat.le_of_ble_eq_true rfl) fun q1 ty2 σ3 G4 h05 hq6 hk7 => ?_
  refine sv_pfG C hin G4 (z := ((q1 : Int) + 1)) (k := 2) (by decide +kernel) rfl (r := (RX5, TX5, 5)) rfl (by decide) rfl nw_fl_X5_9 rfl (by show (0 : Int) ≤ _; omega) (by decide) (by decide) ⟨Or.inr ⟨q1, rfl, hq6⟩, trivial⟩ fun G8 => ?_
  generalize eσ9 : (sv_up σ3 a 2 ((q1 : Int) + 1)) = σ9 at G8 ⊢
  clear eσ9
  refine sv_go C.1 C.2.1 [(.aload_n 0, 1), (.bipush 12, 2)] (pc' := 15) (by decide +kernel) rfl (lv' := [(0, sv_r a)]) (st' := [sv_i 12, sv_r a]) rfl ?_
  refine sv_newaG C J G8 (Kq := 41) (N := 12) (t := .int) (atype := .int) (by decide +kernel) rfl (by simp) rfl rfl (by decide) nw_a_int (by decide) (fun _ => rfl) (Nat.le_of_ble_eq_true rfl) (Nat.le_of_ble_eq_true rfl) fun q10 ty11 σ12 G13 h014 hq15 hk16 => ?_
  refine sv_pfG C hin G13 (z := ((q10 : Int) + 1)) (k := 3) (by decide +kernel) rfl (r := (RX5, TX5, 5)) rfl (by decide) rfl nw_fl_X5_15 rfl (by show (0 : Int) ≤ _; omega) (by decide) (by decide) ⟨Or.inr ⟨q10, rfl, hq15⟩, trivial⟩ fun G17 => ?_
  generalize eσ18 : (sv_up σ12 a 3 ((q10 : Int) + 1)) = σ18 at G17 ⊢
  clear eσ18
  exact sv_nret C hr (by decide +kernel) rfl rfl (G17.done (sv_zend (by decide) (fun _ => rfl)))

set_option maxHeartbeats 4000000 in
set_option maxRecDepth 100000 in
theorem ct_X0_init (l : Launch) (g : sv_G) (A : Nat → Prop) (a : Nat) (ty : Nat → Nat) (σ : Nat → Nat → Int) (hT : sv_TT A ty) (hok : sv_ok ty σ) (ha : ty a = 5) (hz : ∀ k, σ a k = 0) : sv_NN l yX0_init cX0_init 1 1 12 7 2430 g A ty σ [sv_r a] (sv_po A a 5 ty σ) := by
  refine sv_enterN (by decide) (Nat.le_of_ble_eq_true rfl) ?_
  intro p e s m args below meth c C J hr hin
  have C : sv_C g A RX0 cX0_init 1 p s m args meth c := C
  have hin : meth.name = "<init>" := hin
  have G0 := sv_S.start hT hok ha (by decide) hz
  refine sv_same (st2 := []) (lv2 := [(0, sv_r a)]) rfl rfl ?_
  refine sv_go C.1 C.2.1 [(.aload_n 0, 1)] (pc' := 1) (by decide +kernel) rfl (lv' := [(0, sv_r a)]) (st' := [sv_r a]) rfl ?_
  refine sv_oin C (by decide +kernel) nw_ml_X0_3 nw_oi nw_oc (by decide) (by decide) ?_
  refine sv_go C.1 C.2.1 [(.aload_n 0, 1), (.bipush 10, 2)] (pc' := 7) (by decide +kernel) rfl (lv' := [(0, sv_r a)]) (st' := [sv_i 10, sv_r a]) rfl ?_
  refine sv_newaG C J G0 (Kq := 30) (N := 10) (t := .int) (atype := .int) (by decide +kernel) rfl (by simp) rfl rfl (by decide) nw_a_int (by decide) (fun _ => rfl) (Nat.le_of_ble_eq_true rfl) (Nat.le_of_ble_eq_true rfl) fun q1 ty2 σ3 G4 h05 hq6 hk7 => ?_
  refine sv_pfG C hin G4 (z := ((q1 : Int) + 1)) (k := 0) (by decide +kernel) rfl (r := (RX0, TX0, 12)) rfl (by decide) rfl nw_fl_X0_9 rfl (by show (0 : Int) ≤ _; omega) (by decide) (by decide) ⟨Or.inr ⟨q1, rfl, hq6⟩, trivial⟩ fun G8 => ?_
  generalize eσ9 : (sv_up σ3 a 0 ((q1 : Int) + 1)) = σ9 at G8 ⊢
  clear eσ9
  refine sv_go C.1 C.2.1 [(.aload_n 0, 1), (.bipush 10, 2)] (pc' := 15) (by decide +kernel) rfl (lv' := [(0, sv_r a)]) (st' := [sv_i 10, sv_r a]) rfl ?_
  refine sv_newaG C J G8 (Kq := 31) (N := 10) (t := .int) (atype := .int) (by decide +kernel) rfl (by simp) rfl rfl (by decide) nw_a_int (by decide) (fun _ => rfl) (Nat.le_of_ble_eq_true rfl) (Nat.le_of_ble_eq_true rfl) fun q10 ty11 σ12 G13 h014 hq15 hk16 => ?_
  refine sv_pfG C hin G13 (z := ((q10 : Int) + 1)) (k := 3) (by decide +kernel) rfl (r := (RX0, TX0, 12)) rfl (by decide) rfl nw_fl_X0_15 rfl (by show (0 : Int) ≤ _; omega) (by decide) (by decide) ⟨Or.inr ⟨q10, rfl, hq15⟩, trivial⟩ fun G17 => ?_
  generalize eσ18 : (sv_up σ12 a 3 ((q10 : Int) + 1)) = σ18 at G17 ⊢
  clear eσ18
  refine sv_go C.1 C.2.1 [(.aload_n 0, 1), (.bipush 10, 2)] (pc' := 23) (by decide +kernel) rfl (lv' := [(0, sv_r a)]) (st' := [sv_i 10, sv_r a]) rfl ?_
  refine sv_newaG C J G17 (Kq := 32) (N := 10) (t := .int) (atype := .int) (by decide +kernel) rfl (by simp) rfl rfl (by decide) nw_a_int (by decide) (fun _ => rfl) (Nat.le_of_ble_eq_true rfl) (Nat.le_of_ble_eq_true rfl) fun q19 ty20 σ21 G22 h023 hq24 hk25 => ?_
  refine sv_pfG C hin G22 (z := ((q19 : Int) + 1)) (k := 4) (by decide +kernel) rfl (r := (RX0, TX0, 12)) rfl (by decide) rfl nw_fl_X0_18 rfl (by show (0 : Int) ≤ _; omega) (by decide) (by decide) ⟨Or.inr ⟨q19, rfl, hq24⟩, trivial⟩ fun G26 => ?_
  generalize eσ27 : (sv_up σ21 a 4 ((q19 : Int) + 1)) = σ27 at G26 ⊢
  clear eσ27
  refine sv_go C.1 C.2.1 [(.aload_n 0, 1), (.sipush 600, 3)] (pc' := 32) (by decide +kernel) rfl (lv' := [(0, sv_r a)]) (st' := [sv_i 600, sv_r a]) rfl ?_
  refine sv_newaG C J G26 (Kq := 33) (N := 600) (t := .int) (atype := .int) (by decide +kernel) rfl (by simp) rfl rfl (by decide) nw_a_int (by decide) (fun _ => rfl) (Nat.le_of_ble_eq_true rfl) (Nat.le_of_ble_eq_true rfl) fun q28 ty29 σ30 G31 h032 hq33 hk34 => ?_
  refine sv_pfG C hin G31 (z := ((q28 : Int) + 1)) (k := 5) (by decide +kernel) rfl (r := (RX0, TX0, 12)) rfl (by decide) rfl nw_fl_X0_21 rfl (by show (0 : Int) ≤ _; omega) (by decide) (by decide) ⟨Or.inr ⟨q28, rfl, hq33⟩, trivial⟩ fun G35 => ?_
  generalize eσ36 : (sv_up σ30 a 5 ((q28 : Int) + 1)) = σ36 at G35 ⊢
  clear eσ36
  refine sv_go C.1 C.2.1 [(.aload_n 0, 1), (.sipush 600, 3)] (pc' := 41) (by decide +kernel) rfl (lv' := [(0, sv_r a)]) (st' := [sv_i 600, sv_r a]) rfl ?_
  refine sv_newaG C J G35 (Kq := 34) (N := 600) (t := .int) (atype := .int) (by decide +kernel) rfl (by simp) rfl rfl (by decide) nw_a_int (by decide) (fun _ => rfl) (Nat.le_of_ble_eq_true rfl) (Nat.le_of_ble_eq_true rfl) fun q37 ty38 σ39 G40 h041 hq42 hk43 => ?_
  refine sv_pfG C hin G40 (z := ((q37 : Int) + 1)) (k := 6) (by decide +kernel) rfl (r := (RX0, TX0, 12)) rfl (by decide) rfl nw_fl_X0_24 rfl (by show (0 : Int) ≤ _; omega) (by decide) (by decide) ⟨Or.inr ⟨q37, rfl, hq42⟩, trivial⟩ fun G44 => ?_
  generalize eσ45 : (sv_up σ39 a 6 ((q37 : Int) + 1)) = σ45 at G44 ⊢
  clear eσ45
  refine sv_go C.1 C.2.1 [(.aload_n 0, 1), (.sipush 600, 3)] (pc' := 50) (by decide +kernel) rfl (lv' := [(0, sv_r a)]) (st' := [sv_i 600, sv_r a]) rfl ?_
  refine sv_newaG C J G44 (Kq := 35) (N := 600) (t := .int) (atype := .int) (by decide +kernel) rfl (by simp) rfl rfl (by decide) nw_a_int (by decide) (fun _ => rfl) (Nat.le_of_ble_eq_true rfl) (Nat.le_of_ble_eq_true rfl) fun q46 ty47 σ48 G49 h050 hq51 hk52 => ?_
  refine sv_pfG C hin G49 (z := ((q46 : Int) + 1)) (k := 7) (by decide +kernel) rfl (r := (RX0, TX0, 12)) rfl (by decide) rfl nw_fl_X0_27 rfl (by show (0 : Int) ≤ _; omega) (by decide) (by decide) ⟨Or.inr ⟨q46, rfl, hq51⟩, trivial⟩ fun G53 => ?_
  generalize eσ54 : (sv_up σ48 a 7 ((q46 : Int) + 1)) = σ54 at G53 ⊢
  clear eσ54
  refine sv_go C.1 C.2.1 [(.aload_n 0, 1), (.sipush 600, 3)] (pc' := 59) (by decide +kernel) rfl (lv' := [(0, sv_r a)]) (st' := [sv_i 600, sv_r a]) rfl ?_
  refine sv_newaG C J G53 (Kq := 36) (N := 600) (t := .int) (atype := .int) (by decide +kernel) rfl (by simp) rfl rfl (by decide) nw_a_int (by decide) (fun _ => rfl) (Nat.le_of_ble_eq_true rfl) (Nat.le_of_ble_eq_true rfl) fun q55 ty56 σ57 G58 h059 hq60 hk61 => ?_
  refine sv_pfG C hin G58 (z := ((q55 : Int) + 1)) (k := 8) (by decide +kernel) rfl (r := (RX0, TX0, 12)) rfl (by decide) rfl nw_fl_X0_30 rfl (by show (0 : Int) ≤ _; omega) (by decide) (by decide) ⟨Or.inr ⟨q55, rfl, hq60⟩, trivial⟩ fun G62 => ?_
  generalize eσ63 : (sv_up σ57 a 8 ((q55 : Int) + 1)) = σ63 at G62 ⊢
  clear eσ63
  exact sv_nret C hr (by decide +kernel) rfl rfl (G62.done (sv_zend (by decide) (fun _ => rfl)))

set_option maxHeartbeats 4000000 in
set_option maxRecDepth 100000 in
theorem ct_X1_init (l : Launch) (g : sv_G) (A : Nat → Prop) (a : Nat) (ty : Nat → Nat) (σ : Nat → Nat → Int) (hT : sv_TT A ty) (hok : sv_ok ty σ) (ha : ty a = 7) (hz : ∀ k, σ a k = 0) : sv_NN l yX1_init cX1_init 2 2 32 62 789 g A ty σ [sv_r a] (sv_po A a 7 ty σ) := by
  refine sv_enterN (by decide) (Nat.le_of_ble_eq_true rfl) ?_
  intro p e s m args below meth c C J hr hin
  have C : sv_C g A RX1 cX1_init 2 p s m args meth c := C
  have hin : meth.name = "<init>" := hin
  have G0 := sv_S.start hT hok ha (by decide) hz
  refine sv_same (st2 := []) (lv2 := [(0, sv_r a)]) rfl rfl ?_
  refine sv_go C.1 C.2.1 [(.aload_n 0, 1)] (pc' := 1) (by decide +kernel) rfl (lv' := [(0, sv_r a)]) (st' := [sv_r a]) rfl ?_
  refine sv_oin C (by decide +kernel) nw_ml_X1_3 nw_oi nw_oc (by decide) (by decide) ?_
  refine sv_go C.1 C.2.1 [(.aload_n 0, 1), (.bipush 60, 2)] (pc' := 7) (by decide +kernel) rfl (lv' := [(0, sv_r a)]) (st' := [sv_i 60, sv_r a]) rfl ?_
  refine sv_anewG C J G0 (Kq := 22) (Nn := 60) (N := RX3) (by decide) (by decide +kernel) rfl rfl (by decide) nw_kl_X1_9 (by decide) (Nat.le_of_ble_eq_true rfl) (Nat.le_of_ble_eq_true rfl) fun q1 ty2 σ3 G4 h05 hq6 hf7 hne8 => ?_
  refine sv_pfG C hin G4 (z := ((q1 : Int) + 1)) (k := 0) (by decide +kernel) rfl (r := (RX1, TX1, 6)) rfl (by decide) rfl nw_fl_X1_11 rfl (by show (0 : Int) ≤ _; omega) (by decide) (by decide) ⟨Or.inr ⟨q1, rfl, hq6⟩, trivial⟩ fun G9 => ?_
  have B11 : sv_b ty2 (sv_up σ3 a 0 ((q1 : Int) + 1)) a q1 0 22 0 := ⟨hq6, by rw [sv_up_row hne8]; exact hf7, sv_up_s _ _ _ _, hne8⟩
  generalize eσ10 : (sv_up σ3 a 0 ((q1 : Int) + 1)) = σ10 at G9 B11 ⊢
  clear eσ10
  refine sv_go C.1 C.2.1 [(.aload_n 0, 1), (.bipush 9, 2)] (pc' := 16) (by decide +kernel) rfl (lv' := [(0, sv_r a)]) (st' := [sv_i 9, sv_r a]) rfl ?_
  refine sv_newaG C J G9 (Kq := 23) (N := 9) (t := .int) (atype := .int) (by decide +kernel) rfl (by simp) rfl rfl (by decide) nw_a_int (by decide) (fun _ => rfl) (Nat.le_of_ble_eq_true rfl) (Nat.le_of_ble_eq_true rfl) fun q12 ty13 σ14 G15 h016 hq17 hk18 => ?_
  have B19 := B11.kp (by decide) G9.nza hk18
  refine sv_pfG C hin G15 (z := ((q12 : Int) + 1)) (k := 1) (by decide +kernel) rfl (r := (RX1, TX1, 6)) rfl (by decide) rfl nw_fl_X1_17 rfl (by show (0 : Int) ≤ _; omega) (by decide) (by decide) ⟨Or.inr ⟨q12, rfl, hq17⟩, trivial⟩ fun G20 => ?_
  have B22 : sv_b ty13 (sv_up σ14 a 1 ((q12 : Int) + 1)) a q1 0 22 0 := B19.up (by decide)
  have w23 : ty13 q12 = 23 ∧ (sv_up σ14 a 1 ((q12 : Int) + 1)) a 1 = (q12 : Int) + 1 := ⟨hq17, sv_up_s _ _ _ _⟩
  generalize eσ21 : (sv_up σ14 a 1 ((q12 : Int) + 1)) = σ21 at G20 B22 w23 ⊢
  clear eσ21
  refine sv_go C.1 C.2.1 [(.iconst 0, 1), (.istore_n 1, 1)] (pc' := 23) (by decide +kernel) rfl (lv' := [(0, sv_r a), (1, sv_i 0)]) (st' := []) rfl ?_
  have L : ∀ (j i : Nat) (ty2 : Nat → Nat) (σ2 : Nat → Nat → Int), i ≤ 60 → sv_S A a 7 2 (fun x => x = q1) ty σ ty2 σ2 → sv_b ty2 σ2 a q1 0 22 i → (ty2 q12 = 23 ∧ σ2 a 1 = (q12 : Int) + 1) → 60 - i < j → sv_V p l e { frames := 2, cells := 62, slots := 789, locals := 32 } s m args below meth c 2 A (0 + 1 + 1 + i * 1) (0 + 60 + 9 + i * 12) (MQ below (sv_QN g A (sv_po A a 7 ty σ)) args s 62 789 A) (sv_H g ty2 σ2) 23 [(0, sv_r a), (1, sv_i ((i : Int)))] [] := by
    intro j
    induction j with
    | zero => intro i ty2 σ2 _ _ _ _ hj; exact absurd hj (by omega)
    | succ j ih =>
      intro i ty2 σ2 hi G B w hj
      refine sv_go C.1 C.2.1 [(.iload_n 1, 1), (.bipush 60, 2)] (pc' := 26) (by decide +kernel) rfl (lv' := [(0, sv_r a), (1, sv_i ((i : Int)))]) (st' := [sv_i 60, sv_i ((i : Int))]) rfl ?_
      refine sv_icmp C.1 C.2.1 (cnd := .ge) (off := 22) (by decide +kernel) (tgt := 48) rfl ⟨by omega, by omega⟩ ⟨by omega, by omega⟩ (fun hc => ?_) (fun hc => ?_)
      · have hi2 : i = 60 := by simp only [sv_cmp] at hc; omega
        subst hi2
        have Gc := G.close h05 (by rw [B.1]; exact B.2.1.done sv_zz22)
        refine sv_cnteq (cells' := 62) (slots' := 789) (by omega) (by omega) ?_
        refine sv_go C.1 C.2.1 [(.aload_n 0, 1), (.iconst (-1), 1)] (pc' := 50) (by decide +kernel) rfl (lv' := [(0, sv_r a), (1, sv_i (((60 : Nat) : Int)))]) (st' := [sv_i ((-1)), sv_r a]) rfl ?_
        refine sv_pfG C hin Gc (z := ((-1))) (k := 5) (by decide +kernel) rfl (r := (RX1, TX1, 6)) rfl (by decide) rfl nw_fl_X1_22 rfl ⟨by decide, by decide⟩ (by decide) (by decide) ⟨by first | exact trivial | exact ⟨by decide, by decide⟩, by first | exact trivial | exact ⟨by decide, by decide⟩⟩ fun G37 => ?_
        have w39 : ty2 q12 = 23 ∧ (sv_up σ2 a 5 ((-1))) a 1 = (q12 : Int) + 1 := ⟨w.1, by rw [sv_up_k (by decide)]; exact w.2⟩
        generalize eσ38 : (sv_up σ2 a 5 ((-1))) = σ38 at G37 w39 ⊢
        clear eσ38
        refine sv_go C.1 C.2.1 [(.aload_n 0, 1)] (pc' := 54) (by decide +kernel) rfl (lv' := [(0, sv_r a), (1, sv_i (((60 : Nat) : Int)))]) (st' := [sv_r a]) rfl ?_
        refine sv_gf C (a := a) (ci := 1) (k := 1) (r := (RX1, TX1, 6)) (v := sv_r q12) (by decide +kernel) (by rw [G37.2.1]; rfl) rfl (by decide) nw_fl_X1_17 (by rw [w39.2]; rfl) ?_
        refine sv_go C.1 C.2.1 [(.iconst (-1), 1)] (pc' := 58) (by decide +kernel) rfl (lv' := [(0, sv_r a), (1, sv_i (((60 : Nat) : Int)))]) (st' := [sv_i ((-1)), sv_r q12]) rfl ?_
        have hwa : q12 ≠ a := fun e => by have h1 := w39.1; rw [e, G37.2.1] at h1; exact absurd h1 (by decide)
        refine sv_cs C (as := [sv_r q12, sv_i (-1)]) (k := 2) (rest := []) (by decide +kernel) (ct_fill l g A ty2 σ38 G37.1.2.2.2.2 q12 9 (by rw [w39.1]; rfl) (by decide) (G37.1.2.2.2.1 q12 (by rw [w39.1]; decide)).2 (-1) ⟨by decide, by decide⟩) ⟨nw_co_J7_fill_53178, nw_in_J7, by decide +kernel, by decide, by decide⟩ nw_ml_X1_26 nw_st_J7_fill_53178 rfl rfl (Nat.le_of_ble_eq_true rfl) ⟨(Nat.le_of_ble_eq_true rfl), (Nat.le_of_ble_eq_true rfl)⟩ fun r σ40 hp41 ho42 => ?_
        obtain ⟨rfl, hp41, -⟩ := hp41
        have G43 := G37.upd h016 w39.1 hwa sp_1_23 sp_0_23 hp41 ho42
        refine sv_same (st2 := []) (lv2 := [(0, sv_r a), (1, sv_i (((60 : Nat) : Int)))]) rfl rfl ?_
        exact sv_nret C hr (by decide +kernel) rfl rfl (G43.done (sv_zend (by decide) (fun _ => rfl)))
      · have hi2 : i < 60 := by simp only [sv_cmp] at hc; omega
        refine sv_go C.1 C.2.1 [(.aload_n 0, 1)] (pc' := 30) (by decide +kernel) rfl (lv' := [(0, sv_r a), (1, sv_i ((i : Int)))]) (st' := [sv_r a]) rfl ?_
        refine sv_gf C (a := a) (ci := 1) (k := 0) (r := (RX1, TX1, 6)) (v := sv_r q1) (by decide +kernel) (by rw [G.2.1]; rfl) rfl (by decide) nw_fl_X1_11 (by rw [B.2.2.1]; rfl) ?_
        refine sv_go C.1 C.2.1 [(.iload_n 1, 1)] (pc' := 34) (by decide +kernel) rfl (lv' := [(0, sv_r a), (1, sv_i ((i : Int)))]) (st' := [sv_i ((i : Int)), sv_r q1]) rfl ?_
        refine sv_ninit C J G (Kq := 8) (mc := 0) (ms := 0) (NF := 12) (r := (RX3, TX3, 12)) rfl (by decide +kernel) (by decide +kernel) rfl rfl nw_kl_X1_9 nw_ns_X3 nw_in_X3 (by decide) (show 0 + 1 + 1 + i * 1 + 1 ≤ 62 by omega) (show 0 + 60 + 9 + i * 12 + 12 ≤ 789 by omega) (fun q ty1 σ1 t1 t2 t3 t4 kk => ?_) fun q24 ty25 σ26 G27 hq28 hk29 => ?_
        · exact sv_ciN C J (a := q) (as := []) (k := 0) (by decide +kernel) (ct_X3_init l g A q ty1 σ1 t1 t2 t3 t4) ⟨nw_co_X3_init, nw_in_X3, by decide +kernel, by decide, by decide⟩ nw_ml_X1_21 nw_im_X3_init rfl rfl rfl (Nat.le_of_ble_eq_true rfl) ⟨(show 0 + 1 + 1 + i * 1 + 1 + 0 ≤ 62 by omega), (show 0 + 60 + 9 + i * 12 + 12 + 0 ≤ 789 by omega)⟩ kk
        have B30 := B.kp (by decide) G.nza hk29
        have w31 : ty25 q12 = 23 ∧ σ26 a 1 = (q12 : Int) + 1 := ⟨by rw [(hk29 _ (by rw [w.1]; decide)).1]; exact w.1, by rw [(hk29 _ G.nza).2]; exact w.2⟩
        refine sv_asG C G27 B30 (r := (RX3, TX3, 12)) (N := 60) (ci := 2) (Kq := 8) (by decide) (by decide +kernel) rfl rfl hq28 rfl (by decide) hi2 (sp_1_22 hi2) (sp_0_22 i) fun σ32 G33 B34 hr35 => ?_
        have w36 : ty25 q12 = 23 ∧ σ32 a 1 = (q12 : Int) + 1 := ⟨w31.1, by rw [hr35 a (Ne.symm B30.2.2.2)]; exact w31.2⟩
        refine sv_go C.1 C.2.1 [(.iinc 1 1, 3)] (pc' := 45) (by decide +kernel) rfl (lv' := [(0, sv_r a), (1, sv_i (((i : Int)) + 1))]) (st' := []) rfl ?_
        refine sv_goto C.1 C.2.1 (off := -22) (by decide +kernel) (tgt := 23) rfl ?_
        refine sv_cnteq (cells' := 0 + 1 + 1 + (i + 1) * 1) (slots' := 0 + 60 + 9 + (i + 1) * 12) (by omega) (by omega) ?_
        refine sv_same (st2 := []) (lv2 := [(0, sv_r a), (1, sv_i ((i + 1 : Nat) : Int))]) rfl rfl ?_
        exact ih (i + 1) ty25 σ32 (by omega) G33 B34 w36 (by omega)
  refine sv_cnteq (cells' := 0 + 1 + 1 + 0 * 1) (slots' := 0 + 60 + 9 + 0 * 12) (by omega) (by omega) ?_
  refine sv_same (st2 := []) (lv2 := [(0, sv_r a), (1, sv_i ((0 : Nat) : Int))]) rfl rfl ?_
  exact L 61 0 ty13 σ21 (by omega) G20 B22 w23 (by omega)

set_option maxHeartbeats 4000000 in
set_option maxRecDepth 100000 in
theorem ct_X4_init (l : Launch) (g : sv_G) (A : Nat → Prop) (a : Nat) (ty : Nat → Nat) (σ : Nat → Nat → Int) (hT : sv_TT A ty) (hok : sv_ok ty σ) (ha : ty a = 4) (hz : ∀ k, σ a k = 0) : sv_NN l yX4_init cX4_init 1 3 53 69 1461 g A ty σ [sv_r a] (sv_po A a 4 ty σ) := by
  refine sv_enterN (by decide) (Nat.le_of_ble_eq_true rfl) ?_
  intro p e s m args below meth c C J hr hin
  have C : sv_C g A RX4 cX4_init 1 p s m args meth c := C
  have hin : meth.name = "<init>" := hin
  have G0 := sv_S.start hT hok ha (by decide) hz
  refine sv_same (st2 := []) (lv2 := [(0, sv_r a)]) rfl rfl ?_
  refine sv_go C.1 C.2.1 [(.aload_n 0, 1)] (pc' := 1) (by decide +kernel) rfl (lv' := [(0, sv_r a)]) (st' := [sv_r a]) rfl ?_
  refine sv_oin C (by decide +kernel) nw_ml_X4_3 nw_oi nw_oc (by decide) (by decide) ?_
  refine sv_go C.1 C.2.1 [(.aload_n 0, 1), (.bipush 60, 2)] (pc' := 7) (by decide +kernel) rfl (lv' := [(0, sv_r a)]) (st' := [sv_i 60, sv_r a]) rfl ?_
  refine sv_newaG C J G0 (Kq := 24) (N := 60) (t := .int) (atype := .int) (by decide +kernel) rfl (by simp) rfl rfl (by decide) nw_a_int (by decide) (fun _ => rfl) (Nat.le_of_ble_eq_true rfl) (Nat.le_of_ble_eq_true rfl) fun q1 ty2 σ3 G4 h05 hq6 hk7 => ?_
  refine sv_pfG C hin G4 (z := ((q1 : Int) + 1)) (k := 0) (by decide +kernel) rfl (r := (RX4, TX4, 11)) rfl (by decide) rfl nw_fl_X4_9 rfl (by show (0 : Int) ≤ _; omega) (by decide) (by decide) ⟨Or.inr ⟨q1, rfl, hq6⟩, trivial⟩ fun G8 => ?_
  generalize eσ9 : (sv_up σ3 a 0 ((q1 : Int) + 1)) = σ9 at G8 ⊢
  clear eσ9
  refine sv_go C.1 C.2.1 [(.aload_n 0, 1), (.sipush 366, 3)] (pc' := 16) (by decide +kernel) rfl (lv' := [(0, sv_r a)]) (st' := [sv_i 366, sv_r a]) rfl ?_
  refine sv_newaG C J G8 (Kq := 25) (N := 366) (t := .int) (atype := .int) (by decide +kernel) rfl (by simp) rfl rfl (by decide) nw_a_int (by decide) (fun _ => rfl) (Nat.le_of_ble_eq_true rfl) (Nat.le_of_ble_eq_true rfl) fun q10 ty11 σ12 G13 h014 hq15 hk16 => ?_
  refine sv_pfG C hin G13 (z := ((q10 : Int) + 1)) (k := 1) (by decide +kernel) rfl (r := (RX4, TX4, 11)) rfl (by decide) rfl nw_fl_X4_15 rfl (by show (0 : Int) ≤ _; omega) (by decide) (by decide) ⟨Or.inr ⟨q10, rfl, hq15⟩, trivial⟩ fun G17 => ?_
  generalize eσ18 : (sv_up σ12 a 1 ((q10 : Int) + 1)) = σ18 at G17 ⊢
  clear eσ18
  refine sv_go C.1 C.2.1 [(.aload_n 0, 1)] (pc' := 22) (by decide +kernel) rfl (lv' := [(0, sv_r a)]) (st' := [sv_r a]) rfl ?_
  refine sv_ninit C J G17 (Kq := 7) (mc := 62) (ms := 789) (NF := 6) (r := (RX1, TX1, 6)) rfl (by decide +kernel) (by decide +kernel) rfl rfl nw_kl_X4_18 nw_ns_X1 nw_in_X1 (by decide) (Nat.le_of_ble_eq_true rfl) (Nat.le_of_ble_eq_true rfl) (fun q ty1 σ1 t1 t2 t3 t4 kk => ?_) fun q19 ty20 σ21 G22 hq23 hk24 => ?_
  · exact sv_ci C J (a := q) (as := []) (k := 0) (by decide +kernel) (ct_X1_init l g A q ty1 σ1 t1 t2 t3 t4) ⟨nw_co_X1_init, nw_in_X1, by decide +kernel, by decide, by decide⟩ nw_ml_X4_20 nw_im_X1_init rfl rfl rfl (Nat.le_of_ble_eq_true rfl) ⟨(Nat.le_of_ble_eq_true rfl), (Nat.le_of_ble_eq_true rfl)⟩ kk
  refine sv_pfG C hin G22 (z := ((q19 : Int) + 1)) (k := 2) (by decide +kernel) rfl (r := (RX4, TX4, 11)) rfl (by decide) rfl nw_fl_X4_21 rfl (by show (0 : Int) ≤ _; omega) (by decide) (by decide) ⟨Or.inr ⟨q19, rfl, hq23⟩, trivial⟩ fun G25 => ?_
  generalize eσ26 : (sv_up σ21 a 2 ((q19 : Int) + 1)) = σ26 at G25 ⊢
  clear eσ26
  refine sv_go C.1 C.2.1 [(.aload_n 0, 1), (.bipush 60, 2)] (pc' := 35) (by decide +kernel) rfl (lv' := [(0, sv_r a)]) (st' := [sv_i 60, sv_r a]) rfl ?_
  refine sv_newaG C J G25 (Kq := 26) (N := 60) (t := .int) (atype := .int) (by decide +kernel) rfl (by simp) rfl rfl (by decide) nw_a_int (by decide) (fun _ => rfl) (Nat.le_of_ble_eq_true rfl) (Nat.le_of_ble_eq_true rfl) fun q27 ty28 σ29 G30 h031 hq32 hk33 => ?_
  refine sv_pfG C hin G30 (z := ((q27 : Int) + 1)) (k := 3) (by decide +kernel) rfl (r := (RX4, TX4, 11)) rfl (by decide) rfl nw_fl_X4_25 rfl (by show (0 : Int) ≤ _; omega) (by decide) (by decide) ⟨Or.inr ⟨q27, rfl, hq32⟩, trivial⟩ fun G34 => ?_
  generalize eσ35 : (sv_up σ29 a 3 ((q27 : Int) + 1)) = σ35 at G34 ⊢
  clear eσ35
  refine sv_go C.1 C.2.1 [(.aload_n 0, 1), (.bipush 60, 2)] (pc' := 43) (by decide +kernel) rfl (lv' := [(0, sv_r a)]) (st' := [sv_i 60, sv_r a]) rfl ?_
  refine sv_newaG C J G34 (Kq := 27) (N := 60) (t := .int) (atype := .int) (by decide +kernel) rfl (by simp) rfl rfl (by decide) nw_a_int (by decide) (fun _ => rfl) (Nat.le_of_ble_eq_true rfl) (Nat.le_of_ble_eq_true rfl) fun q36 ty37 σ38 G39 h040 hq41 hk42 => ?_
  refine sv_pfG C hin G39 (z := ((q36 : Int) + 1)) (k := 4) (by decide +kernel) rfl (r := (RX4, TX4, 11)) rfl (by decide) rfl nw_fl_X4_28 rfl (by show (0 : Int) ≤ _; omega) (by decide) (by decide) ⟨Or.inr ⟨q36, rfl, hq41⟩, trivial⟩ fun G43 => ?_
  generalize eσ44 : (sv_up σ38 a 4 ((q36 : Int) + 1)) = σ44 at G43 ⊢
  clear eσ44
  refine sv_go C.1 C.2.1 [(.aload_n 0, 1), (.bipush 60, 2)] (pc' := 51) (by decide +kernel) rfl (lv' := [(0, sv_r a)]) (st' := [sv_i 60, sv_r a]) rfl ?_
  refine sv_newaG C J G43 (Kq := 28) (N := 60) (t := .int) (atype := .int) (by decide +kernel) rfl (by simp) rfl rfl (by decide) nw_a_int (by decide) (fun _ => rfl) (Nat.le_of_ble_eq_true rfl) (Nat.le_of_ble_eq_true rfl) fun q45 ty46 σ47 G48 h049 hq50 hk51 => ?_
  refine sv_pfG C hin G48 (z := ((q45 : Int) + 1)) (k := 5) (by decide +kernel) rfl (r := (RX4, TX4, 11)) rfl (by decide) rfl nw_fl_X4_31 rfl (by show (0 : Int) ≤ _; omega) (by decide) (by decide) ⟨Or.inr ⟨q45, rfl, hq50⟩, trivial⟩ fun G52 => ?_
  generalize eσ53 : (sv_up σ47 a 5 ((q45 : Int) + 1)) = σ53 at G52 ⊢
  clear eσ53
  refine sv_go C.1 C.2.1 [(.aload_n 0, 1), (.bipush 60, 2)] (pc' := 59) (by decide +kernel) rfl (lv' := [(0, sv_r a)]) (st' := [sv_i 60, sv_r a]) rfl ?_
  refine sv_newaG C J G52 (Kq := 29) (N := 60) (t := .int) (atype := .int) (by decide +kernel) rfl (by simp) rfl rfl (by decide) nw_a_int (by decide) (fun _ => rfl) (Nat.le_of_ble_eq_true rfl) (Nat.le_of_ble_eq_true rfl) fun q54 ty55 σ56 G57 h058 hq59 hk60 => ?_
  refine sv_pfG C hin G57 (z := ((q54 : Int) + 1)) (k := 6) (by decide +kernel) rfl (r := (RX4, TX4, 11)) rfl (by decide) rfl nw_fl_X4_34 rfl (by show (0 : Int) ≤ _; omega) (by decide) (by decide) ⟨Or.inr ⟨q54, rfl, hq59⟩, trivial⟩ fun G61 => ?_
  generalize eσ62 : (sv_up σ56 a 6 ((q54 : Int) + 1)) = σ62 at G61 ⊢
  clear eσ62
  exact sv_nret C hr (by decide +kernel) rfl rfl (G61.done (sv_zend (by decide) (fun _ => rfl)))

set_option maxHeartbeats 4000000 in
set_option maxRecDepth 100000 in
theorem ct_X8_init (l : Launch) (g : sv_G) (A : Nat → Prop) (a : Nat) (ty : Nat → Nat) (σ : Nat → Nat → Int) (hT : sv_TT A ty) (hok : sv_ok ty σ) (ha : ty a = 6) (hz : ∀ k, σ a k = 0) : sv_NN l yX8_init cX8_init 2 2 32 39 2202 g A ty σ [sv_r a] (sv_po A a 6 ty σ) := by
  refine sv_enterN (by decide) (Nat.le_of_ble_eq_true rfl) ?_
  intro p e s m args below meth c C J hr hin
  have C : sv_C g A RX8 cX8_init 2 p s m args meth c := C
  have hin : meth.name = "<init>" := hin
  have G0 := sv_S.start hT hok ha (by decide) hz
  refine sv_same (st2 := []) (lv2 := [(0, sv_r a)]) rfl rfl ?_
  refine sv_go C.1 C.2.1 [(.aload_n 0, 1)] (pc' := 1) (by decide +kernel) rfl (lv' := [(0, sv_r a)]) (st' := [sv_r a]) rfl ?_
  refine sv_oin C (by decide +kernel) nw_ml_X8_3 nw_oi nw_oc (by decide) (by decide) ?_
  refine sv_go C.1 C.2.1 [(.aload_n 0, 1), (.bipush 12, 2)] (pc' := 7) (by decide +kernel) rfl (lv' := [(0, sv_r a)]) (st' := [sv_i 12, sv_r a]) rfl ?_
  refine sv_anewG C J G0 (Kq := 37) (Nn := 12) (N := RX5) (by decide) (by decide +kernel) rfl rfl (by decide) nw_kl_X8_9 (by decide) (Nat.le_of_ble_eq_true rfl) (Nat.le_of_ble_eq_true rfl) fun q1 ty2 σ3 G4 h05 hq6 hf7 hne8 => ?_
  refine sv_pfG C hin G4 (z := ((q1 : Int) + 1)) (k := 0) (by decide +kernel) rfl (r := (RX8, TX8, 4)) rfl (by decide) rfl nw_fl_X8_11 rfl (by show (0 : Int) ≤ _; omega) (by decide) (by decide) ⟨Or.inr ⟨q1, rfl, hq6⟩, trivial⟩ fun G9 => ?_
  have B11 : sv_b ty2 (sv_up σ3 a 0 ((q1 : Int) + 1)) a q1 0 37 0 := ⟨hq6, by rw [sv_up_row hne8]; exact hf7, sv_up_s _ _ _ _, hne8⟩
  generalize eσ10 : (sv_up σ3 a 0 ((q1 : Int) + 1)) = σ10 at G9 B11 ⊢
  clear eσ10
  refine sv_go C.1 C.2.1 [(.aload_n 0, 1), (.sipush 400, 3)] (pc' := 17) (by decide +kernel) rfl (lv' := [(0, sv_r a)]) (st' := [sv_i 400, sv_r a]) rfl ?_
  refine sv_newaG C J G9 (Kq := 38) (N := 400) (t := .int) (atype := .int) (by decide +kernel) rfl (by simp) rfl rfl (by decide) nw_a_int (by decide) (fun _ => rfl) (Nat.le_of_ble_eq_true rfl) (Nat.le_of_ble_eq_true rfl) fun q12 ty13 σ14 G15 h016 hq17 hk18 => ?_
  have B19 := B11.kp (by decide) G9.nza hk18
  refine sv_pfG C hin G15 (z := ((q12 : Int) + 1)) (k := 2) (by decide +kernel) rfl (r := (RX8, TX8, 4)) rfl (by decide) rfl nw_fl_X8_17 rfl (by show (0 : Int) ≤ _; omega) (by decide) (by decide) ⟨Or.inr ⟨q12, rfl, hq17⟩, trivial⟩ fun G20 => ?_
  have B22 : sv_b ty13 (sv_up σ14 a 2 ((q12 : Int) + 1)) a q1 0 37 0 := B19.up (by decide)
  generalize eσ21 : (sv_up σ14 a 2 ((q12 : Int) + 1)) = σ21 at G20 B22 ⊢
  clear eσ21
  refine sv_go C.1 C.2.1 [(.aload_n 0, 1), (.sipush 1442, 3)] (pc' := 26) (by decide +kernel) rfl (lv' := [(0, sv_r a)]) (st' := [sv_i 1442, sv_r a]) rfl ?_
  refine sv_newaG C J G20 (Kq := 39) (N := 1442) (t := .int) (atype := .int) (by decide +kernel) rfl (by simp) rfl rfl (by decide) nw_a_int (by decide) (fun _ => rfl) (Nat.le_of_ble_eq_true rfl) (Nat.le_of_ble_eq_true rfl) fun q23 ty24 σ25 G26 h027 hq28 hk29 => ?_
  have B30 := B22.kp (by decide) G20.nza hk29
  refine sv_pfG C hin G26 (z := ((q23 : Int) + 1)) (k := 3) (by decide +kernel) rfl (r := (RX8, TX8, 4)) rfl (by decide) rfl nw_fl_X8_21 rfl (by show (0 : Int) ≤ _; omega) (by decide) (by decide) ⟨Or.inr ⟨q23, rfl, hq28⟩, trivial⟩ fun G31 => ?_
  have B33 : sv_b ty24 (sv_up σ25 a 3 ((q23 : Int) + 1)) a q1 0 37 0 := B30.up (by decide)
  generalize eσ32 : (sv_up σ25 a 3 ((q23 : Int) + 1)) = σ32 at G31 B33 ⊢
  clear eσ32
  refine sv_go C.1 C.2.1 [(.iconst 0, 1), (.istore_n 1, 1)] (pc' := 33) (by decide +kernel) rfl (lv' := [(0, sv_r a), (1, sv_i 0)]) (st' := []) rfl ?_
  have L : ∀ (j i : Nat) (ty2 : Nat → Nat) (σ2 : Nat → Nat → Int), i ≤ 12 → sv_S A a 6 4 (fun x => x = q1) ty σ ty2 σ2 → sv_b ty2 σ2 a q1 0 37 i → 12 - i < j → sv_V p l e { frames := 2, cells := 39, slots := 2202, locals := 32 } s m args below meth c 2 A (0 + 1 + 1 + 1 + i * 3) (0 + 12 + 400 + 1442 + i * 29) (MQ below (sv_QN g A (sv_po A a 6 ty σ)) args s 39 2202 A) (sv_H g ty2 σ2) 33 [(0, sv_r a), (1, sv_i ((i : Int)))] [] := by
    intro j
    induction j with
    | zero => intro i ty2 σ2 _ _ _ hj; exact absurd hj (by omega)
    | succ j ih =>
      intro i ty2 σ2 hi G B hj
      refine sv_go C.1 C.2.1 [(.iload_n 1, 1), (.bipush 12, 2)] (pc' := 36) (by decide +kernel) rfl (lv' := [(0, sv_r a), (1, sv_i ((i : Int)))]) (st' := [sv_i 12, sv_i ((i : Int))]) rfl ?_
      refine sv_icmp C.1 C.2.1 (cnd := .ge) (off := 22) (by decide +kernel) (tgt := 58) rfl ⟨by omega, by omega⟩ ⟨by omega, by omega⟩ (fun hc => ?_) (fun hc => ?_)
      · have hi2 : i = 12 := by simp only [sv_cmp] at hc; omega
        subst hi2
        have Gc := G.close h05 (by rw [B.1]; exact B.2.1.done sv_zz37)
        refine sv_cnteq (cells' := 39) (slots' := 2202) (by omega) (by omega) ?_
        exact sv_nret C hr (by decide +kernel) rfl rfl (Gc.done (sv_zend (by decide) (fun _ => rfl)))
      · have hi2 : i < 12 := by simp only [sv_cmp] at hc; omega
        refine sv_go C.1 C.2.1 [(.aload_n 0, 1)] (pc' := 40) (by decide +kernel) rfl (lv' := [(0, sv_r a), (1, sv_i ((i : Int)))]) (st' := [sv_r a]) rfl ?_
        refine sv_gf C (a := a) (ci := 7) (k := 0) (r := (RX8, TX8, 4)) (v := sv_r q1) (by decide +kernel) (by rw [G.2.1]; rfl) rfl (by decide) nw_fl_X8_11 (by rw [B.2.2.1]; rfl) ?_
        refine sv_go C.1 C.2.1 [(.iload_n 1, 1)] (pc' := 44) (by decide +kernel) rfl (lv' := [(0, sv_r a), (1, sv_i ((i : Int)))]) (st' := [sv_i ((i : Int)), sv_r q1]) rfl ?_
        refine sv_ninit C J G (Kq := 9) (mc := 2) (ms := 24) (NF := 5) (r := (RX5, TX5, 5)) rfl (by decide +kernel) (by decide +kernel) rfl rfl nw_kl_X8_9 nw_ns_X5 nw_in_X5 (by decide) (show 0 + 1 + 1 + 1 + i * 3 + 1 ≤ 39 by omega) (show 0 + 12 + 400 + 1442 + i * 29 + 5 ≤ 2202 by omega) (fun q ty1 σ1 t1 t2 t3 t4 kk => ?_) fun q34 ty35 σ36 G37 hq38 hk39 => ?_
        · exact sv_ciN C J (a := q) (as := []) (k := 0) (by decide +kernel) (ct_X5_init l g A q ty1 σ1 t1 t2 t3 t4) ⟨nw_co_X5_init, nw_in_X5, by decide +kernel, by decide, by decide⟩ nw_ml_X8_24 nw_im_X5_init rfl rfl rfl (Nat.le_of_ble_eq_true rfl) ⟨(show 0 + 1 + 1 + 1 + i * 3 + 1 + 2 ≤ 39 by omega), (show 0 + 12 + 400 + 1442 + i * 29 + 5 + 24 ≤ 2202 by omega)⟩ kk
        have B40 := B.kp (by decide) G.nza hk39
        refine sv_asG C G37 B40 (r := (RX5, TX5, 5)) (N := 12) (ci := 4) (Kq := 9) (by decide) (by decide +kernel) rfl rfl hq38 rfl (by decide) hi2 (sp_1_37 hi2) (sp_0_37 i) fun σ41 G42 B43 hr44 => ?_
        refine sv_go C.1 C.2.1 [(.iinc 1 1, 3)] (pc' := 55) (by decide +kernel) rfl (lv' := [(0, sv_r a), (1, sv_i (((i : Int)) + 1))]) (st' := []) rfl ?_
        refine sv_goto C.1 C.2.1 (off := -22) (by decide +kernel) (tgt := 33) rfl ?_
        refine sv_cnteq (cells' := 0 + 1 + 1 + 1 + (i + 1) * 3) (slots' := 0 + 12 + 400 + 1442 + (i + 1) * 29) (by omega) (by omega) ?_
        refine sv_same (st2 := []) (lv2 := [(0, sv_r a), (1, sv_i ((i + 1 : Nat) : Int))]) rfl rfl ?_
        exact ih (i + 1) ty35 σ41 (by omega) G42 B43 (by omega)
  refine sv_cnteq (cells' := 0 + 1 + 1 + 1 + 0 * 3) (slots' := 0 + 12 + 400 + 1442 + 0 * 29) (by omega) (by omega) ?_
  refine sv_same (st2 := []) (lv2 := [(0, sv_r a), (1, sv_i ((0 : Nat) : Int))]) rfl rfl ?_
  exact L 13 0 ty24 σ32 (by omega) G31 B33 (by omega)

set_option maxHeartbeats 4000000 in
set_option maxRecDepth 100000 in
theorem ct_X9_init (l : Launch) (g : sv_G) (A : Nat → Prop) (a : Nat) (ty : Nat → Nat) (σ : Nat → Nat → Int) (hT : sv_TT A ty) (hok : sv_ok ty σ) (ha : ty a = 1) (hz : ∀ k, σ a k = 0) : sv_NN l yX9_init cX9_init 2 4 73 395 15350 g A ty σ [sv_r a] (sv_po A a 1 ty σ) := by
  refine sv_enterN (by decide) (Nat.le_of_ble_eq_true rfl) ?_
  intro p e s m args below meth c C J hr hin
  have C : sv_C g A RX9 cX9_init 2 p s m args meth c := C
  have hin : meth.name = "<init>" := hin
  have G0 := sv_S.start hT hok ha (by decide) hz
  refine sv_same (st2 := []) (lv2 := [(0, sv_r a)]) rfl rfl ?_
  refine sv_go C.1 C.2.1 [(.aload_n 0, 1)] (pc' := 1) (by decide +kernel) rfl (lv' := [(0, sv_r a)]) (st' := [sv_r a]) rfl ?_
  refine sv_oin C (by decide +kernel) nw_ml_X9_1 nw_oi nw_oc (by decide) (by decide) ?_
  refine sv_go C.1 C.2.1 [(.aload_n 0, 1)] (pc' := 5) (by decide +kernel) rfl (lv' := [(0, sv_r a)]) (st' := [sv_r a]) rfl ?_
  refine sv_ninit C J G0 (Kq := 2) (mc := 1) (ms := 4000) (NF := 2) (r := (RX7, TX7, 2)) rfl (by decide +kernel) (by decide +kernel) rfl rfl nw_kl_X9_7 nw_ns_X7 nw_in_X7 (by decide) (Nat.le_of_ble_eq_true rfl) (Nat.le_of_ble_eq_true rfl) (fun q ty1 σ1 t1 t2 t3 t4 kk => ?_) fun q1 ty2 σ3 G4 hq5 hk6 => ?_
  · exact sv_ciN C J (a := q) (as := []) (k := 0) (by decide +kernel) (ct_X7_init l g A q ty1 σ1 t1 t2 t3 t4) ⟨nw_co_X7_init, nw_in_X7, by decide +kernel, by decide, by decide⟩ nw_ml_X9_9 nw_im_X7_init rfl rfl rfl (Nat.le_of_ble_eq_true rfl) ⟨(Nat.le_of_ble_eq_true rfl), (Nat.le_of_ble_eq_true rfl)⟩ kk
  refine sv_pfG C hin G4 (z := ((q1 : Int) + 1)) (k := 0) (by decide +kernel) rfl (r := (RX9, TX9, 6)) rfl (by decide) rfl nw_fl_X9_10 rfl (by show (0 : Int) ≤ _; omega) (by decide) (by decide) ⟨Or.inr ⟨q1, rfl, hq5⟩, trivial⟩ fun G7 => ?_
  generalize eσ8 : (sv_up σ3 a 0 ((q1 : Int) + 1)) = σ8 at G7 ⊢
  clear eσ8
  refine sv_go C.1 C.2.1 [(.aload_n 0, 1)] (pc' := 16) (by decide +kernel) rfl (lv' := [(0, sv_r a)]) (st' := [sv_r a]) rfl ?_
  refine sv_ninit C J G7 (Kq := 3) (mc := 0) (ms := 0) (NF := 13) (r := (RX6, TX6, 13)) rfl (by decide +kernel) (by decide +kernel) rfl rfl nw_kl_X9_16 nw_ns_X6 nw_in_X6 (by decide) (Nat.le_of_ble_eq_true rfl) (Nat.le_of_ble_eq_true rfl) (fun q ty1 σ1 t1 t2 t3 t4 kk => ?_) fun q9 ty10 σ11 G12 hq13 hk14 => ?_
  · exact sv_ciN C J (a := q) (as := []) (k := 0) (by decide +kernel) (ct_X6_init l g A q ty1 σ1 t1 t2 t3 t4) ⟨nw_co_X6_init, nw_in_X6, by decide +kernel, by decide, by decide⟩ nw_ml_X9_18 nw_im_X6_init rfl rfl rfl (Nat.le_of_ble_eq_true rfl) ⟨(Nat.le_of_ble_eq_true rfl), (Nat.le_of_ble_eq_true rfl)⟩ kk
  refine sv_pfG C hin G12 (z := ((q9 : Int) + 1)) (k := 1) (by decide +kernel) rfl (r := (RX9, TX9, 6)) rfl (by decide) rfl nw_fl_X9_19 rfl (by show (0 : Int) ≤ _; omega) (by decide) (by decide) ⟨Or.inr ⟨q9, rfl, hq13⟩, trivial⟩ fun G15 => ?_
  generalize eσ16 : (sv_up σ11 a 1 ((q9 : Int) + 1)) = σ16 at G15 ⊢
  clear eσ16
  refine sv_go C.1 C.2.1 [(.aload_n 0, 1), (.iconst 4, 1)] (pc' := 28) (by decide +kernel) rfl (lv' := [(0, sv_r a)]) (st' := [sv_i 4, sv_r a]) rfl ?_
  refine sv_anewG C J G15 (Kq := 21) (Nn := 4) (N := RX4) (by decide) (by decide +kernel) rfl rfl (by decide) nw_kl_X9_23 (by decide) (Nat.le_of_ble_eq_true rfl) (Nat.le_of_ble_eq_true rfl) fun q17 ty18 σ19 G20 h021 hq22 hf23 hne24 => ?_
  refine sv_pfG C hin G20 (z := ((q17 : Int) + 1)) (k := 2) (by decide +kernel) rfl (r := (RX9, TX9, 6)) rfl (by decide) rfl nw_fl_X9_25 rfl (by show (0 : Int) ≤ _; omega) (by decide) (by decide) ⟨Or.inr ⟨q17, rfl, hq22⟩, trivial⟩ fun G25 => ?_
  have B27 : sv_b ty18 (sv_up σ19 a 2 ((q17 : Int) + 1)) a q17 2 21 0 := ⟨hq22, by rw [sv_up_row hne24]; exact hf23, sv_up_s _ _ _ _, hne24⟩
  generalize eσ26 : (sv_up σ19 a 2 ((q17 : Int) + 1)) = σ26 at G25 B27 ⊢
  clear eσ26
  refine sv_go C.1 C.2.1 [(.iconst 0, 1), (.istore_n 1, 1)] (pc' := 36) (by decide +kernel) rfl (lv' := [(0, sv_r a), (1, sv_i 0)]) (st' := []) rfl ?_
  have L : ∀ (j i : Nat) (ty2 : Nat → Nat) (σ2 : Nat → Nat → Int), i ≤ 4 → sv_S A a 1 3 (fun x => x = q17) ty σ ty2 σ2 → sv_b ty2 σ2 a q17 2 21 i → 4 - i < j → sv_V p l e { frames := 4, cells := 395, slots := 15350, locals := 73 } s m args below meth c 2 A (0 + 1 + 1 + 1 + 0 + 1 + i * 70) (0 + 2 + 4000 + 13 + 0 + 4 + i * 1472) (MQ below (sv_QN g A (sv_po A a 1 ty σ)) args s 395 15350 A) (sv_H g ty2 σ2) 36 [(0, sv_r a), (1, sv_i ((i : Int)))] [] := by
    intro j
    induction j with
    | zero => intro i ty2 σ2 _ _ _ hj; exact absurd hj (by omega)
    | succ j ih =>
      intro i ty2 σ2 hi G B hj
      refine sv_go C.1 C.2.1 [(.iload_n 1, 1), (.iconst 4, 1)] (pc' := 38) (by decide +kernel) rfl (lv' := [(0, sv_r a), (1, sv_i ((i : Int)))]) (st' := [sv_i 4, sv_i ((i : Int))]) rfl ?_
      refine sv_icmp C.1 C.2.1 (cnd := .ge) (off := 22) (by decide +kernel) (tgt := 60) rfl ⟨by omega, by omega⟩ ⟨by omega, by omega⟩ (fun hc => ?_) (fun hc => ?_)
      · have hi2 : i = 4 := by simp only [sv_cmp] at hc; omega
        subst hi2
        have Gc := G.close h021 (by rw [B.1]; exact B.2.1.done sv_zz21)
        refine sv_cnteq (cells' := 284) (slots' := 9907) (by omega) (by omega) ?_
        refine sv_go C.1 C.2.1 [(.aload_n 0, 1)] (pc' := 61) (by decide +kernel) rfl (lv' := [(0, sv_r a), (1, sv_i (((4 : Nat) : Int)))]) (st' := [sv_r a]) rfl ?_
        refine sv_ninit C J Gc (Kq := 5) (mc := 7) (ms := 2430) (NF := 12) (r := (RX0, TX0, 12)) rfl (by decide +kernel) (by decide +kernel) rfl rfl nw_kl_X9_30 nw_ns_X0 nw_in_X0 (by decide) (Nat.le_of_ble_eq_true rfl) (Nat.le_of_ble_eq_true rfl) (fun q ty1 σ1 t1 t2 t3 t4 kk => ?_) fun q39 ty40 σ41 G42 hq43 hk44 => ?_
        · exact sv_ciN C J (a := q) (as := []) (k := 0) (by decide +kernel) (ct_X0_init l g A q ty1 σ1 t1 t2 t3 t4) ⟨nw_co_X0_init, nw_in_X0, by decide +kernel, by decide, by decide⟩ nw_ml_X9_32 nw_im_X0_init rfl rfl rfl (Nat.le_of_ble_eq_true rfl) ⟨(Nat.le_of_ble_eq_true rfl), (Nat.le_of_ble_eq_true rfl)⟩ kk
        refine sv_pfG C hin G42 (z := ((q39 : Int) + 1)) (k := 3) (by decide +kernel) rfl (r := (RX9, TX9, 6)) rfl (by decide) rfl nw_fl_X9_33 rfl (by show (0 : Int) ≤ _; omega) (by decide) (by decide) ⟨Or.inr ⟨q39, rfl, hq43⟩, trivial⟩ fun G45 => ?_
        generalize eσ46 : (sv_up σ41 a 3 ((q39 : Int) + 1)) = σ46 at G45 ⊢
        clear eσ46
        refine sv_go C.1 C.2.1 [(.aload_n 0, 1)] (pc' := 72) (by decide +kernel) rfl (lv' := [(0, sv_r a), (1, sv_i (((4 : Nat) : Int)))]) (st' := [sv_r a]) rfl ?_
        refine sv_ninit C J G45 (Kq := 6) (mc := 39) (ms := 2202) (NF := 4) (r := (RX8, TX8, 4)) rfl (by decide +kernel) (by decide +kernel) rfl rfl nw_kl_X9_37 nw_ns_X8 nw_in_X8 (by decide) (Nat.le_of_ble_eq_true rfl) (Nat.le_of_ble_eq_true rfl) (fun q ty1 σ1 t1 t2 t3 t4 kk => ?_) fun q47 ty48 σ49 G50 hq51 hk52 => ?_
        · exact sv_ci C J (a := q) (as := []) (k := 0) (by decide +kernel) (ct_X8_init l g A q ty1 σ1 t1 t2 t3 t4) ⟨nw_co_X8_init, nw_in_X8, by decide +kernel, by decide, by decide⟩ nw_ml_X9_39 nw_im_X8_init rfl rfl rfl (Nat.le_of_ble_eq_true rfl) ⟨(Nat.le_of_ble_eq_true rfl), (Nat.le_of_ble_eq_true rfl)⟩ kk
        refine sv_pfG C hin G50 (z := ((q47 : Int) + 1)) (k := 4) (by decide +kernel) rfl (r := (RX9, TX9, 6)) rfl (by decide) rfl nw_fl_X9_40 rfl (by show (0 : Int) ≤ _; omega) (by decide) (by decide) ⟨Or.inr ⟨q47, rfl, hq51⟩, trivial⟩ fun G53 => ?_
        generalize eσ54 : (sv_up σ49 a 4 ((q47 : Int) + 1)) = σ54 at G53 ⊢
        clear eσ54
        refine sv_go C.1 C.2.1 [(.aload_n 0, 1)] (pc' := 83) (by decide +kernel) rfl (lv' := [(0, sv_r a), (1, sv_i (((4 : Nat) : Int)))]) (st' := [sv_r a]) rfl ?_
        refine sv_ninit C J G53 (Kq := 7) (mc := 62) (ms := 789) (NF := 6) (r := (RX1, TX1, 6)) rfl (by decide +kernel) (by decide +kernel) rfl rfl nw_kl_X9_44 nw_ns_X1 nw_in_X1 (by decide) (Nat.le_of_ble_eq_true rfl) (Nat.le_of_ble_eq_true rfl) (fun q ty1 σ1 t1 t2 t3 t4 kk => ?_) fun q55 ty56 σ57 G58 hq59 hk60 => ?_
        · exact sv_ci C J (a := q) (as := []) (k := 0) (by decide +kernel) (ct_X1_init l g A q ty1 σ1 t1 t2 t3 t4) ⟨nw_co_X1_init, nw_in_X1, by decide +kernel, by decide, by decide⟩ nw_ml_X9_46 nw_im_X1_init rfl rfl rfl (Nat.le_of_ble_eq_true rfl) ⟨(Nat.le_of_ble_eq_true rfl), (Nat.le_of_ble_eq_true rfl)⟩ kk
        refine sv_pfG C hin G58 (z := ((q55 : Int) + 1)) (k := 5) (by decide +kernel) rfl (r := (RX9, TX9, 6)) rfl (by decide) rfl nw_fl_X9_47 rfl (by show (0 : Int) ≤ _; omega) (by decide) (by decide) ⟨Or.inr ⟨q55, rfl, hq59⟩, trivial⟩ fun G61 => ?_
        generalize eσ62 : (sv_up σ57 a 5 ((q55 : Int) + 1)) = σ62 at G61 ⊢
        clear eσ62
        exact sv_nret C hr (by decide +kernel) rfl rfl (G61.done (sv_zend (by decide) (fun _ => rfl)))
      · have hi2 : i < 4 := by simp only [sv_cmp] at hc; omega
        refine sv_go C.1 C.2.1 [(.aload_n 0, 1)] (pc' := 42) (by decide +kernel) rfl (lv' := [(0, sv_r a), (1, sv_i ((i : Int)))]) (st' := [sv_r a]) rfl ?_
        refine sv_gf C (a := a) (ci := 8) (k := 2) (r := (RX9, TX9, 6)) (v := sv_r q17) (by decide +kernel) (by rw [G.2.1]; rfl) rfl (by decide) nw_fl_X9_25 (by rw [B.2.2.1]; rfl) ?_
        refine sv_go C.1 C.2.1 [(.iload_n 1, 1)] (pc' := 46) (by decide +kernel) rfl (lv' := [(0, sv_r a), (1, sv_i ((i : Int)))]) (st' := [sv_i ((i : Int)), sv_r q17]) rfl ?_
        refine sv_ninit C J G (Kq := 4) (mc := 69) (ms := 1461) (NF := 11) (r := (RX4, TX4, 11)) rfl (by decide +kernel) (by decide +kernel) rfl rfl nw_kl_X9_23 nw_ns_X4 nw_in_X4 (by decide) (show 0 + 1 + 1 + 1 + 0 + 1 + i * 70 + 1 ≤ 395 by omega) (show 0 + 2 + 4000 + 13 + 0 + 4 + i * 1472 + 11 ≤ 15350 by omega) (fun q ty1 σ1 t1 t2 t3 t4 kk => ?_) fun q28 ty29 σ30 G31 hq32 hk33 => ?_
        · exact sv_ciN C J (a := q) (as := []) (k := 0) (by decide +kernel) (ct_X4_init l g A q ty1 σ1 t1 t2 t3 t4) ⟨nw_co_X4_init, nw_in_X4, by decide +kernel, by decide, by decide⟩ nw_ml_X9_29 nw_im_X4_init rfl rfl rfl (Nat.le_of_ble_eq_true rfl) ⟨(show 0 + 1 + 1 + 1 + 0 + 1 + i * 70 + 1 + 69 ≤ 395 by omega), (show 0 + 2 + 4000 + 13 + 0 + 4 + i * 1472 + 11 + 1461 ≤ 15350 by omega)⟩ kk
        have B34 := B.kp (by decide) G.nza hk33
        refine sv_asG C G31 B34 (r := (RX4, TX4, 11)) (N := 4) (ci := 3) (Kq := 4) (by decide) (by decide +kernel) rfl rfl hq32 rfl (by decide) hi2 (sp_1_21 hi2) (sp_0_21 i) fun σ35 G36 B37 hr38 => ?_
        refine sv_go C.1 C.2.1 [(.iinc 1 1, 3)] (pc' := 57) (by decide +kernel) rfl (lv' := [(0, sv_r a), (1, sv_i (((i : Int)) + 1))]) (st' := []) rfl ?_
        refine sv_goto C.1 C.2.1 (off := -21) (by decide +kernel) (tgt := 36) rfl ?_
        refine sv_cnteq (cells' := 0 + 1 + 1 + 1 + 0 + 1 + (i + 1) * 70) (slots' := 0 + 2 + 4000 + 13 + 0 + 4 + (i + 1) * 1472) (by omega) (by omega) ?_
        refine sv_same (st2 := []) (lv2 := [(0, sv_r a), (1, sv_i ((i + 1 : Nat) : Int))]) rfl rfl ?_
        exact ih (i + 1) ty29 σ35 (by omega) G36 B37 (by omega)
  refine sv_cnteq (cells' := 0 + 1 + 1 + 1 + 0 + 1 + 0 * 70) (slots' := 0 + 2 + 4000 + 13 + 0 + 4 + 0 * 1472) (by omega) (by omega) ?_
  refine sv_same (st2 := []) (lv2 := [(0, sv_r a), (1, sv_i ((0 : Nat) : Int))]) rfl rfl ?_
  exact L 5 0 ty18 σ26 (by omega) G25 B27 (by omega)

set_option maxHeartbeats 4000000 in
set_option maxRecDepth 100000 in
theorem ct_X11_init (l : Launch) (g : sv_G) (A : Nat → Prop) (a : Nat) (ty : Nat → Nat) (σ : Nat → Nat → Int) (hT : sv_TT A ty) (hok : sv_ok ty σ) (ha : ty a = 10) (hz : ∀ k, σ a k = 0) : sv_NN l yX11_init cX11_init 1 4 80 36 14536 g A ty σ [sv_r a] (sv_po A a 10 ty σ) := by
  refine sv_enterN (by decide) (Nat.le_of_ble_eq_true rfl) ?_
  intro p e s m args below meth c C J hr hin
  have C : sv_C g A RX11 cX11_init 1 p s m args meth c := C
  have hin : meth.name = "<init>" := hin
  have G0 := sv_S.start hT hok ha (by decide) hz
  refine sv_same (st2 := []) (lv2 := [(0, sv_r a)]) rfl rfl ?_
  refine sv_go C.1 C.2.1 [(.aload_n 0, 1)] (pc' := 1) (by decide +kernel) rfl (lv' := [(0, sv_r a)]) (st' := [sv_r a]) rfl ?_
  refine sv_oin C (by decide +kernel) nw_ml_X11_41 nw_oi nw_oc (by decide) (by decide) ?_
  refine sv_go C.1 C.2.1 [(.aload_n 0, 1), (.iconst 5, 1)] (pc' := 6) (by decide +kernel) rfl (lv' := [(0, sv_r a)]) (st' := [sv_i 5, sv_r a]) rfl ?_
  refine sv_newaG C J G0 (Kq := 60) (N := 5) (t := .int) (atype := .int) (by decide +kernel) rfl (by simp) rfl rfl (by decide) nw_a_int (by decide) (fun _ => rfl) (Nat.le_of_ble_eq_true rfl) (Nat.le_of_ble_eq_true rfl) fun q1 ty2 σ3 G4 h05 hq6 hk7 => ?_
  refine sv_pfG C hin G4 (z := ((q1 : Int) + 1)) (k := 0) (by decide +kernel) rfl (r := (RX11, TX11, 47)) rfl (by decide) rfl nw_fl_X11_47 rfl (by show (0 : Int) ≤ _; omega) (by decide) (by decide) ⟨Or.inr ⟨q1, rfl, hq6⟩, trivial⟩ fun G8 => ?_
  generalize eσ9 : (sv_up σ3 a 0 ((q1 : Int) + 1)) = σ9 at G8 ⊢
  clear eσ9
  refine sv_go C.1 C.2.1 [(.aload_n 0, 1), (.iconst 5, 1)] (pc' := 13) (by decide +kernel) rfl (lv' := [(0, sv_r a)]) (st' := [sv_i 5, sv_r a]) rfl ?_
  refine sv_newaG C J G8 (Kq := 61) (N := 5) (t := .int) (atype := .int) (by decide +kernel) rfl (by simp) rfl rfl (by decide) nw_a_int (by decide) (fun _ => rfl) (Nat.le_of_ble_eq_true rfl) (Nat.le_of_ble_eq_true rfl) fun q10 ty11 σ12 G13 h014 hq15 hk16 => ?_
  refine sv_pfG C hin G13 (z := ((q10 : Int) + 1)) (k := 1) (by decide +kernel) rfl (r := (RX11, TX11, 47)) rfl (by decide) rfl nw_fl_X11_51 rfl (by show (0 : Int) ≤ _; omega) (by decide) (by decide) ⟨Or.inr ⟨q10, rfl, hq15⟩, trivial⟩ fun G17 => ?_
  generalize eσ18 : (sv_up σ12 a 1 ((q10 : Int) + 1)) = σ18 at G17 ⊢
  clear eσ18
  refine sv_go C.1 C.2.1 [(.aload_n 0, 1), (.iconst 5, 1)] (pc' := 20) (by decide +kernel) rfl (lv' := [(0, sv_r a)]) (st' := [sv_i 5, sv_r a]) rfl ?_
  refine sv_newaG C J G17 (Kq := 62) (N := 5) (t := .int) (atype := .int) (by decide +kernel) rfl (by simp) rfl rfl (by decide) nw_a_int (by decide) (fun _ => rfl) (Nat.le_of_ble_eq_true rfl) (Nat.le_of_ble_eq_true rfl) fun q19 ty20 σ21 G22 h023 hq24 hk25 => ?_
  refine sv_pfG C hin G22 (z := ((q19 : Int) + 1)) (k := 2) (by decide +kernel) rfl (r := (RX11, TX11, 47)) rfl (by decide) rfl nw_fl_X11_54 rfl (by show (0 : Int) ≤ _; omega) (by decide) (by decide) ⟨Or.inr ⟨q19, rfl, hq24⟩, trivial⟩ fun G26 => ?_
  generalize eσ27 : (sv_up σ21 a 2 ((q19 : Int) + 1)) = σ27 at G26 ⊢
  clear eσ27
  refine sv_go C.1 C.2.1 [(.aload_n 0, 1), (.iconst 5, 1)] (pc' := 27) (by decide +kernel) rfl (lv' := [(0, sv_r a)]) (st' := [sv_i 5, sv_r a]) rfl ?_
  refine sv_newaG C J G26 (Kq := 63) (N := 5) (t := .int) (atype := .int) (by decide +kernel) rfl (by simp) rfl rfl (by decide) nw_a_int (by decide) (fun _ => rfl) (Nat.le_of_ble_eq_true rfl) (Nat.le_of_ble_eq_true rfl) fun q28 ty29 σ30 G31 h032 hq33 hk34 => ?_
  refine sv_pfG C hin G31 (z := ((q28 : Int) + 1)) (k := 3) (by decide +kernel) rfl (r := (RX11, TX11, 47)) rfl (by decide) rfl nw_fl_X11_57 rfl (by show (0 : Int) ≤ _; omega) (by decide) (by decide) ⟨Or.inr ⟨q28, rfl, hq33⟩, trivial⟩ fun G35 => ?_
  generalize eσ36 : (sv_up σ30 a 3 ((q28 : Int) + 1)) = σ36 at G35 ⊢
  clear eσ36
  refine sv_go C.1 C.2.1 [(.aload_n 0, 1), (.bipush 45, 2)] (pc' := 35) (by decide +kernel) rfl (lv' := [(0, sv_r a)]) (st' := [sv_i 45, sv_r a]) rfl ?_
  refine sv_newaG C J G35 (Kq := 64) (N := 45) (t := .int) (atype := .int) (by decide +kernel) rfl (by simp) rfl rfl (by decide) nw_a_int (by decide) (fun _ => rfl) (Nat.le_of_ble_eq_true rfl) (Nat.le_of_ble_eq_true rfl) fun q37 ty38 σ39 G40 h041 hq42 hk43 => ?_
  refine sv_pfG C hin G40 (z := ((q37 : Int) + 1)) (k := 4) (by decide +kernel) rfl (r := (RX11, TX11, 47)) rfl (by decide) rfl nw_fl_X11_60 rfl (by show (0 : Int) ≤ _; omega) (by decide) (by decide) ⟨Or.inr ⟨q37, rfl, hq42⟩, trivial⟩ fun G44 => ?_
  generalize eσ45 : (sv_up σ39 a 4 ((q37 : Int) + 1)) = σ45 at G44 ⊢
  clear eσ45
  refine sv_go C.1 C.2.1 [(.aload_n 0, 1), (.sipush 300, 3)] (pc' := 44) (by decide +kernel) rfl (lv' := [(0, sv_r a)]) (st' := [sv_i 300, sv_r a]) rfl ?_
  refine sv_newaG C J G44 (Kq := 65) (N := 300) (t := .int) (atype := .int) (by decide +kernel) rfl (by simp) rfl rfl (by decide) nw_a_int (by decide) (fun _ => rfl) (Nat.le_of_ble_eq_true rfl) (Nat.le_of_ble_eq_true rfl) fun q46 ty47 σ48 G49 h050 hq51 hk52 => ?_
  refine sv_pfG C hin G49 (z := ((q46 : Int) + 1)) (k := 5) (by decide +kernel) rfl (r := (RX11, TX11, 47)) rfl (by decide) rfl nw_fl_X11_63 rfl (by show (0 : Int) ≤ _; omega) (by decide) (by decide) ⟨Or.inr ⟨q46, rfl, hq51⟩, trivial⟩ fun G53 => ?_
  generalize eσ54 : (sv_up σ48 a 5 ((q46 : Int) + 1)) = σ54 at G53 ⊢
  clear eσ54
  refine sv_go C.1 C.2.1 [(.aload_n 0, 1), (.sipush 300, 3)] (pc' := 53) (by decide +kernel) rfl (lv' := [(0, sv_r a)]) (st' := [sv_i 300, sv_r a]) rfl ?_
  refine sv_newaG C J G53 (Kq := 66) (N := 300) (t := .int) (atype := .int) (by decide +kernel) rfl (by simp) rfl rfl (by decide) nw_a_int (by decide) (fun _ => rfl) (Nat.le_of_ble_eq_true rfl) (Nat.le_of_ble_eq_true rfl) fun q55 ty56 σ57 G58 h059 hq60 hk61 => ?_
  refine sv_pfG C hin G58 (z := ((q55 : Int) + 1)) (k := 6) (by decide +kernel) rfl (r := (RX11, TX11, 47)) rfl (by decide) rfl nw_fl_X11_66 rfl (by show (0 : Int) ≤ _; omega) (by decide) (by decide) ⟨Or.inr ⟨q55, rfl, hq60⟩, trivial⟩ fun G62 => ?_
  generalize eσ63 : (sv_up σ57 a 6 ((q55 : Int) + 1)) = σ63 at G62 ⊢
  clear eσ63
  refine sv_go C.1 C.2.1 [(.aload_n 0, 1), (.sipush 300, 3)] (pc' := 62) (by decide +kernel) rfl (lv' := [(0, sv_r a)]) (st' := [sv_i 300, sv_r a]) rfl ?_
  refine sv_newaG C J G62 (Kq := 67) (N := 300) (t := .int) (atype := .int) (by decide +kernel) rfl (by simp) rfl rfl (by decide) nw_a_int (by decide) (fun _ => rfl) (Nat.le_of_ble_eq_true rfl) (Nat.le_of_ble_eq_true rfl) fun q64 ty65 σ66 G67 h068 hq69 hk70 => ?_
  refine sv_pfG C hin G67 (z := ((q64 : Int) + 1)) (k := 7) (by decide +kernel) rfl (r := (RX11, TX11, 47)) rfl (by decide) rfl nw_fl_X11_69 rfl (by show (0 : Int) ≤ _; omega) (by decide) (by decide) ⟨Or.inr ⟨q64, rfl, hq69⟩, trivial⟩ fun G71 => ?_
  generalize eσ72 : (sv_up σ66 a 7 ((q64 : Int) + 1)) = σ72 at G71 ⊢
  clear eσ72
  refine sv_go C.1 C.2.1 [(.aload_n 0, 1), (.sipush 300, 3)] (pc' := 71) (by decide +kernel) rfl (lv' := [(0, sv_r a)]) (st' := [sv_i 300, sv_r a]) rfl ?_
  refine sv_newaG C J G71 (Kq := 68) (N := 300) (t := .int) (atype := .int) (by decide +kernel) rfl (by simp) rfl rfl (by decide) nw_a_int (by decide) (fun _ => rfl) (Nat.le_of_ble_eq_true rfl) (Nat.le_of_ble_eq_true rfl) fun q73 ty74 σ75 G76 h077 hq78 hk79 => ?_
  refine sv_pfG C hin G76 (z := ((q73 : Int) + 1)) (k := 8) (by decide +kernel) rfl (r := (RX11, TX11, 47)) rfl (by decide) rfl nw_fl_X11_72 rfl (by show (0 : Int) ≤ _; omega) (by decide) (by decide) ⟨Or.inr ⟨q73, rfl, hq78⟩, trivial⟩ fun G80 => ?_
  generalize eσ81 : (sv_up σ75 a 8 ((q73 : Int) + 1)) = σ81 at G80 ⊢
  clear eσ81
  refine sv_go C.1 C.2.1 [(.aload_n 0, 1), (.sipush 300, 3)] (pc' := 80) (by decide +kernel) rfl (lv' := [(0, sv_r a)]) (st' := [sv_i 300, sv_r a]) rfl ?_
  refine sv_newaG C J G80 (Kq := 69) (N := 300) (t := .int) (atype := .int) (by decide +kernel) rfl (by simp) rfl rfl (by decide) nw_a_int (by decide) (fun _ => rfl) (Nat.le_of_ble_eq_true rfl) (Nat.le_of_ble_eq_true rfl) fun q82 ty83 σ84 G85 h086 hq87 hk88 => ?_
  refine sv_pfG C hin G85 (z := ((q82 : Int) + 1)) (k := 9) (by decide +kernel) rfl (r := (RX11, TX11, 47)) rfl (by decide) rfl nw_fl_X11_75 rfl (by show (0 : Int) ≤ _; omega) (by decide) (by decide) ⟨Or.inr ⟨q82, rfl, hq87⟩, trivial⟩ fun G89 => ?_
  generalize eσ90 : (sv_up σ84 a 9 ((q82 : Int) + 1)) = σ90 at G89 ⊢
  clear eσ90
  refine sv_go C.1 C.2.1 [(.aload_n 0, 1), (.sipush 300, 3)] (pc' := 89) (by decide +kernel) rfl (lv' := [(0, sv_r a)]) (st' := [sv_i 300, sv_r a]) rfl ?_
  refine sv_newaG C J G89 (Kq := 70) (N := 300) (t := .int) (atype := .int) (by decide +kernel) rfl (by simp) rfl rfl (by decide) nw_a_int (by decide) (fun _ => rfl) (Nat.le_of_ble_eq_true rfl) (Nat.le_of_ble_eq_true rfl) fun q91 ty92 σ93 G94 h095 hq96 hk97 => ?_
  refine sv_pfG C hin G94 (z := ((q91 : Int) + 1)) (k := 10) (by decide +kernel) rfl (r := (RX11, TX11, 47)) rfl (by decide) rfl nw_fl_X11_78 rfl (by show (0 : Int) ≤ _; omega) (by decide) (by decide) ⟨Or.inr ⟨q91, rfl, hq96⟩, trivial⟩ fun G98 => ?_
  generalize eσ99 : (sv_up σ93 a 10 ((q91 : Int) + 1)) = σ99 at G98 ⊢
  clear eσ99
  refine sv_go C.1 C.2.1 [(.aload_n 0, 1), (.sipush 300, 3)] (pc' := 98) (by decide +kernel) rfl (lv' := [(0, sv_r a)]) (st' := [sv_i 300, sv_r a]) rfl ?_
  refine sv_newaG C J G98 (Kq := 71) (N := 300) (t := .int) (atype := .int) (by decide +kernel) rfl (by simp) rfl rfl (by decide) nw_a_int (by decide) (fun _ => rfl) (Nat.le_of_ble_eq_true rfl) (Nat.le_of_ble_eq_true rfl) fun q100 ty101 σ102 G103 h0104 hq105 hk106 => ?_
  refine sv_pfG C hin G103 (z := ((q100 : Int) + 1)) (k := 11) (by decide +kernel) rfl (r := (RX11, TX11, 47)) rfl (by decide) rfl nw_fl_X11_81 rfl (by show (0 : Int) ≤ _; omega) (by decide) (by decide) ⟨Or.inr ⟨q100, rfl, hq105⟩, trivial⟩ fun G107 => ?_
  generalize eσ108 : (sv_up σ102 a 11 ((q100 : Int) + 1)) = σ108 at G107 ⊢
  clear eσ108
  refine sv_go C.1 C.2.1 [(.aload_n 0, 1), (.sipush 300, 3)] (pc' := 107) (by decide +kernel) rfl (lv' := [(0, sv_r a)]) (st' := [sv_i 300, sv_r a]) rfl ?_
  refine sv_newaG C J G107 (Kq := 72) (N := 300) (t := .boolean) (atype := .boolean) (by decide +kernel) rfl (by simp) rfl rfl (by decide) nw_a_boolean (by decide) (fun _ => rfl) (Nat.le_of_ble_eq_true rfl) (Nat.le_of_ble_eq_true rfl) fun q109 ty110 σ111 G112 h0113 hq114 hk115 => ?_
  refine sv_pfG C hin G112 (z := ((q109 : Int) + 1)) (k := 12) (by decide +kernel) rfl (r := (RX11, TX11, 47)) rfl (by decide) rfl nw_fl_X11_84 rfl (by show (0 : Int) ≤ _; omega) (by decide) (by decide) ⟨Or.inr ⟨q109, rfl, hq114⟩, trivial⟩ fun G116 => ?_
  generalize eσ117 : (sv_up σ111 a 12 ((q109 : Int) + 1)) = σ117 at G116 ⊢
  clear eσ117
  refine sv_go C.1 C.2.1 [(.aload_n 0, 1), (.sipush 300, 3)] (pc' := 116) (by decide +kernel) rfl (lv' := [(0, sv_r a)]) (st' := [sv_i 300, sv_r a]) rfl ?_
  refine sv_newaG C J G116 (Kq := 73) (N := 300) (t := .boolean) (atype := .boolean) (by decide +kernel) rfl (by simp) rfl rfl (by decide) nw_a_boolean (by decide) (fun _ => rfl) (Nat.le_of_ble_eq_true rfl) (Nat.le_of_ble_eq_true rfl) fun q118 ty119 σ120 G121 h0122 hq123 hk124 => ?_
  refine sv_pfG C hin G121 (z := ((q118 : Int) + 1)) (k := 13) (by decide +kernel) rfl (r := (RX11, TX11, 47)) rfl (by decide) rfl nw_fl_X11_88 rfl (by show (0 : Int) ≤ _; omega) (by decide) (by decide) ⟨Or.inr ⟨q118, rfl, hq123⟩, trivial⟩ fun G125 => ?_
  generalize eσ126 : (sv_up σ120 a 13 ((q118 : Int) + 1)) = σ126 at G125 ⊢
  clear eσ126
  refine sv_go C.1 C.2.1 [(.aload_n 0, 1), (.sipush 3600, 3)] (pc' := 125) (by decide +kernel) rfl (lv' := [(0, sv_r a)]) (st' := [sv_i 3600, sv_r a]) rfl ?_
  refine sv_newaG C J G125 (Kq := 74) (N := 3600) (t := .byte) (atype := .byte) (by decide +kernel) rfl (by simp) rfl rfl (by decide) nw_a_byte (by decide) (fun _ => rfl) (Nat.le_of_ble_eq_true rfl) (Nat.le_of_ble_eq_true rfl) fun q127 ty128 σ129 G130 h0131 hq132 hk133 => ?_
  refine sv_pfG C hin G130 (z := ((q127 : Int) + 1)) (k := 14) (by decide +kernel) rfl (r := (RX11, TX11, 47)) rfl (by decide) rfl nw_fl_X11_91 rfl (by show (0 : Int) ≤ _; omega) (by decide) (by decide) ⟨Or.inr ⟨q127, rfl, hq132⟩, trivial⟩ fun G134 => ?_
  generalize eσ135 : (sv_up σ129 a 14 ((q127 : Int) + 1)) = σ135 at G134 ⊢
  clear eσ135
  refine sv_go C.1 C.2.1 [(.aload_n 0, 1)] (pc' := 131) (by decide +kernel) rfl (lv' := [(0, sv_r a)]) (st' := [sv_r a]) rfl ?_
  refine sv_ninit C J G134 (Kq := 11) (mc := 0) (ms := 0) (NF := 6) (r := (RX10, TX10, 6)) rfl (by decide +kernel) (by decide +kernel) rfl rfl nw_kl_X11_95 nw_ns_X10 nw_in_X10 (by decide) (Nat.le_of_ble_eq_true rfl) (Nat.le_of_ble_eq_true rfl) (fun q ty1 σ1 t1 t2 t3 t4 kk => ?_) fun q136 ty137 σ138 G139 hq140 hk141 => ?_
  · exact sv_ci C J (a := q) (as := []) (k := 0) (by decide +kernel) (ct_X10_init l g A q ty1 σ1 t1 t2 t3 t4) ⟨nw_co_X10_init, nw_in_X10, by decide +kernel, by decide, by decide⟩ nw_ml_X11_97 nw_im_X10_init rfl rfl rfl (Nat.le_of_ble_eq_true rfl) ⟨(Nat.le_of_ble_eq_true rfl), (Nat.le_of_ble_eq_true rfl)⟩ kk
  refine sv_pfG C hin G139 (z := ((q136 : Int) + 1)) (k := 15) (by decide +kernel) rfl (r := (RX11, TX11, 47)) rfl (by decide) rfl nw_fl_X11_98 rfl (by show (0 : Int) ≤ _; omega) (by decide) (by decide) ⟨Or.inr ⟨q136, rfl, hq140⟩, trivial⟩ fun G142 => ?_
  generalize eσ143 : (sv_up σ138 a 15 ((q136 : Int) + 1)) = σ143 at G142 ⊢
  clear eσ143
  refine sv_go C.1 C.2.1 [(.aload_n 0, 1), (.sipush 4000, 3)] (pc' := 145) (by decide +kernel) rfl (lv' := [(0, sv_r a)]) (st' := [sv_i 4000, sv_r a]) rfl ?_
  refine sv_newaG C J G142 (Kq := 76) (N := 4000) (t := .byte) (atype := .byte) (by decide +kernel) rfl (by simp) rfl rfl (by decide) nw_a_byte (by decide) (fun _ => rfl) (Nat.le_of_ble_eq_true rfl) (Nat.le_of_ble_eq_true rfl) fun q144 ty145 σ146 G147 h0148 hq149 hk150 => ?_
  refine sv_pfG C hin G147 (z := ((q144 : Int) + 1)) (k := 16) (by decide +kernel) rfl (r := (RX11, TX11, 47)) rfl (by decide) rfl nw_fl_X11_102 rfl (by show (0 : Int) ≤ _; omega) (by decide) (by decide) ⟨Or.inr ⟨q144, rfl, hq149⟩, trivial⟩ fun G151 => ?_
  generalize eσ152 : (sv_up σ146 a 16 ((q144 : Int) + 1)) = σ152 at G151 ⊢
  clear eσ152
  refine sv_go C.1 C.2.1 [(.aload_n 0, 1), (.iconst (-1), 1)] (pc' := 152) (by decide +kernel) rfl (lv' := [(0, sv_r a)]) (st' := [sv_i ((-1)), sv_r a]) rfl ?_
  refine sv_pfG C hin G151 (z := ((-1))) (k := 24) (by decide +kernel) rfl (r := (RX11, TX11, 47)) rfl (by decide) rfl nw_fl_X11_105 rfl ⟨by decide, by decide⟩ (by decide) (by decide) ⟨by first | exact trivial | exact ⟨by decide, by decide⟩, by first | exact trivial | exact ⟨by decide, by decide⟩⟩ fun G153 => ?_
  generalize eσ154 : (sv_up σ152 a 24 ((-1))) = σ154 at G153 ⊢
  clear eσ154
  refine sv_go C.1 C.2.1 [(.aload_n 0, 1), (.bipush 9, 2)] (pc' := 158) (by decide +kernel) rfl (lv' := [(0, sv_r a)]) (st' := [sv_i 9, sv_r a]) rfl ?_
  refine sv_newaG C J G153 (Kq := 87) (N := 9) (t := .boolean) (atype := .boolean) (by decide +kernel) rfl (by simp) rfl rfl (by decide) nw_a_boolean (by decide) (fun _ => rfl) (Nat.le_of_ble_eq_true rfl) (Nat.le_of_ble_eq_true rfl) fun q155 ty156 σ157 G158 h0159 hq160 hk161 => ?_
  refine sv_pfG C hin G158 (z := ((q155 : Int) + 1)) (k := 27) (by decide +kernel) rfl (r := (RX11, TX11, 47)) rfl (by decide) rfl nw_fl_X11_109 rfl (by show (0 : Int) ≤ _; omega) (by decide) (by decide) ⟨Or.inr ⟨q155, rfl, hq160⟩, trivial⟩ fun G162 => ?_
  generalize eσ163 : (sv_up σ157 a 27 ((q155 : Int) + 1)) = σ163 at G162 ⊢
  clear eσ163
  refine sv_go C.1 C.2.1 [(.aload_n 0, 1), (.bipush 60, 2)] (pc' := 166) (by decide +kernel) rfl (lv' := [(0, sv_r a)]) (st' := [sv_i 60, sv_r a]) rfl ?_
  refine sv_newaG C J G162 (Kq := 88) (N := 60) (t := .int) (atype := .int) (by decide +kernel) rfl (by simp) rfl rfl (by decide) nw_a_int (by decide) (fun _ => rfl) (Nat.le_of_ble_eq_true rfl) (Nat.le_of_ble_eq_true rfl) fun q164 ty165 σ166 G167 h0168 hq169 hk170 => ?_
  refine sv_pfG C hin G167 (z := ((q164 : Int) + 1)) (k := 28) (by decide +kernel) rfl (r := (RX11, TX11, 47)) rfl (by decide) rfl nw_fl_X11_112 rfl (by show (0 : Int) ≤ _; omega) (by decide) (by decide) ⟨Or.inr ⟨q164, rfl, hq169⟩, trivial⟩ fun G171 => ?_
  generalize eσ172 : (sv_up σ166 a 28 ((q164 : Int) + 1)) = σ172 at G171 ⊢
  clear eσ172
  refine sv_go C.1 C.2.1 [(.aload_n 0, 1), (.bipush 60, 2)] (pc' := 174) (by decide +kernel) rfl (lv' := [(0, sv_r a)]) (st' := [sv_i 60, sv_r a]) rfl ?_
  refine sv_newaG C J G171 (Kq := 89) (N := 60) (t := .int) (atype := .int) (by decide +kernel) rfl (by simp) rfl rfl (by decide) nw_a_int (by decide) (fun _ => rfl) (Nat.le_of_ble_eq_true rfl) (Nat.le_of_ble_eq_true rfl) fun q173 ty174 σ175 G176 h0177 hq178 hk179 => ?_
  refine sv_pfG C hin G176 (z := ((q173 : Int) + 1)) (k := 29) (by decide +kernel) rfl (r := (RX11, TX11, 47)) rfl (by decide) rfl nw_fl_X11_115 rfl (by show (0 : Int) ≤ _; omega) (by decide) (by decide) ⟨Or.inr ⟨q173, rfl, hq178⟩, trivial⟩ fun G180 => ?_
  generalize eσ181 : (sv_up σ175 a 29 ((q173 : Int) + 1)) = σ181 at G180 ⊢
  clear eσ181
  refine sv_go C.1 C.2.1 [(.aload_n 0, 1), (.bipush 60, 2)] (pc' := 182) (by decide +kernel) rfl (lv' := [(0, sv_r a)]) (st' := [sv_i 60, sv_r a]) rfl ?_
  refine sv_newaG C J G180 (Kq := 90) (N := 60) (t := .int) (atype := .int) (by decide +kernel) rfl (by simp) rfl rfl (by decide) nw_a_int (by decide) (fun _ => rfl) (Nat.le_of_ble_eq_true rfl) (Nat.le_of_ble_eq_true rfl) fun q182 ty183 σ184 G185 h0186 hq187 hk188 => ?_
  refine sv_pfG C hin G185 (z := ((q182 : Int) + 1)) (k := 30) (by decide +kernel) rfl (r := (RX11, TX11, 47)) rfl (by decide) rfl nw_fl_X11_118 rfl (by show (0 : Int) ≤ _; omega) (by decide) (by decide) ⟨Or.inr ⟨q182, rfl, hq187⟩, trivial⟩ fun G189 => ?_
  generalize eσ190 : (sv_up σ184 a 30 ((q182 : Int) + 1)) = σ190 at G189 ⊢
  clear eσ190
  refine sv_go C.1 C.2.1 [(.aload_n 0, 1), (.sipush 366, 3)] (pc' := 191) (by decide +kernel) rfl (lv' := [(0, sv_r a)]) (st' := [sv_i 366, sv_r a]) rfl ?_
  refine sv_newaG C J G189 (Kq := 91) (N := 366) (t := .int) (atype := .int) (by decide +kernel) rfl (by simp) rfl rfl (by decide) nw_a_int (by decide) (fun _ => rfl) (Nat.le_of_ble_eq_true rfl) (Nat.le_of_ble_eq_true rfl) fun q191 ty192 σ193 G194 h0195 hq196 hk197 => ?_
  refine sv_pfG C hin G194 (z := ((q191 : Int) + 1)) (k := 31) (by decide +kernel) rfl (r := (RX11, TX11, 47)) rfl (by decide) rfl nw_fl_X11_121 rfl (by show (0 : Int) ≤ _; omega) (by decide) (by decide) ⟨Or.inr ⟨q191, rfl, hq196⟩, trivial⟩ fun G198 => ?_
  generalize eσ199 : (sv_up σ193 a 31 ((q191 : Int) + 1)) = σ199 at G198 ⊢
  clear eσ199
  refine sv_go C.1 C.2.1 [(.aload_n 0, 1), (.sipush 366, 3)] (pc' := 200) (by decide +kernel) rfl (lv' := [(0, sv_r a)]) (st' := [sv_i 366, sv_r a]) rfl ?_
  refine sv_newaG C J G198 (Kq := 92) (N := 366) (t := .int) (atype := .int) (by decide +kernel) rfl (by simp) rfl rfl (by decide) nw_a_int (by decide) (fun _ => rfl) (Nat.le_of_ble_eq_true rfl) (Nat.le_of_ble_eq_true rfl) fun q200 ty201 σ202 G203 h0204 hq205 hk206 => ?_
  refine sv_pfG C hin G203 (z := ((q200 : Int) + 1)) (k := 32) (by decide +kernel) rfl (r := (RX11, TX11, 47)) rfl (by decide) rfl nw_fl_X11_124 rfl (by show (0 : Int) ≤ _; omega) (by decide) (by decide) ⟨Or.inr ⟨q200, rfl, hq205⟩, trivial⟩ fun G207 => ?_
  generalize eσ208 : (sv_up σ202 a 32 ((q200 : Int) + 1)) = σ208 at G207 ⊢
  clear eσ208
  refine sv_go C.1 C.2.1 [(.aload_n 0, 1), (.bipush 100, 2)] (pc' := 208) (by decide +kernel) rfl (lv' := [(0, sv_r a)]) (st' := [sv_i 100, sv_r a]) rfl ?_
  refine sv_newaG C J G207 (Kq := 93) (N := 100) (t := .boolean) (atype := .boolean) (by decide +kernel) rfl (by simp) rfl rfl (by decide) nw_a_boolean (by decide) (fun _ => rfl) (Nat.le_of_ble_eq_true rfl) (Nat.le_of_ble_eq_true rfl) fun q209 ty210 σ211 G212 h0213 hq214 hk215 => ?_
  refine sv_pfG C hin G212 (z := ((q209 : Int) + 1)) (k := 33) (by decide +kernel) rfl (r := (RX11, TX11, 47)) rfl (by decide) rfl nw_fl_X11_127 rfl (by show (0 : Int) ≤ _; omega) (by decide) (by decide) ⟨Or.inr ⟨q209, rfl, hq214⟩, trivial⟩ fun G216 => ?_
  generalize eσ217 : (sv_up σ211 a 33 ((q209 : Int) + 1)) = σ217 at G216 ⊢
  clear eσ217
  refine sv_go C.1 C.2.1 [(.aload_n 0, 1), (.sipush 600, 3)] (pc' := 217) (by decide +kernel) rfl (lv' := [(0, sv_r a)]) (st' := [sv_i 600, sv_r a]) rfl ?_
  refine sv_newaG C J G216 (Kq := 94) (N := 600) (t := .int) (atype := .int) (by decide +kernel) rfl (by simp) rfl rfl (by decide) nw_a_int (by decide) (fun _ => rfl) (Nat.le_of_ble_eq_true rfl) (Nat.le_of_ble_eq_true rfl) fun q218 ty219 σ220 G221 h0222 hq223 hk224 => ?_
  refine sv_pfG C hin G221 (z := ((q218 : Int) + 1)) (k := 34) (by decide +kernel) rfl (r := (RX11, TX11, 47)) rfl (by decide) rfl nw_fl_X11_130 rfl (by show (0 : Int) ≤ _; omega) (by decide) (by decide) ⟨Or.inr ⟨q218, rfl, hq223⟩, trivial⟩ fun G225 => ?_
  generalize eσ226 : (sv_up σ220 a 34 ((q218 : Int) + 1)) = σ226 at G225 ⊢
  clear eσ226
  refine sv_go C.1 C.2.1 [(.aload_n 0, 1), (.sipush 600, 3)] (pc' := 226) (by decide +kernel) rfl (lv' := [(0, sv_r a)]) (st' := [sv_i 600, sv_r a]) rfl ?_
  refine sv_newaG C J G225 (Kq := 95) (N := 600) (t := .int) (atype := .int) (by decide +kernel) rfl (by simp) rfl rfl (by decide) nw_a_int (by decide) (fun _ => rfl) (Nat.le_of_ble_eq_true rfl) (Nat.le_of_ble_eq_true rfl) fun q227 ty228 σ229 G230 h0231 hq232 hk233 => ?_
  refine sv_pfG C hin G230 (z := ((q227 : Int) + 1)) (k := 35) (by decide +kernel) rfl (r := (RX11, TX11, 47)) rfl (by decide) rfl nw_fl_X11_133 rfl (by show (0 : Int) ≤ _; omega) (by decide) (by decide) ⟨Or.inr ⟨q227, rfl, hq232⟩, trivial⟩ fun G234 => ?_
  generalize eσ235 : (sv_up σ229 a 35 ((q227 : Int) + 1)) = σ235 at G234 ⊢
  clear eσ235
  refine sv_go C.1 C.2.1 [(.aload_n 0, 1), (.sipush 600, 3)] (pc' := 235) (by decide +kernel) rfl (lv' := [(0, sv_r a)]) (st' := [sv_i 600, sv_r a]) rfl ?_
  refine sv_newaG C J G234 (Kq := 96) (N := 600) (t := .int) (atype := .int) (by decide +kernel) rfl (by simp) rfl rfl (by decide) nw_a_int (by decide) (fun _ => rfl) (Nat.le_of_ble_eq_true rfl) (Nat.le_of_ble_eq_true rfl) fun q236 ty237 σ238 G239 h0240 hq241 hk242 => ?_
  refine sv_pfG C hin G239 (z := ((q236 : Int) + 1)) (k := 36) (by decide +kernel) rfl (r := (RX11, TX11, 47)) rfl (by decide) rfl nw_fl_X11_136 rfl (by show (0 : Int) ≤ _; omega) (by decide) (by decide) ⟨Or.inr ⟨q236, rfl, hq241⟩, trivial⟩ fun G243 => ?_
  generalize eσ244 : (sv_up σ238 a 36 ((q236 : Int) + 1)) = σ244 at G243 ⊢
  clear eσ244
  refine sv_go C.1 C.2.1 [(.aload_n 0, 1), (.sipush 600, 3)] (pc' := 244) (by decide +kernel) rfl (lv' := [(0, sv_r a)]) (st' := [sv_i 600, sv_r a]) rfl ?_
  refine sv_newaG C J G243 (Kq := 97) (N := 600) (t := .int) (atype := .int) (by decide +kernel) rfl (by simp) rfl rfl (by decide) nw_a_int (by decide) (fun _ => rfl) (Nat.le_of_ble_eq_true rfl) (Nat.le_of_ble_eq_true rfl) fun q245 ty246 σ247 G248 h0249 hq250 hk251 => ?_
  refine sv_pfG C hin G248 (z := ((q245 : Int) + 1)) (k := 37) (by decide +kernel) rfl (r := (RX11, TX11, 47)) rfl (by decide) rfl nw_fl_X11_139 rfl (by show (0 : Int) ≤ _; omega) (by decide) (by decide) ⟨Or.inr ⟨q245, rfl, hq250⟩, trivial⟩ fun G252 => ?_
  generalize eσ253 : (sv_up σ247 a 37 ((q245 : Int) + 1)) = σ253 at G252 ⊢
  clear eσ253
  refine sv_go C.1 C.2.1 [(.aload_n 0, 1), (.bipush 10, 2)] (pc' := 252) (by decide +kernel) rfl (lv' := [(0, sv_r a)]) (st' := [sv_i 10, sv_r a]) rfl ?_
  refine sv_newaG C J G252 (Kq := 98) (N := 10) (t := .int) (atype := .int) (by decide +kernel) rfl (by simp) rfl rfl (by decide) nw_a_int (by decide) (fun _ => rfl) (Nat.le_of_ble_eq_true rfl) (Nat.le_of_ble_eq_true rfl) fun q254 ty255 σ256 G257 h0258 hq259 hk260 => ?_
  refine sv_pfG C hin G257 (z := ((q254 : Int) + 1)) (k := 38) (by decide +kernel) rfl (r := (RX11, TX11, 47)) rfl (by decide) rfl nw_fl_X11_142 rfl (by show (0 : Int) ≤ _; omega) (by decide) (by decide) ⟨Or.inr ⟨q254, rfl, hq259⟩, trivial⟩ fun G261 => ?_
  generalize eσ262 : (sv_up σ256 a 38 ((q254 : Int) + 1)) = σ262 at G261 ⊢
  clear eσ262
  refine sv_go C.1 C.2.1 [(.aload_n 0, 1), (.bipush 10, 2)] (pc' := 260) (by decide +kernel) rfl (lv' := [(0, sv_r a)]) (st' := [sv_i 10, sv_r a]) rfl ?_
  refine sv_newaG C J G261 (Kq := 99) (N := 10) (t := .int) (atype := .int) (by decide +kernel) rfl (by simp) rfl rfl (by decide) nw_a_int (by decide) (fun _ => rfl) (Nat.le_of_ble_eq_true rfl) (Nat.le_of_ble_eq_true rfl) fun q263 ty264 σ265 G266 h0267 hq268 hk269 => ?_
  refine sv_pfG C hin G266 (z := ((q263 : Int) + 1)) (k := 39) (by decide +kernel) rfl (r := (RX11, TX11, 47)) rfl (by decide) rfl nw_fl_X11_145 rfl (by show (0 : Int) ≤ _; omega) (by decide) (by decide) ⟨Or.inr ⟨q263, rfl, hq268⟩, trivial⟩ fun G270 => ?_
  generalize eσ271 : (sv_up σ265 a 39 ((q263 : Int) + 1)) = σ271 at G270 ⊢
  clear eσ271
  refine sv_go C.1 C.2.1 [(.aload_n 0, 1), (.sipush 400, 3)] (pc' := 269) (by decide +kernel) rfl (lv' := [(0, sv_r a)]) (st' := [sv_i 400, sv_r a]) rfl ?_
  refine sv_newaG C J G270 (Kq := 101) (N := 400) (t := .int) (atype := .int) (by decide +kernel) rfl (by simp) rfl rfl (by decide) nw_a_int (by decide) (fun _ => rfl) (Nat.le_of_ble_eq_true rfl) (Nat.le_of_ble_eq_true rfl) fun q272 ty273 σ274 G275 h0276 hq277 hk278 => ?_
  refine sv_pfG C hin G275 (z := ((q272 : Int) + 1)) (k := 41) (by decide +kernel) rfl (r := (RX11, TX11, 47)) rfl (by decide) rfl nw_fl_X11_148 rfl (by show (0 : Int) ≤ _; omega) (by decide) (by decide) ⟨Or.inr ⟨q272, rfl, hq277⟩, trivial⟩ fun G279 => ?_
  generalize eσ280 : (sv_up σ274 a 41 ((q272 : Int) + 1)) = σ280 at G279 ⊢
  clear eσ280
  refine sv_go C.1 C.2.1 [(.aload_n 0, 1), (.bipush 12, 2)] (pc' := 277) (by decide +kernel) rfl (lv' := [(0, sv_r a)]) (st' := [sv_i 12, sv_r a]) rfl ?_
  refine sv_newaG C J G279 (Kq := 102) (N := 12) (t := .int) (atype := .int) (by decide +kernel) rfl (by simp) rfl rfl (by decide) nw_a_int (by decide) (fun _ => rfl) (Nat.le_of_ble_eq_true rfl) (Nat.le_of_ble_eq_true rfl) fun q281 ty282 σ283 G284 h0285 hq286 hk287 => ?_
  refine sv_pfG C hin G284 (z := ((q281 : Int) + 1)) (k := 42) (by decide +kernel) rfl (r := (RX11, TX11, 47)) rfl (by decide) rfl nw_fl_X11_151 rfl (by show (0 : Int) ≤ _; omega) (by decide) (by decide) ⟨Or.inr ⟨q281, rfl, hq286⟩, trivial⟩ fun G288 => ?_
  generalize eσ289 : (sv_up σ283 a 42 ((q281 : Int) + 1)) = σ289 at G288 ⊢
  clear eσ289
  refine sv_go C.1 C.2.1 [(.aload_n 0, 1), (.bipush 12, 2)] (pc' := 285) (by decide +kernel) rfl (lv' := [(0, sv_r a)]) (st' := [sv_i 12, sv_r a]) rfl ?_
  refine sv_newaG C J G288 (Kq := 103) (N := 12) (t := .int) (atype := .int) (by decide +kernel) rfl (by simp) rfl rfl (by decide) nw_a_int (by decide) (fun _ => rfl) (Nat.le_of_ble_eq_true rfl) (Nat.le_of_ble_eq_true rfl) fun q290 ty291 σ292 G293 h0294 hq295 hk296 => ?_
  refine sv_pfG C hin G293 (z := ((q290 : Int) + 1)) (k := 43) (by decide +kernel) rfl (r := (RX11, TX11, 47)) rfl (by decide) rfl nw_fl_X11_154 rfl (by show (0 : Int) ≤ _; omega) (by decide) (by decide) ⟨Or.inr ⟨q290, rfl, hq295⟩, trivial⟩ fun G297 => ?_
  generalize eσ298 : (sv_up σ292 a 43 ((q290 : Int) + 1)) = σ298 at G297 ⊢
  clear eσ298
  refine sv_go C.1 C.2.1 [(.aload_n 0, 1), (.bipush 12, 2)] (pc' := 293) (by decide +kernel) rfl (lv' := [(0, sv_r a)]) (st' := [sv_i 12, sv_r a]) rfl ?_
  refine sv_newaG C J G297 (Kq := 104) (N := 12) (t := .int) (atype := .int) (by decide +kernel) rfl (by simp) rfl rfl (by decide) nw_a_int (by decide) (fun _ => rfl) (Nat.le_of_ble_eq_true rfl) (Nat.le_of_ble_eq_true rfl) fun q299 ty300 σ301 G302 h0303 hq304 hk305 => ?_
  refine sv_pfG C hin G302 (z := ((q299 : Int) + 1)) (k := 44) (by decide +kernel) rfl (r := (RX11, TX11, 47)) rfl (by decide) rfl nw_fl_X11_157 rfl (by show (0 : Int) ≤ _; omega) (by decide) (by decide) ⟨Or.inr ⟨q299, rfl, hq304⟩, trivial⟩ fun G306 => ?_
  generalize eσ307 : (sv_up σ301 a 44 ((q299 : Int) + 1)) = σ307 at G306 ⊢
  clear eσ307
  refine sv_go C.1 C.2.1 [(.aload_n 0, 1), (.sipush 144, 3)] (pc' := 302) (by decide +kernel) rfl (lv' := [(0, sv_r a)]) (st' := [sv_i 144, sv_r a]) rfl ?_
  refine sv_newaG C J G306 (Kq := 105) (N := 144) (t := .int) (atype := .int) (by decide +kernel) rfl (by simp) rfl rfl (by decide) nw_a_int (by decide) (fun _ => rfl) (Nat.le_of_ble_eq_true rfl) (Nat.le_of_ble_eq_true rfl) fun q308 ty309 σ310 G311 h0312 hq313 hk314 => ?_
  refine sv_pfG C hin G311 (z := ((q308 : Int) + 1)) (k := 45) (by decide +kernel) rfl (r := (RX11, TX11, 47)) rfl (by decide) rfl nw_fl_X11_160 rfl (by show (0 : Int) ≤ _; omega) (by decide) (by decide) ⟨Or.inr ⟨q308, rfl, hq313⟩, trivial⟩ fun G315 => ?_
  generalize eσ316 : (sv_up σ310 a 45 ((q308 : Int) + 1)) = σ316 at G315 ⊢
  clear eσ316
  refine sv_go C.1 C.2.1 [(.aload_n 0, 1), (.sipush 144, 3)] (pc' := 311) (by decide +kernel) rfl (lv' := [(0, sv_r a)]) (st' := [sv_i 144, sv_r a]) rfl ?_
  refine sv_newaG C J G315 (Kq := 106) (N := 144) (t := .int) (atype := .int) (by decide +kernel) rfl (by simp) rfl rfl (by decide) nw_a_int (by decide) (fun _ => rfl) (Nat.le_of_ble_eq_true rfl) (Nat.le_of_ble_eq_true rfl) fun q317 ty318 σ319 G320 h0321 hq322 hk323 => ?_
  refine sv_pfG C hin G320 (z := ((q317 : Int) + 1)) (k := 46) (by decide +kernel) rfl (r := (RX11, TX11, 47)) rfl (by decide) rfl nw_fl_X11_163 rfl (by show (0 : Int) ≤ _; omega) (by decide) (by decide) ⟨Or.inr ⟨q317, rfl, hq322⟩, trivial⟩ fun G324 => ?_
  generalize eσ325 : (sv_up σ319 a 46 ((q317 : Int) + 1)) = σ325 at G324 ⊢
  clear eσ325
  exact sv_nret C hr (by decide +kernel) rfl rfl (G324.done (sv_zend (by decide) sv_z10))
