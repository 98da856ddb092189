set_option maxRecDepth 100000 in
theorem ini_RL : Cond.initialized RL ∈ BIG := bg1 0 (by decide +kernel)
set_option maxRecDepth 100000 in
theorem ini_RX10 : Cond.initialized RX10 ∈ BIG := bg1 1 (by decide +kernel)
set_option maxRecDepth 100000 in
theorem ini_RX3 : Cond.initialized RX3 ∈ BIG := bg1 2 (by decide +kernel)
set_option maxRecDepth 100000 in
theorem ini_RX7 : Cond.initialized RX7 ∈ BIG := bg1 3 (by decide +kernel)
set_option maxRecDepth 100000 in
theorem ini_RX6 : Cond.initialized RX6 ∈ BIG := bg1 4 (by decide +kernel)
set_option maxRecDepth 100000 in
theorem ini_RX8 : Cond.initialized RX8 ∈ BIG := bg1 5 (by decide +kernel)
set_option maxRecDepth 100000 in
theorem ini_RX0 : Cond.initialized RX0 ∈ BIG := bg1 6 (by decide +kernel)
set_option maxRecDepth 100000 in
theorem ini_RX1 : Cond.initialized RX1 ∈ BIG := bg1 7 (by decide +kernel)
set_option maxRecDepth 100000 in
theorem ini_RX5 : Cond.initialized RX5 ∈ BIG := bg1 8 (by decide +kernel)
set_option maxRecDepth 100000 in
theorem ini_RX4 : Cond.initialized RX4 ∈ BIG := bg1 9 (by decide +kernel)
set_option maxRecDepth 100000 in
theorem ini_RX9 : Cond.initialized RX9 ∈ BIG := bg1 10 (by decide +kernel)
set_option maxRecDepth 100000 in
theorem ini_RX2 : Cond.initialized RX2 ∈ BIG := bg1 11 (by decide +kernel)
set_option maxRecDepth 100000 in
theorem ini_RX11 : Cond.initialized RX11 ∈ BIG := bg1 12 (by decide +kernel)
set_option maxRecDepth 100000 in
theorem ini_RJ0 : Cond.initialized RJ0 ∈ BIG := bg1 18 (by decide +kernel)
set_option maxRecDepth 100000 in
theorem ini_RJ1 : Cond.initialized RJ1 ∈ BIG := bg1 19 (by decide +kernel)
set_option maxRecDepth 100000 in
theorem ini_RJ3 : Cond.initialized RJ3 ∈ BIG := bg1 20 (by decide +kernel)
set_option maxRecDepth 100000 in
theorem ini_RJ2 : Cond.initialized RJ2 ∈ BIG := bg1 21 (by decide +kernel)
set_option maxRecDepth 100000 in
theorem ini_RJ9 : Cond.initialized RJ9 ∈ BIG := bg1 22 (by decide +kernel)
set_option maxRecDepth 100000 in
theorem ini_RJ10 : Cond.initialized RJ10 ∈ BIG := bg1 23 (by decide +kernel)
set_option maxRecDepth 100000 in
theorem ini_RJ6 : Cond.initialized RJ6 ∈ BIG := bg1 26 (by decide +kernel)
set_option maxRecDepth 100000 in
theorem clk_RL_8 : Cond.classLink RL 8 RX10 ∈ BIG := bg1 27 (by decide +kernel)
set_option maxRecDepth 100000 in
theorem ins_RX10 : Cond.instantiable RX10 8 ∈ BIG := bg1 28 (by decide +kernel)
set_option maxRecDepth 100000 in
theorem ml_RL_160 : Cond.methodLink RL 160 yX10_init ∈ BIG := bg1 29 (by decide +kernel)
set_option maxRecDepth 100000 in
theorem ml_RX10_3 : Cond.methodLink RX10 3 Lib.objectInit ∈ BIG := bg1 32 (by decide +kernel)
set_option maxRecDepth 100000 in
theorem clk_RX10_9 : Cond.classLink RX10 9 RX3 ∈ BIG := bg1 35 (by decide +kernel)
set_option maxRecDepth 100000 in
theorem ins_RX3 : Cond.instantiable RX3 2 ∈ BIG := bg1 36 (by decide +kernel)
set_option maxRecDepth 100000 in
theorem ml_RX10_11 : Cond.methodLink RX10 11 yX3_init ∈ BIG := bg1 37 (by decide +kernel)
set_option maxRecDepth 100000 in
theorem ml_RX3_3 : Cond.methodLink RX3 3 Lib.objectInit ∈ BIG := bg1 40 (by decide +kernel)
set_option maxRecDepth 100000 in
theorem fl_RX3_9 : Cond.fieldLink RX3 9 "PointsLedger$InputBuffer" "bytes" "[I" ∈ BIG := bg1 41 (by decide +kernel)
set_option maxRecDepth 100000 in
theorem fl_RX3_15 : Cond.fieldLink RX3 15 "PointsLedger$InputBuffer" "length" "I" ∈ BIG := bg1 42 (by decide +kernel)
set_option maxRecDepth 100000 in
theorem clk_RX10_16 : Cond.classLink RX10 16 RX7 ∈ BIG := bg1 49 (by decide +kernel)
set_option maxRecDepth 100000 in
theorem ins_RX7 : Cond.instantiable RX7 14 ∈ BIG := bg1 50 (by decide +kernel)
set_option maxRecDepth 100000 in
theorem ml_RX10_18 : Cond.methodLink RX10 18 yX7_init ∈ BIG := bg1 51 (by decide +kernel)
set_option maxRecDepth 100000 in
theorem ml_RX7_3 : Cond.methodLink RX7 3 Lib.objectInit ∈ BIG := bg1 54 (by decide +kernel)
set_option maxRecDepth 100000 in
theorem clk_RX7_9 : Cond.classLink RX7 9 RX6 ∈ BIG := bg1 55 (by decide +kernel)
set_option maxRecDepth 100000 in
theorem ins_RX6 : Cond.instantiable RX6 1 ∈ BIG := bg1 56 (by decide +kernel)
set_option maxRecDepth 100000 in
theorem ml_RX7_11 : Cond.methodLink RX7 11 yX6_init ∈ BIG := bg1 57 (by decide +kernel)
set_option maxRecDepth 100000 in
theorem ml_RX6_1 : Cond.methodLink RX6 1 Lib.objectInit ∈ BIG := bg1 60 (by decide +kernel)
set_option maxRecDepth 100000 in
theorem fl_RX6_7 : Cond.fieldLink RX6 7 "PointsLedger$Row" "cells" "[I" ∈ BIG := bg1 61 (by decide +kernel)
set_option maxRecDepth 100000 in
theorem ml_RX7_50 : Cond.methodLink RX7 50 yX7_clear ∈ BIG := bg1 65 (by decide +kernel)
set_option maxRecDepth 100000 in
theorem ml_RX7_56 : Cond.methodLink RX7 56 yX6_fill ∈ BIG := bg1 69 (by decide +kernel)
set_option maxRecDepth 100000 in
theorem ml_RX7_53 : Cond.methodLink RX7 53 yX7_finish ∈ BIG := bg1 73 (by decide +kernel)
set_option maxRecDepth 100000 in
theorem ml_RX7_69 : Cond.methodLink RX7 69 yX6_at ∈ BIG := bg1 77 (by decide +kernel)
set_option maxRecDepth 100000 in
theorem ml_RX7_73 : Cond.methodLink RX7 73 yX6_put ∈ BIG := bg1 81 (by decide +kernel)
set_option maxRecDepth 100000 in
theorem fl_RX7_14 : Cond.fieldLink RX7 14 "PointsLedger$Setup" "counts" "LPointsLedger$Row;" ∈ BIG := bg1 85 (by decide +kernel)
set_option maxRecDepth 100000 in
theorem fl_RX7_20 : Cond.fieldLink RX7 20 "PointsLedger$Setup" "names" "LPointsLedger$Row;" ∈ BIG := bg1 86 (by decide +kernel)
set_option maxRecDepth 100000 in
theorem fl_RX7_23 : Cond.fieldLink RX7 23 "PointsLedger$Setup" "thresholds" "LPointsLedger$Row;" ∈ BIG := bg1 87 (by decide +kernel)
set_option maxRecDepth 100000 in
theorem fl_RX7_26 : Cond.fieldLink RX7 26 "PointsLedger$Setup" "bonuses" "LPointsLedger$Row;" ∈ BIG := bg1 88 (by decide +kernel)
set_option maxRecDepth 100000 in
theorem fl_RX7_29 : Cond.fieldLink RX7 29 "PointsLedger$Setup" "rates" "LPointsLedger$Row;" ∈ BIG := bg1 89 (by decide +kernel)
set_option maxRecDepth 100000 in
theorem fl_RX7_32 : Cond.fieldLink RX7 32 "PointsLedger$Setup" "caps" "LPointsLedger$Row;" ∈ BIG := bg1 90 (by decide +kernel)
set_option maxRecDepth 100000 in
theorem fl_RX7_35 : Cond.fieldLink RX7 35 "PointsLedger$Setup" "promoCategories" "LPointsLedger$Row;" ∈ BIG := bg1 91 (by decide +kernel)
set_option maxRecDepth 100000 in
theorem fl_RX7_38 : Cond.fieldLink RX7 38 "PointsLedger$Setup" "promoFirstDays" "LPointsLedger$Row;" ∈ BIG := bg1 92 (by decide +kernel)
set_option maxRecDepth 100000 in
theorem fl_RX7_41 : Cond.fieldLink RX7 41 "PointsLedger$Setup" "promoLastDays" "LPointsLedger$Row;" ∈ BIG := bg1 93 (by decide +kernel)
set_option maxRecDepth 100000 in
theorem fl_RX7_44 : Cond.fieldLink RX7 44 "PointsLedger$Setup" "promoExtras" "LPointsLedger$Row;" ∈ BIG := bg1 94 (by decide +kernel)
set_option maxRecDepth 100000 in
theorem fl_RX7_47 : Cond.fieldLink RX7 47 "PointsLedger$Setup" "shares" "LPointsLedger$Row;" ∈ BIG := bg1 95 (by decide +kernel)
set_option maxRecDepth 100000 in
theorem fl_RX7_59 : Cond.fieldLink RX7 59 "PointsLedger$Setup" "life" "I" ∈ BIG := bg1 96 (by decide +kernel)
set_option maxRecDepth 100000 in
theorem fl_RX7_63 : Cond.fieldLink RX7 63 "PointsLedger$Setup" "window" "I" ∈ BIG := bg1 97 (by decide +kernel)
set_option maxRecDepth 100000 in
theorem fl_RX7_66 : Cond.fieldLink RX7 66 "PointsLedger$Setup" "grace" "I" ∈ BIG := bg1 98 (by decide +kernel)
set_option maxRecDepth 100000 in
theorem clk_RX10_26 : Cond.classLink RX10 26 RX8 ∈ BIG := bg1 128 (by decide +kernel)
set_option maxRecDepth 100000 in
theorem ins_RX8 : Cond.instantiable RX8 6 ∈ BIG := bg1 129 (by decide +kernel)
set_option maxRecDepth 100000 in
theorem ml_RX10_28 : Cond.methodLink RX10 28 yX8_init ∈ BIG := bg1 130 (by decide +kernel)
set_option maxRecDepth 100000 in
theorem ml_RX8_3 : Cond.methodLink RX8 3 Lib.objectInit ∈ BIG := bg1 133 (by decide +kernel)
set_option maxRecDepth 100000 in
theorem fl_RX8_9 : Cond.fieldLink RX8 9 "PointsLedger$SetupReader" "text" "LPointsLedger$InputBuffer;" ∈ BIG := bg1 134 (by decide +kernel)
set_option maxRecDepth 100000 in
theorem fl_RX8_15 : Cond.fieldLink RX8 15 "PointsLedger$SetupReader" "draft" "LPointsLedger$Setup;" ∈ BIG := bg1 135 (by decide +kernel)
set_option maxRecDepth 100000 in
theorem fl_RX8_24 : Cond.fieldLink RX8 24 "PointsLedger$SetupReader" "position" "I" ∈ BIG := bg1 136 (by decide +kernel)
set_option maxRecDepth 100000 in
theorem fl_RX8_49 : Cond.fieldLink RX8 49 "PointsLedger$SetupReader" "start" "I" ∈ BIG := bg1 137 (by decide +kernel)
set_option maxRecDepth 100000 in
theorem fl_RX8_43 : Cond.fieldLink RX8 43 "PointsLedger$SetupReader" "token" "I" ∈ BIG := bg1 138 (by decide +kernel)
set_option maxRecDepth 100000 in
theorem fl_RX8_28 : Cond.fieldLink RX8 28 "PointsLedger$SetupReader" "error" "I" ∈ BIG := bg1 139 (by decide +kernel)
set_option maxRecDepth 100000 in
theorem clk_RX10_35 : Cond.classLink RX10 35 RX0 ∈ BIG := bg1 153 (by decide +kernel)
set_option maxRecDepth 100000 in
theorem ins_RX0 : Cond.instantiable RX0 17 ∈ BIG := bg1 154 (by decide +kernel)
set_option maxRecDepth 100000 in
theorem ml_RX10_37 : Cond.methodLink RX10 37 yX0_init ∈ BIG := bg1 155 (by decide +kernel)
set_option maxRecDepth 100000 in
theorem ml_RX0_3 : Cond.methodLink RX0 3 Lib.objectInit ∈ BIG := bg1 158 (by decide +kernel)
set_option maxRecDepth 100000 in
theorem clk_RX0_15 : Cond.classLink RX0 15 RX1 ∈ BIG := bg1 159 (by decide +kernel)
set_option maxRecDepth 100000 in
theorem ins_RX1 : Cond.instantiable RX1 5 ∈ BIG := bg1 160 (by decide +kernel)
set_option maxRecDepth 100000 in
theorem ml_RX0_17 : Cond.methodLink RX0 17 yX1_init ∈ BIG := bg1 161 (by decide +kernel)
set_option maxRecDepth 100000 in
theorem ml_RX1_3 : Cond.methodLink RX1 3 Lib.objectInit ∈ BIG := bg1 164 (by decide +kernel)
set_option maxRecDepth 100000 in
theorem clk_RX1_9 : Cond.classLink RX1 9 RX6 ∈ BIG := bg1 165 (by decide +kernel)
set_option maxRecDepth 100000 in
theorem ml_RX1_11 : Cond.methodLink RX1 11 yX6_init ∈ BIG := bg1 166 (by decide +kernel)
set_option maxRecDepth 100000 in
theorem fl_RX1_14 : Cond.fieldLink RX1 14 "PointsLedger$Cohorts" "lists" "LPointsLedger$Row;" ∈ BIG := bg1 167 (by decide +kernel)
set_option maxRecDepth 100000 in
theorem fl_RX1_20 : Cond.fieldLink RX1 20 "PointsLedger$Cohorts" "days" "LPointsLedger$Row;" ∈ BIG := bg1 168 (by decide +kernel)
set_option maxRecDepth 100000 in
theorem fl_RX1_23 : Cond.fieldLink RX1 23 "PointsLedger$Cohorts" "contributors" "LPointsLedger$Row;" ∈ BIG := bg1 169 (by decide +kernel)
set_option maxRecDepth 100000 in
theorem fl_RX1_26 : Cond.fieldLink RX1 26 "PointsLedger$Cohorts" "points" "LPointsLedger$Row;" ∈ BIG := bg1 170 (by decide +kernel)
set_option maxRecDepth 100000 in
theorem fl_RX1_29 : Cond.fieldLink RX1 29 "PointsLedger$Cohorts" "size" "I" ∈ BIG := bg1 171 (by decide +kernel)
set_option maxRecDepth 100000 in
theorem clk_RX0_22 : Cond.classLink RX0 22 RX5 ∈ BIG := bg1 183 (by decide +kernel)
set_option maxRecDepth 100000 in
theorem ins_RX5 : Cond.instantiable RX5 2 ∈ BIG := bg1 184 (by decide +kernel)
set_option maxRecDepth 100000 in
theorem ml_RX0_24 : Cond.methodLink RX0 24 yX5_init ∈ BIG := bg1 185 (by decide +kernel)
set_option maxRecDepth 100000 in
theorem ml_RX5_3 : Cond.methodLink RX5 3 Lib.objectInit ∈ BIG := bg1 188 (by decide +kernel)
set_option maxRecDepth 100000 in
theorem clk_RX5_9 : Cond.classLink RX5 9 RX6 ∈ BIG := bg1 189 (by decide +kernel)
set_option maxRecDepth 100000 in
theorem ml_RX5_11 : Cond.methodLink RX5 11 yX6_init ∈ BIG := bg1 190 (by decide +kernel)
set_option maxRecDepth 100000 in
theorem fl_RX5_14 : Cond.fieldLink RX5 14 "PointsLedger$Purchases" "parts" "LPointsLedger$Row;" ∈ BIG := bg1 191 (by decide +kernel)
set_option maxRecDepth 100000 in
theorem fl_RX5_20 : Cond.fieldLink RX5 20 "PointsLedger$Purchases" "count" "I" ∈ BIG := bg1 192 (by decide +kernel)
set_option maxRecDepth 100000 in
theorem clk_RX0_29 : Cond.classLink RX0 29 RX4 ∈ BIG := bg1 198 (by decide +kernel)
set_option maxRecDepth 100000 in
theorem ins_RX4 : Cond.instantiable RX4 3 ∈ BIG := bg1 199 (by decide +kernel)
set_option maxRecDepth 100000 in
theorem ml_RX0_31 : Cond.methodLink RX0 31 yX4_init ∈ BIG := bg1 200 (by decide +kernel)
set_option maxRecDepth 100000 in
theorem ml_RX4_3 : Cond.methodLink RX4 3 Lib.objectInit ∈ BIG := bg1 203 (by decide +kernel)
set_option maxRecDepth 100000 in
theorem clk_RX4_9 : Cond.classLink RX4 9 RX6 ∈ BIG := bg1 204 (by decide +kernel)
set_option maxRecDepth 100000 in
theorem ml_RX4_11 : Cond.methodLink RX4 11 yX6_init ∈ BIG := bg1 205 (by decide +kernel)
set_option maxRecDepth 100000 in
theorem fl_RX4_14 : Cond.fieldLink RX4 14 "PointsLedger$LogBook" "parts" "LPointsLedger$Row;" ∈ BIG := bg1 206 (by decide +kernel)
set_option maxRecDepth 100000 in
theorem fl_RX4_20 : Cond.fieldLink RX4 20 "PointsLedger$LogBook" "next" "I" ∈ BIG := bg1 207 (by decide +kernel)
set_option maxRecDepth 100000 in
theorem fl_RX4_24 : Cond.fieldLink RX4 24 "PointsLedger$LogBook" "size" "I" ∈ BIG := bg1 208 (by decide +kernel)
set_option maxRecDepth 100000 in
theorem clk_RX0_36 : Cond.classLink RX0 36 RX6 ∈ BIG := bg1 216 (by decide +kernel)
set_option maxRecDepth 100000 in
theorem ml_RX0_38 : Cond.methodLink RX0 38 yX6_init ∈ BIG := bg1 217 (by decide +kernel)
set_option maxRecDepth 100000 in
theorem clk_RX0_72 : Cond.classLink RX0 72 RX9 ∈ BIG := bg1 218 (by decide +kernel)
set_option maxRecDepth 100000 in
theorem ins_RX9 : Cond.instantiable RX9 2 ∈ BIG := bg1 219 (by decide +kernel)
set_option maxRecDepth 100000 in
theorem ml_RX9_3 : Cond.methodLink RX9 3 Lib.objectInit ∈ BIG := bg1 223 (by decide +kernel)
set_option maxRecDepth 100000 in
theorem fl_RX9_9 : Cond.fieldLink RX9 9 "PointsLedger$Standing" "tier" "I" ∈ BIG := bg1 224 (by decide +kernel)
set_option maxRecDepth 100000 in
theorem fl_RX9_15 : Cond.fieldLink RX9 15 "PointsLedger$Standing" "since" "I" ∈ BIG := bg1 225 (by decide +kernel)
set_option maxRecDepth 100000 in
theorem ml_RX0_79 : Cond.methodLink RX0 79 yX0_reset ∈ BIG := bg1 231 (by decide +kernel)
set_option maxRecDepth 100000 in
theorem ml_RX0_82 : Cond.methodLink RX0 82 yX1_clear ∈ BIG := bg1 235 (by decide +kernel)
set_option maxRecDepth 100000 in
theorem ml_RX0_85 : Cond.methodLink RX0 85 yX5_clear ∈ BIG := bg1 239 (by decide +kernel)
set_option maxRecDepth 100000 in
theorem ml_RX0_86 : Cond.methodLink RX0 86 yX4_clear ∈ BIG := bg2 3 (by decide +kernel)
set_option maxRecDepth 100000 in
theorem ml_RX0_87 : Cond.methodLink RX0 87 yX6_fill ∈ BIG := bg2 7 (by decide +kernel)
set_option maxRecDepth 100000 in
theorem ml_RX0_90 : Cond.methodLink RX0 90 yX7_firstShareOf ∈ BIG := bg2 8 (by decide +kernel)
set_option maxRecDepth 100000 in
theorem ml_RX0_96 : Cond.methodLink RX0 96 yX6_put ∈ BIG := bg2 12 (by decide +kernel)
set_option maxRecDepth 100000 in
theorem fl_RX0_9 : Cond.fieldLink RX0 9 "PointsLedger$Books" "setup" "LPointsLedger$Setup;" ∈ BIG := bg2 13 (by decide +kernel)
set_option maxRecDepth 100000 in
theorem fl_RX0_18 : Cond.fieldLink RX0 18 "PointsLedger$Books" "cohorts" "LPointsLedger$Cohorts;" ∈ BIG := bg2 14 (by decide +kernel)
set_option maxRecDepth 100000 in
theorem fl_RX0_25 : Cond.fieldLink RX0 25 "PointsLedger$Books" "purchases" "LPointsLedger$Purchases;" ∈ BIG := bg2 15 (by decide +kernel)
set_option maxRecDepth 100000 in
theorem fl_RX0_32 : Cond.fieldLink RX0 32 "PointsLedger$Books" "diary" "LPointsLedger$LogBook;" ∈ BIG := bg2 16 (by decide +kernel)
set_option maxRecDepth 100000 in
theorem fl_RX0_41 : Cond.fieldLink RX0 41 "PointsLedger$Books" "tiers" "LPointsLedger$Row;" ∈ BIG := bg2 17 (by decide +kernel)
set_option maxRecDepth 100000 in
theorem fl_RX0_45 : Cond.fieldLink RX0 45 "PointsLedger$Books" "belowSince" "LPointsLedger$Row;" ∈ BIG := bg2 18 (by decide +kernel)
set_option maxRecDepth 100000 in
theorem fl_RX0_48 : Cond.fieldLink RX0 48 "PointsLedger$Books" "debts" "LPointsLedger$Row;" ∈ BIG := bg2 19 (by decide +kernel)
set_option maxRecDepth 100000 in
theorem fl_RX0_51 : Cond.fieldLink RX0 51 "PointsLedger$Books" "homes" "LPointsLedger$Row;" ∈ BIG := bg2 20 (by decide +kernel)
set_option maxRecDepth 100000 in
theorem fl_RX0_54 : Cond.fieldLink RX0 54 "PointsLedger$Books" "qualifying" "LPointsLedger$Row;" ∈ BIG := bg2 21 (by decide +kernel)
set_option maxRecDepth 100000 in
theorem fl_RX0_57 : Cond.fieldLink RX0 57 "PointsLedger$Books" "shares" "LPointsLedger$Row;" ∈ BIG := bg2 22 (by decide +kernel)
set_option maxRecDepth 100000 in
theorem fl_RX0_60 : Cond.fieldLink RX0 60 "PointsLedger$Books" "redeemed" "LPointsLedger$Row;" ∈ BIG := bg2 23 (by decide +kernel)
set_option maxRecDepth 100000 in
theorem fl_RX0_63 : Cond.fieldLink RX0 63 "PointsLedger$Books" "totals" "LPointsLedger$Row;" ∈ BIG := bg2 24 (by decide +kernel)
set_option maxRecDepth 100000 in
theorem fl_RX0_66 : Cond.fieldLink RX0 66 "PointsLedger$Books" "losses" "LPointsLedger$Row;" ∈ BIG := bg2 25 (by decide +kernel)
set_option maxRecDepth 100000 in
theorem fl_RX0_69 : Cond.fieldLink RX0 69 "PointsLedger$Books" "balances" "LPointsLedger$Row;" ∈ BIG := bg2 26 (by decide +kernel)
set_option maxRecDepth 100000 in
theorem fl_RX0_75 : Cond.fieldLink RX0 75 "PointsLedger$Books" "standing" "LPointsLedger$Standing;" ∈ BIG := bg2 27 (by decide +kernel)
set_option maxRecDepth 100000 in
theorem fl_RX0_100 : Cond.fieldLink RX0 100 "PointsLedger$Books" "day" "I" ∈ BIG := bg2 28 (by decide +kernel)
set_option maxRecDepth 100000 in
theorem fl_RX0_104 : Cond.fieldLink RX0 104 "PointsLedger$Books" "windowStart" "I" ∈ BIG := bg2 29 (by decide +kernel)
set_option maxRecDepth 100000 in
theorem clk_RX10_47 : Cond.classLink RX10 47 RX2 ∈ BIG := bg2 65 (by decide +kernel)
set_option maxRecDepth 100000 in
theorem ins_RX2 : Cond.instantiable RX2 3 ∈ BIG := bg2 66 (by decide +kernel)
set_option maxRecDepth 100000 in
theorem ml_RX10_49 : Cond.methodLink RX10 49 yX2_init ∈ BIG := bg2 67 (by decide +kernel)
set_option maxRecDepth 100000 in
theorem ml_RX2_3 : Cond.methodLink RX2 3 Lib.objectInit ∈ BIG := bg2 70 (by decide +kernel)
set_option maxRecDepth 100000 in
theorem clk_RX2_9 : Cond.classLink RX2 9 RX0 ∈ BIG := bg2 71 (by decide +kernel)
set_option maxRecDepth 100000 in
theorem ml_RX2_17 : Cond.methodLink RX2 17 yX0_init ∈ BIG := bg2 73 (by decide +kernel)
set_option maxRecDepth 100000 in
theorem fl_RX2_11 : Cond.fieldLink RX2 11 "PointsLedger$History" "kept" "[LPointsLedger$Books;" ∈ BIG := bg2 74 (by decide +kernel)
set_option maxRecDepth 100000 in
theorem fl_RX2_20 : Cond.fieldLink RX2 20 "PointsLedger$History" "newest" "I" ∈ BIG := bg2 75 (by decide +kernel)
set_option maxRecDepth 100000 in
theorem fl_RX2_24 : Cond.fieldLink RX2 24 "PointsLedger$History" "count" "I" ∈ BIG := bg2 76 (by decide +kernel)
set_option maxRecDepth 100000 in
theorem fl_RX10_12 : Cond.fieldLink RX10 12 "PointsLedger" "input" "LPointsLedger$InputBuffer;" ∈ BIG := bg2 84 (by decide +kernel)
set_option maxRecDepth 100000 in
theorem fl_RX10_19 : Cond.fieldLink RX10 19 "PointsLedger" "setup" "LPointsLedger$Setup;" ∈ BIG := bg2 85 (by decide +kernel)
set_option maxRecDepth 100000 in
theorem fl_RX10_23 : Cond.fieldLink RX10 23 "PointsLedger" "draft" "LPointsLedger$Setup;" ∈ BIG := bg2 86 (by decide +kernel)
set_option maxRecDepth 100000 in
theorem fl_RX10_31 : Cond.fieldLink RX10 31 "PointsLedger" "reader" "LPointsLedger$SetupReader;" ∈ BIG := bg2 87 (by decide +kernel)
set_option maxRecDepth 100000 in
theorem fl_RX10_40 : Cond.fieldLink RX10 40 "PointsLedger" "books" "LPointsLedger$Books;" ∈ BIG := bg2 88 (by decide +kernel)
set_option maxRecDepth 100000 in
theorem fl_RX10_44 : Cond.fieldLink RX10 44 "PointsLedger" "copy" "LPointsLedger$Books;" ∈ BIG := bg2 89 (by decide +kernel)
set_option maxRecDepth 100000 in
theorem fl_RX10_50 : Cond.fieldLink RX10 50 "PointsLedger" "history" "LPointsLedger$History;" ∈ BIG := bg2 90 (by decide +kernel)
set_option maxRecDepth 100000 in
theorem fl_RX10_54 : Cond.fieldLink RX10 54 "PointsLedger" "copyKept" "Z" ∈ BIG := bg2 91 (by decide +kernel)
set_option maxRecDepth 100000 in
theorem ml_RL_177 : Cond.methodLink RL 177 yX10_errorPosition ∈ BIG := bg2 109 (by decide +kernel)
set_option maxRecDepth 100000 in
theorem ml_RX10_84 : Cond.methodLink RX10 84 yX8_read ∈ BIG := bg2 113 (by decide +kernel)
set_option maxRecDepth 100000 in
theorem ml_RX8_19 : Cond.methodLink RX8 19 yX7_clear ∈ BIG := bg2 117 (by decide +kernel)
set_option maxRecDepth 100000 in
theorem ml_RX8_31 : Cond.methodLink RX8 31 yX3_length ∈ BIG := bg2 118 (by decide +kernel)
set_option maxRecDepth 100000 in
theorem ml_RX8_37 : Cond.methodLink RX8 37 yX8_readStatement ∈ BIG := bg2 122 (by decide +kernel)
set_option maxRecDepth 100000 in
theorem ml_RX8_40 : Cond.methodLink RX8 40 yX8_readToken ∈ BIG := bg2 126 (by decide +kernel)
set_option maxRecDepth 100000 in
theorem ml_RX8_52 : Cond.methodLink RX8 52 yX3_byteAt ∈ BIG := bg2 130 (by decide +kernel)
set_option maxRecDepth 100000 in
theorem ml_RX8_56 : Cond.methodLink RX8 56 yX3_tokenAt ∈ BIG := bg2 134 (by decide +kernel)
set_option maxRecDepth 100000 in
theorem ml_RX8_59 : Cond.methodLink RX8 59 yX8_keyword ∈ BIG := bg2 138 (by decide +kernel)
set_option maxRecDepth 100000 in
theorem ml_RX8_142 : Cond.methodLink RX8 142 yX8_wordOf ∈ BIG := bg2 142 (by decide +kernel)
set_option maxRecDepth 100000 in
theorem ml_RX8_146 : Cond.methodLink RX8 146 yX3_spells ∈ BIG := bg2 153 (by decide +kernel)
set_option maxRecDepth 100000 in
theorem ml_RX3_19 : Cond.methodLink RX3 19 yJ0_length_8abf5 ∈ BIG := bg2 157 (by decide +kernel)
set_option maxRecDepth 100000 in
theorem ml_RJ0_335 : Cond.methodLink RJ0 335 yJ0_coder_7d493 ∈ BIG := bg2 161 (by decide +kernel)
set_option maxRecDepth 100000 in
theorem fl_RJ0_38 : Cond.fieldLink RJ0 38 "java/lang/String" "COMPACT_STRINGS" "Z" ∈ BIG := bg2 165 (by decide +kernel)
set_option maxRecDepth 100000 in
theorem ml_RX3_24 : Cond.methodLink RX3 24 yJ0_charAt_5068e ∈ BIG := bg2 167 (by decide +kernel)
set_option maxRecDepth 100000 in
theorem ml_RJ0_492 : Cond.methodLink RJ0 492 yJ0_isLatin1_aae02 ∈ BIG := bg2 171 (by decide +kernel)
set_option maxRecDepth 100000 in
theorem ml_RJ0_495 : Cond.methodLink RJ0 495 yJ1_charAt_3b067 ∈ BIG := bg2 175 (by decide +kernel)
set_option maxRecDepth 100000 in
theorem ml_RJ1_9 : Cond.methodLink RJ1 9 yJ0_checkIndex_df160 ∈ BIG := bg2 178 (by decide +kernel)
set_option maxRecDepth 100000 in
theorem fl_RJ0_1053 : Cond.fieldLink RJ0 1053 "jdk/internal/util/Preconditions" "SIOOBE_FORMATTER" "Ljava/util/function/BiFunction;" ∈ BIG := bg2 181 (by decide +kernel)
set_option maxRecDepth 100000 in
theorem ml_RJ0_1059 : Cond.methodLink RJ0 1059 yJ3_checkIndex_8e157 ∈ BIG := bg2 183 (by decide +kernel)
set_option maxRecDepth 100000 in
theorem ml_RJ0_498 : Cond.methodLink RJ0 498 yJ2_charAt_3b067 ∈ BIG := bg2 186 (by decide +kernel)
set_option maxRecDepth 100000 in
theorem ml_RJ2_67 : Cond.methodLink RJ2 67 yJ2_checkIndex_2214a ∈ BIG := bg2 189 (by decide +kernel)
set_option maxRecDepth 100000 in
theorem ml_RJ2_48 : Cond.methodLink RJ2 48 yJ2_length_9d52b ∈ BIG := bg2 192 (by decide +kernel)
set_option maxRecDepth 100000 in
theorem ml_RJ2_414 : Cond.methodLink RJ2 414 yJ0_checkIndex_df160 ∈ BIG := bg2 195 (by decide +kernel)
set_option maxRecDepth 100000 in
theorem ml_RJ2_71 : Cond.methodLink RJ2 71 yJ2_getChar_3b067 ∈ BIG := bg2 196 (by decide +kernel)
set_option maxRecDepth 100000 in
theorem fl_RJ2_44 : Cond.fieldLink RJ2 44 "java/lang/StringUTF16" "$assertionsDisabled" "Z" ∈ BIG := bg2 199 (by decide +kernel)
set_option maxRecDepth 100000 in
theorem fl_RJ2_59 : Cond.fieldLink RJ2 59 "java/lang/StringUTF16" "HI_BYTE_SHIFT" "I" ∈ BIG := bg2 201 (by decide +kernel)
set_option maxRecDepth 100000 in
theorem fl_RJ2_63 : Cond.fieldLink RJ2 63 "java/lang/StringUTF16" "LO_BYTE_SHIFT" "I" ∈ BIG := bg2 203 (by decide +kernel)
set_option maxRecDepth 100000 in
theorem ml_RX8_62 : Cond.methodLink RX8 62 yX7_count ∈ BIG := bg2 205 (by decide +kernel)
set_option maxRecDepth 100000 in
theorem ml_RX8_65 : Cond.methodLink RX8 65 yX8_mostOf ∈ BIG := bg2 209 (by decide +kernel)
set_option maxRecDepth 100000 in
theorem ml_RX8_68 : Cond.methodLink RX8 68 yX8_refuse ∈ BIG := bg2 212 (by decide +kernel)
set_option maxRecDepth 100000 in
theorem ml_RX8_71 : Cond.methodLink RX8 71 yX8_readTier ∈ BIG := bg2 216 (by decide +kernel)
set_option maxRecDepth 100000 in
theorem ml_RX8_90 : Cond.methodLink RX8 90 yX8_readNewName ∈ BIG := bg2 220 (by decide +kernel)
set_option maxRecDepth 100000 in
theorem ml_RX8_132 : Cond.methodLink RX8 132 yX3_nameCode ∈ BIG := bg2 224 (by decide +kernel)
set_option maxRecDepth 100000 in
theorem ml_RX3_28 : Cond.methodLink RX3 28 yX3_tokenAt ∈ BIG := bg2 228 (by decide +kernel)
set_option maxRecDepth 100000 in
theorem ml_RX3_32 : Cond.methodLink RX3 32 yX3_byteAt ∈ BIG := bg2 229 (by decide +kernel)
set_option maxRecDepth 100000 in
theorem ml_RX8_135 : Cond.methodLink RX8 135 yX7_isTaken ∈ BIG := bg2 230 (by decide +kernel)
set_option maxRecDepth 100000 in
theorem ml_RX7_81 : Cond.methodLink RX7 81 yX6_contains ∈ BIG := bg2 234 (by decide +kernel)
set_option maxRecDepth 100000 in
theorem ml_RX8_93 : Cond.methodLink RX8 93 yX8_readNumber ∈ BIG := bg2 238 (by decide +kernel)
set_option maxRecDepth 100000 in
theorem ml_RX8_97 : Cond.methodLink RX8 97 yX7_thresholdOf ∈ BIG := bg3 2 (by decide +kernel)
set_option maxRecDepth 100000 in
theorem cw_RX8_100 : Cond.constant RX8 100 (1000000) ∈ BIG := bg3 6 (by decide +kernel)
set_option maxRecDepth 100000 in
theorem ml_RX8_101 : Cond.methodLink RX8 101 yX7_addTier ∈ BIG := bg3 7 (by decide +kernel)
set_option maxRecDepth 100000 in
theorem ml_RX7_85 : Cond.methodLink RX7 85 yX7_define ∈ BIG := bg3 11 (by decide +kernel)
set_option maxRecDepth 100000 in
theorem ml_RX8_74 : Cond.methodLink RX8 74 yX8_readCategory ∈ BIG := bg3 15 (by decide +kernel)
set_option maxRecDepth 100000 in
theorem cw_RX8_105 : Cond.constant RX8 105 (100000) ∈ BIG := bg3 19 (by decide +kernel)
set_option maxRecDepth 100000 in
theorem ml_RX8_106 : Cond.methodLink RX8 106 yX7_addCategory ∈ BIG := bg3 20 (by decide +kernel)
set_option maxRecDepth 100000 in
theorem ml_RX8_77 : Cond.methodLink RX8 77 yX8_readPromo ∈ BIG := bg3 24 (by decide +kernel)
set_option maxRecDepth 100000 in
theorem ml_RX8_109 : Cond.methodLink RX8 109 yX8_readCategoryName ∈ BIG := bg3 28 (by decide +kernel)
set_option maxRecDepth 100000 in
theorem ml_RX8_139 : Cond.methodLink RX8 139 yX7_numberOf ∈ BIG := bg3 32 (by decide +kernel)
set_option maxRecDepth 100000 in
theorem ml_RX8_112 : Cond.methodLink RX8 112 yX7_addPromo ∈ BIG := bg3 36 (by decide +kernel)
set_option maxRecDepth 100000 in
theorem ml_RX8_80 : Cond.methodLink RX8 80 yX8_readMember ∈ BIG := bg3 40 (by decide +kernel)
set_option maxRecDepth 100000 in
theorem ml_RX8_116 : Cond.methodLink RX8 116 yX7_addMember ∈ BIG := bg3 44 (by decide +kernel)
set_option maxRecDepth 100000 in
theorem ml_RX8_83 : Cond.methodLink RX8 83 yX8_readHouse ∈ BIG := bg3 48 (by decide +kernel)
set_option maxRecDepth 100000 in
theorem ml_RX8_119 : Cond.methodLink RX8 119 yX7_addHouse ∈ BIG := bg3 52 (by decide +kernel)
set_option maxRecDepth 100000 in
theorem ml_RX8_86 : Cond.methodLink RX8 86 yX8_readPeriod ∈ BIG := bg3 56 (by decide +kernel)
set_option maxRecDepth 100000 in
theorem ml_RX8_123 : Cond.methodLink RX8 123 yX7_fixLife ∈ BIG := bg3 60 (by decide +kernel)
set_option maxRecDepth 100000 in
theorem ml_RX8_126 : Cond.methodLink RX8 126 yX7_fixWindow ∈ BIG := bg3 64 (by decide +kernel)
set_option maxRecDepth 100000 in
theorem ml_RX8_129 : Cond.methodLink RX8 129 yX7_fixGrace ∈ BIG := bg3 68 (by decide +kernel)
set_option maxRecDepth 100000 in
theorem ml_RX8_46 : Cond.methodLink RX8 46 yX7_finish ∈ BIG := bg3 72 (by decide +kernel)
set_option maxRecDepth 100000 in
theorem ml_RL_223 : Cond.methodLink RL 223 yX10_today ∈ BIG := bg3 74 (by decide +kernel)
set_option maxRecDepth 100000 in
theorem ml_RX10_200 : Cond.methodLink RX10 200 yX0_day ∈ BIG := bg3 78 (by decide +kernel)
set_option maxRecDepth 100000 in
theorem ml_RL_290 : Cond.methodLink RL 290 yX10_purchaseCount ∈ BIG := bg3 82 (by decide +kernel)
set_option maxRecDepth 100000 in
theorem ml_RX10_134 : Cond.methodLink RX10 134 yX0_purchases ∈ BIG := bg3 86 (by decide +kernel)
set_option maxRecDepth 100000 in
theorem ml_RX10_279 : Cond.methodLink RX10 279 yX5_count ∈ BIG := bg3 90 (by decide +kernel)
set_option maxRecDepth 100000 in
theorem ml_RL_312 : Cond.methodLink RL 312 yX10_totalBreakage ∈ BIG := bg3 94 (by decide +kernel)
set_option maxRecDepth 100000 in
theorem ml_RX10_292 : Cond.methodLink RX10 292 yX0_breakageOf ∈ BIG := bg3 98 (by decide +kernel)
set_option maxRecDepth 100000 in
theorem ml_RX0_202 : Cond.methodLink RX0 202 yX1_size ∈ BIG := bg3 102 (by decide +kernel)
set_option maxRecDepth 100000 in
theorem ml_RX0_257 : Cond.methodLink RX0 257 yX1_isIn ∈ BIG := bg3 106 (by decide +kernel)
set_option maxRecDepth 100000 in
theorem ml_RX1_37 : Cond.methodLink RX1 37 yX6_at ∈ BIG := bg3 110 (by decide +kernel)
set_option maxRecDepth 100000 in
theorem ml_RX0_217 : Cond.methodLink RX0 217 yX1_pointsOf ∈ BIG := bg3 111 (by decide +kernel)
set_option maxRecDepth 100000 in
theorem ml_RX0_208 : Cond.methodLink RX0 208 yX1_dayOf ∈ BIG := bg3 115 (by decide +kernel)
set_option maxRecDepth 100000 in
theorem ml_RX0_261 : Cond.methodLink RX0 261 yX0_estimate ∈ BIG := bg3 119 (by decide +kernel)
set_option maxRecDepth 100000 in
theorem ml_RX0_121 : Cond.methodLink RX0 121 yX6_at ∈ BIG := bg3 123 (by decide +kernel)
set_option maxRecDepth 100000 in
theorem ml_RX0_211 : Cond.methodLink RX0 211 yX7_partOfLife ∈ BIG := bg3 124 (by decide +kernel)
set_option maxRecDepth 100000 in
theorem ml_RX7_89 : Cond.methodLink RX7 89 yJ9_min_7cf53 ∈ BIG := bg3 128 (by decide +kernel)
set_option maxRecDepth 100000 in
theorem ml_RX0_145 : Cond.methodLink RX0 145 yX6_sumFrom ∈ BIG := bg3 131 (by decide +kernel)
set_option maxRecDepth 100000 in
theorem ml_RX6_13 : Cond.methodLink RX6 13 yJ9_max_7cf53 ∈ BIG := bg3 135 (by decide +kernel)
set_option maxRecDepth 100000 in
theorem ml_RL_319 : Cond.methodLink RL 319 yX10_logSize ∈ BIG := bg3 138 (by decide +kernel)
set_option maxRecDepth 100000 in
theorem ml_RX10_300 : Cond.methodLink RX10 300 yX0_diary ∈ BIG := bg3 142 (by decide +kernel)
set_option maxRecDepth 100000 in
theorem ml_RX10_304 : Cond.methodLink RX10 304 yX4_size ∈ BIG := bg3 146 (by decide +kernel)
set_option maxRecDepth 100000 in
theorem ml_RL_329 : Cond.methodLink RL 329 yX10_undoCount ∈ BIG := bg3 150 (by decide +kernel)
set_option maxRecDepth 100000 in
theorem ml_RX10_312 : Cond.methodLink RX10 312 yX2_count ∈ BIG := bg3 154 (by decide +kernel)
set_option maxRecDepth 100000 in
theorem ml_RL_333 : Cond.methodLink RL 333 yX10_save ∈ BIG := bg3 158 (by decide +kernel)
set_option maxRecDepth 100000 in
theorem ml_RX10_318 : Cond.methodLink RX10 318 yX0_copyFrom ∈ BIG := bg3 162 (by decide +kernel)
set_option maxRecDepth 100000 in
theorem ml_RX0_107 : Cond.methodLink RX0 107 yX1_copyFrom ∈ BIG := bg3 166 (by decide +kernel)
set_option maxRecDepth 100000 in
theorem ml_RX1_33 : Cond.methodLink RX1 33 yX6_copyFirst ∈ BIG := bg3 170 (by decide +kernel)
set_option maxRecDepth 100000 in
theorem ml_RX6_23 : Cond.methodLink RX6 23 yJ9_min_7cf53 ∈ BIG := bg3 174 (by decide +kernel)
set_option maxRecDepth 100000 in
theorem ml_RX6_26 : Cond.methodLink RX6 26 arraycopyName ∈ BIG := bg3 175 (by decide +kernel)
set_option maxRecDepth 100000 in
theorem ml_RX0_111 : Cond.methodLink RX0 111 yX5_copyFrom ∈ BIG := bg3 178 (by decide +kernel)
set_option maxRecDepth 100000 in
theorem ml_RX5_24 : Cond.methodLink RX5 24 yX6_copyFirst ∈ BIG := bg3 182 (by decide +kernel)
set_option maxRecDepth 100000 in
theorem ml_RX0_114 : Cond.methodLink RX0 114 yX4_copyFrom ∈ BIG := bg3 183 (by decide +kernel)
set_option maxRecDepth 100000 in
theorem ml_RX4_27 : Cond.methodLink RX4 27 yX6_copyAll ∈ BIG := bg3 187 (by decide +kernel)
set_option maxRecDepth 100000 in
theorem ml_RX6_19 : Cond.methodLink RX6 19 yX6_copyFirst ∈ BIG := bg3 191 (by decide +kernel)
set_option maxRecDepth 100000 in
theorem ml_RX0_117 : Cond.methodLink RX0 117 yX6_copyAll ∈ BIG := bg3 192 (by decide +kernel)
set_option maxRecDepth 100000 in
theorem ml_RL_164 : Cond.methodLink RL 164 yL_append ∈ BIG := bg3 193 (by decide +kernel)
set_option maxRecDepth 100000 in
theorem ml_RL_7 : Cond.methodLink RL 7 yX10_append ∈ BIG := bg3 197 (by decide +kernel)
set_option maxRecDepth 100000 in
theorem ml_RX10_58 : Cond.methodLink RX10 58 yX3_bytesIn ∈ BIG := bg3 201 (by decide +kernel)
set_option maxRecDepth 100000 in
theorem ml_RX10_62 : Cond.methodLink RX10 62 yX3_length ∈ BIG := bg3 204 (by decide +kernel)
set_option maxRecDepth 100000 in
theorem ml_RX10_73 : Cond.methodLink RX10 73 yX3_addBytes ∈ BIG := bg4 33 (by decide +kernel)
set_option maxRecDepth 100000 in
theorem ml_RL_173 : Cond.methodLink RL 173 yL_truncate ∈ BIG := bg4 37 (by decide +kernel)
set_option maxRecDepth 100000 in
theorem ml_RL_15 : Cond.methodLink RL 15 yX10_truncate ∈ BIG := bg4 41 (by decide +kernel)
set_option maxRecDepth 100000 in
theorem ml_RX10_77 : Cond.methodLink RX10 77 yX10_needBetween ∈ BIG := bg4 45 (by decide +kernel)
set_option maxRecDepth 100000 in
theorem ml_RX10_81 : Cond.methodLink RX10 81 yX3_shorten ∈ BIG := bg4 64 (by decide +kernel)
set_option maxRecDepth 100000 in
theorem ml_RL_181 : Cond.methodLink RL 181 yL_load ∈ BIG := bg4 68 (by decide +kernel)
set_option maxRecDepth 100000 in
theorem ml_RL_21 : Cond.methodLink RL 21 yX10_load ∈ BIG := bg4 71 (by decide +kernel)
set_option maxRecDepth 100000 in
theorem ml_RX10_92 : Cond.methodLink RX10 92 yX7_copyFrom ∈ BIG := bg4 76 (by decide +kernel)
set_option maxRecDepth 100000 in
theorem ml_RX7_77 : Cond.methodLink RX7 77 yX6_copyAll ∈ BIG := bg4 80 (by decide +kernel)
set_option maxRecDepth 100000 in
theorem ml_RX10_95 : Cond.methodLink RX10 95 yX0_reset ∈ BIG := bg4 81 (by decide +kernel)
set_option maxRecDepth 100000 in
theorem ml_RX10_98 : Cond.methodLink RX10 98 yX2_forget ∈ BIG := bg4 82 (by decide +kernel)
set_option maxRecDepth 100000 in
theorem ml_RX10_101 : Cond.methodLink RX10 101 yX7_count ∈ BIG := bg4 86 (by decide +kernel)
set_option maxRecDepth 100000 in
theorem ml_RL_185 : Cond.methodLink RL 185 yL_find ∈ BIG := bg4 87 (by decide +kernel)
set_option maxRecDepth 100000 in
theorem ml_RL_25 : Cond.methodLink RL 25 yX10_find ∈ BIG := bg4 91 (by decide +kernel)
set_option maxRecDepth 100000 in
theorem ml_RX10_104 : Cond.methodLink RX10 104 yX3_nameCode ∈ BIG := bg4 95 (by decide +kernel)
set_option maxRecDepth 100000 in
theorem ml_RX10_108 : Cond.methodLink RX10 108 yX7_numberOf ∈ BIG := bg4 96 (by decide +kernel)
set_option maxRecDepth 100000 in
theorem ml_RL_188 : Cond.methodLink RL 188 yL_purchase ∈ BIG := bg4 113 (by decide +kernel)
set_option maxRecDepth 100000 in
theorem ml_RL_30 : Cond.methodLink RL 30 yX10_purchase ∈ BIG := bg4 117 (by decide +kernel)
set_option maxRecDepth 100000 in
theorem ml_RX10_116 : Cond.methodLink RX10 116 yX10_needMember ∈ BIG := bg4 121 (by decide +kernel)
set_option maxRecDepth 100000 in
theorem ml_RX10_119 : Cond.methodLink RX10 119 yX10_needCategory ∈ BIG := bg4 141 (by decide +kernel)
set_option maxRecDepth 100000 in
theorem cw_RX10_122 : Cond.constant RX10 122 (100000) ∈ BIG := bg4 146 (by decide +kernel)
set_option maxRecDepth 100000 in
theorem ml_RX10_123 : Cond.methodLink RX10 123 yX2_keep ∈ BIG := bg4 147 (by decide +kernel)
set_option maxRecDepth 100000 in
theorem ml_RX2_27 : Cond.methodLink RX2 27 yX2_newestSlot ∈ BIG := bg4 151 (by decide +kernel)
set_option maxRecDepth 100000 in
theorem ml_RX2_31 : Cond.methodLink RX2 31 yX0_copyFrom ∈ BIG := bg4 155 (by decide +kernel)
set_option maxRecDepth 100000 in
theorem ml_RX2_35 : Cond.methodLink RX2 35 yJ9_min_7cf53 ∈ BIG := bg4 156 (by decide +kernel)
set_option maxRecDepth 100000 in
theorem ml_RX10_127 : Cond.methodLink RX10 127 yX0_recordPurchase ∈ BIG := bg4 157 (by decide +kernel)
set_option maxRecDepth 100000 in
theorem ml_RX0_154 : Cond.methodLink RX0 154 yX7_baseOf ∈ BIG := bg4 161 (by decide +kernel)
set_option maxRecDepth 100000 in
theorem ml_RX0_157 : Cond.methodLink RX0 157 yX0_worth ∈ BIG := bg4 165 (by decide +kernel)
set_option maxRecDepth 100000 in
theorem ml_RX0_148 : Cond.methodLink RX0 148 yX7_bonusOf ∈ BIG := bg4 169 (by decide +kernel)
set_option maxRecDepth 100000 in
theorem ml_RX0_151 : Cond.methodLink RX0 151 yX7_extrasOn ∈ BIG := bg4 173 (by decide +kernel)
set_option maxRecDepth 100000 in
theorem ml_RX0_162 : Cond.methodLink RX0 162 yX5_add ∈ BIG := bg4 177 (by decide +kernel)
set_option maxRecDepth 100000 in
theorem ml_RX5_32 : Cond.methodLink RX5 32 yX6_put ∈ BIG := bg4 181 (by decide +kernel)
set_option maxRecDepth 100000 in
theorem ml_RX0_166 : Cond.methodLink RX0 166 yX6_increase ∈ BIG := bg4 182 (by decide +kernel)
set_option maxRecDepth 100000 in
theorem ml_RX0_169 : Cond.methodLink RX0 169 yX7_life ∈ BIG := bg4 186 (by decide +kernel)
set_option maxRecDepth 100000 in
theorem ml_RX0_173 : Cond.methodLink RX0 173 yX1_put ∈ BIG := bg4 193 (by decide +kernel)
set_option maxRecDepth 100000 in
theorem ml_RX1_49 : Cond.methodLink RX1 49 yX1_isBefore ∈ BIG := bg4 197 (by decide +kernel)
set_option maxRecDepth 100000 in
theorem ml_RX1_53 : Cond.methodLink RX1 53 yX6_increase ∈ BIG := bg4 201 (by decide +kernel)
set_option maxRecDepth 100000 in
theorem ml_RX1_57 : Cond.methodLink RX1 57 yX1_shift ∈ BIG := bg4 202 (by decide +kernel)
set_option maxRecDepth 100000 in
theorem ml_RX1_63 : Cond.methodLink RX1 63 yX6_move ∈ BIG := bg4 206 (by decide +kernel)
set_option maxRecDepth 100000 in
theorem ml_RX1_60 : Cond.methodLink RX1 60 yX6_put ∈ BIG := bg4 210 (by decide +kernel)
set_option maxRecDepth 100000 in
theorem ml_RX0_176 : Cond.methodLink RX0 176 yX0_credit ∈ BIG := bg4 211 (by decide +kernel)
set_option maxRecDepth 100000 in
theorem ml_RX0_184 : Cond.methodLink RX0 184 yJ9_min_7cf53 ∈ BIG := bg4 215 (by decide +kernel)
set_option maxRecDepth 100000 in
theorem ml_RX0_179 : Cond.methodLink RX0 179 yX4_add ∈ BIG := bg4 216 (by decide +kernel)
set_option maxRecDepth 100000 in
theorem ml_RX4_35 : Cond.methodLink RX4 35 yX6_put ∈ BIG := bg4 220 (by decide +kernel)
set_option maxRecDepth 100000 in
theorem ml_RX4_39 : Cond.methodLink RX4 39 yJ9_min_7cf53 ∈ BIG := bg4 221 (by decide +kernel)
set_option maxRecDepth 100000 in
theorem ml_RX0_181 : Cond.methodLink RX0 181 yX0_checkTier ∈ BIG := bg4 222 (by decide +kernel)
set_option maxRecDepth 100000 in
theorem ml_RX0_238 : Cond.methodLink RX0 238 yX9_start ∈ BIG := bg4 226 (by decide +kernel)
set_option maxRecDepth 100000 in
theorem ml_RX0_241 : Cond.methodLink RX0 241 yX7_tierFor ∈ BIG := bg4 230 (by decide +kernel)
set_option maxRecDepth 100000 in
theorem ml_RX0_244 : Cond.methodLink RX0 244 yX7_grace ∈ BIG := bg4 234 (by decide +kernel)
set_option maxRecDepth 100000 in
theorem ml_RX0_247 : Cond.methodLink RX0 247 yX9_check ∈ BIG := bg4 238 (by decide +kernel)
set_option maxRecDepth 100000 in
theorem ml_RX0_251 : Cond.methodLink RX0 251 yX9_presentTier ∈ BIG := bg5 2 (by decide +kernel)
set_option maxRecDepth 100000 in
theorem ml_RX0_254 : Cond.methodLink RX0 254 yX9_belowDay ∈ BIG := bg5 6 (by decide +kernel)
set_option maxRecDepth 100000 in
theorem ml_RL_192 : Cond.methodLink RL 192 yL_refund ∈ BIG := bg5 10 (by decide +kernel)
set_option maxRecDepth 100000 in
theorem ml_RL_36 : Cond.methodLink RL 36 yX10_refund ∈ BIG := bg5 13 (by decide +kernel)
set_option maxRecDepth 100000 in
theorem ml_RX10_131 : Cond.methodLink RX10 131 yX10_needKeptPurchase ∈ BIG := bg5 17 (by decide +kernel)
set_option maxRecDepth 100000 in
theorem ml_RX10_330 : Cond.methodLink RX10 330 yX5_isKept ∈ BIG := bg5 21 (by decide +kernel)
set_option maxRecDepth 100000 in
theorem ml_RX10_138 : Cond.methodLink RX10 138 yX5_part ∈ BIG := bg5 26 (by decide +kernel)
set_option maxRecDepth 100000 in
theorem ml_RX5_28 : Cond.methodLink RX5 28 yX6_at ∈ BIG := bg5 30 (by decide +kernel)
set_option maxRecDepth 100000 in
theorem ml_RX10_145 : Cond.methodLink RX10 145 yX0_takeBack ∈ BIG := bg5 32 (by decide +kernel)
set_option maxRecDepth 100000 in
theorem ml_RX0_189 : Cond.methodLink RX0 189 yX5_part ∈ BIG := bg5 36 (by decide +kernel)
set_option maxRecDepth 100000 in
theorem ml_RX0_131 : Cond.methodLink RX0 131 yX0_poolOf ∈ BIG := bg5 37 (by decide +kernel)
set_option maxRecDepth 100000 in
theorem ml_RX0_192 : Cond.methodLink RX0 192 yX1_takeFromAll ∈ BIG := bg5 41 (by decide +kernel)
set_option maxRecDepth 100000 in
theorem ml_RX1_45 : Cond.methodLink RX1 45 yX1_first ∈ BIG := bg5 45 (by decide +kernel)
set_option maxRecDepth 100000 in
theorem ml_RX1_41 : Cond.methodLink RX1 41 yX1_isIn ∈ BIG := bg5 49 (by decide +kernel)
set_option maxRecDepth 100000 in
theorem ml_RX1_73 : Cond.methodLink RX1 73 yX1_take ∈ BIG := bg5 50 (by decide +kernel)
set_option maxRecDepth 100000 in
theorem ml_RX1_67 : Cond.methodLink RX1 67 yJ9_min_7cf53 ∈ BIG := bg5 54 (by decide +kernel)
set_option maxRecDepth 100000 in
theorem ml_RX0_196 : Cond.methodLink RX0 196 yX5_markRefunded ∈ BIG := bg5 55 (by decide +kernel)
set_option maxRecDepth 100000 in
theorem ml_RL_195 : Cond.methodLink RL 195 yL_redeem ∈ BIG := bg5 59 (by decide +kernel)
set_option maxRecDepth 100000 in
theorem ml_RL_39 : Cond.methodLink RL 39 yX10_redeem ∈ BIG := bg5 62 (by decide +kernel)
set_option maxRecDepth 100000 in
theorem ml_RX10_148 : Cond.methodLink RX10 148 yX10_needAtLeastOne ∈ BIG := bg5 66 (by decide +kernel)
set_option maxRecDepth 100000 in
theorem ml_RX10_151 : Cond.methodLink RX10 151 yX0_redeemable ∈ BIG := bg5 70 (by decide +kernel)
set_option maxRecDepth 100000 in
theorem ml_RX0_127 : Cond.methodLink RX0 127 yX1_sum ∈ BIG := bg5 74 (by decide +kernel)
set_option maxRecDepth 100000 in
theorem ml_RX10_156 : Cond.methodLink RX10 156 yX0_spend ∈ BIG := bg5 79 (by decide +kernel)
set_option maxRecDepth 100000 in
theorem ml_RX0_199 : Cond.methodLink RX0 199 yX0_spendFrom ∈ BIG := bg5 83 (by decide +kernel)
set_option maxRecDepth 100000 in
theorem ml_RX0_205 : Cond.methodLink RX0 205 yX1_first ∈ BIG := bg5 87 (by decide +kernel)
set_option maxRecDepth 100000 in
theorem ml_RX0_214 : Cond.methodLink RX0 214 yX1_take ∈ BIG := bg5 88 (by decide +kernel)
set_option maxRecDepth 100000 in
theorem ml_RL_199 : Cond.methodLink RL 199 yL_transfer ∈ BIG := bg5 89 (by decide +kernel)
set_option maxRecDepth 100000 in
theorem ml_RL_43 : Cond.methodLink RL 43 yX10_transfer ∈ BIG := bg5 92 (by decide +kernel)
set_option maxRecDepth 100000 in
theorem ml_RX10_161 : Cond.methodLink RX10 161 yX0_cohorts ∈ BIG := bg5 97 (by decide +kernel)
set_option maxRecDepth 100000 in
theorem ml_RX10_165 : Cond.methodLink RX10 165 yX1_sum ∈ BIG := bg5 101 (by decide +kernel)
set_option maxRecDepth 100000 in
theorem ml_RX10_172 : Cond.methodLink RX10 172 yX0_give ∈ BIG := bg5 103 (by decide +kernel)
set_option maxRecDepth 100000 in
theorem ml_RL_202 : Cond.methodLink RL 202 yL_join ∈ BIG := bg5 107 (by decide +kernel)
set_option maxRecDepth 100000 in
theorem ml_RL_46 : Cond.methodLink RL 46 yX10_join ∈ BIG := bg5 110 (by decide +kernel)
set_option maxRecDepth 100000 in
theorem ml_RX10_175 : Cond.methodLink RX10 175 yX10_needHousehold ∈ BIG := bg5 114 (by decide +kernel)
set_option maxRecDepth 100000 in
theorem ml_RX10_178 : Cond.methodLink RX10 178 yX0_homeOf ∈ BIG := bg5 119 (by decide +kernel)
set_option maxRecDepth 100000 in
theorem ml_RX10_183 : Cond.methodLink RX10 183 yX0_peopleIn ∈ BIG := bg5 124 (by decide +kernel)
set_option maxRecDepth 100000 in
theorem ml_RX0_137 : Cond.methodLink RX0 137 yX0_memberBits ∈ BIG := bg5 128 (by decide +kernel)
set_option maxRecDepth 100000 in
theorem ml_RX0_134 : Cond.methodLink RX0 134 yX7_count ∈ BIG := bg5 132 (by decide +kernel)
set_option maxRecDepth 100000 in
theorem ml_RX0_140 : Cond.methodLink RX0 140 yJ6_bitCount_0f7a4 ∈ BIG := bg5 133 (by decide +kernel)
set_option maxRecDepth 100000 in
theorem cw_RJ6_265 : Cond.constant RJ6 265 (1431655765) ∈ BIG := bg5 136 (by decide +kernel)
set_option maxRecDepth 100000 in
theorem cw_RJ6_266 : Cond.constant RJ6 266 (858993459) ∈ BIG := bg5 137 (by decide +kernel)
set_option maxRecDepth 100000 in
theorem cw_RJ6_267 : Cond.constant RJ6 267 (252645135) ∈ BIG := bg5 138 (by decide +kernel)
set_option maxRecDepth 100000 in
theorem ml_RX10_188 : Cond.methodLink RX10 188 yX0_enter ∈ BIG := bg5 140 (by decide +kernel)
set_option maxRecDepth 100000 in
theorem ml_RL_205 : Cond.methodLink RL 205 yL_leave ∈ BIG := bg5 144 (by decide +kernel)
set_option maxRecDepth 100000 in
theorem ml_RL_49 : Cond.methodLink RL 49 yX10_leave ∈ BIG := bg5 147 (by decide +kernel)
set_option maxRecDepth 100000 in
theorem ml_RX10_194 : Cond.methodLink RX10 194 yX0_moveOut ∈ BIG := bg5 152 (by decide +kernel)
set_option maxRecDepth 100000 in
theorem ml_RL_208 : Cond.methodLink RL 208 yL_setShare ∈ BIG := bg5 156 (by decide +kernel)
set_option maxRecDepth 100000 in
theorem ml_RL_52 : Cond.methodLink RL 52 yX10_setShare ∈ BIG := bg5 159 (by decide +kernel)
set_option maxRecDepth 100000 in
theorem ml_RX10_197 : Cond.methodLink RX10 197 yX0_replaceShare ∈ BIG := bg5 163 (by decide +kernel)
set_option maxRecDepth 100000 in
theorem ml_RL_211 : Cond.methodLink RL 211 yL_advance ∈ BIG := bg5 167 (by decide +kernel)
set_option maxRecDepth 100000 in
theorem ml_RL_55 : Cond.methodLink RL 55 yX10_advance ∈ BIG := bg5 170 (by decide +kernel)
set_option maxRecDepth 100000 in
theorem ml_RX10_203 : Cond.methodLink RX10 203 yX0_passDays ∈ BIG := bg5 174 (by decide +kernel)
set_option maxRecDepth 100000 in
theorem ml_RX0_220 : Cond.methodLink RX0 220 yX0_expire ∈ BIG := bg5 178 (by decide +kernel)
set_option maxRecDepth 100000 in
theorem ml_RX0_226 : Cond.methodLink RX0 226 yX1_expire ∈ BIG := bg5 182 (by decide +kernel)
set_option maxRecDepth 100000 in
theorem ml_RX0_223 : Cond.methodLink RX0 223 yX0_shrinkWindow ∈ BIG := bg5 186 (by decide +kernel)
set_option maxRecDepth 100000 in
theorem ml_RX0_229 : Cond.methodLink RX0 229 yX7_window ∈ BIG := bg5 190 (by decide +kernel)
set_option maxRecDepth 100000 in
theorem ml_RX0_232 : Cond.methodLink RX0 232 yX5_firstAfter ∈ BIG := bg5 194 (by decide +kernel)
set_option maxRecDepth 100000 in
theorem ml_RX5_36 : Cond.methodLink RX5 36 yX5_part ∈ BIG := bg5 198 (by decide +kernel)
set_option maxRecDepth 100000 in
theorem ml_RX0_235 : Cond.methodLink RX0 235 yX5_basesOf ∈ BIG := bg5 199 (by decide +kernel)
set_option maxRecDepth 100000 in
theorem ml_RL_214 : Cond.methodLink RL 214 yL_setup ∈ BIG := bg5 203 (by decide +kernel)
set_option maxRecDepth 100000 in
theorem ml_RL_58 : Cond.methodLink RL 58 yX10_setup ∈ BIG := bg5 206 (by decide +kernel)
set_option maxRecDepth 100000 in
theorem ml_RX10_206 : Cond.methodLink RX10 206 yX7_life ∈ BIG := bg5 210 (by decide +kernel)
set_option maxRecDepth 100000 in
theorem ml_RX10_209 : Cond.methodLink RX10 209 yX7_window ∈ BIG := bg5 211 (by decide +kernel)
set_option maxRecDepth 100000 in
theorem ml_RX10_212 : Cond.methodLink RX10 212 yX7_grace ∈ BIG := bg5 212 (by decide +kernel)
set_option maxRecDepth 100000 in
theorem ml_RL_217 : Cond.methodLink RL 217 yL_threshold ∈ BIG := bg5 213 (by decide +kernel)
set_option maxRecDepth 100000 in
theorem ml_RL_61 : Cond.methodLink RL 61 yX10_threshold ∈ BIG := bg5 216 (by decide +kernel)
set_option maxRecDepth 100000 in
theorem ml_RX10_220 : Cond.methodLink RX10 220 yX7_thresholdOf ∈ BIG := bg5 221 (by decide +kernel)
set_option maxRecDepth 100000 in
theorem ml_RL_220 : Cond.methodLink RL 220 yL_extras ∈ BIG := bg5 222 (by decide +kernel)
set_option maxRecDepth 100000 in
theorem ml_RL_64 : Cond.methodLink RL 64 yX10_extras ∈ BIG := bg5 225 (by decide +kernel)
set_option maxRecDepth 100000 in
theorem ml_RX10_223 : Cond.methodLink RX10 223 yX7_extrasOn ∈ BIG := bg5 229 (by decide +kernel)
set_option maxRecDepth 100000 in
theorem ml_RL_227 : Cond.methodLink RL 227 yL_balance ∈ BIG := bg5 230 (by decide +kernel)
set_option maxRecDepth 100000 in
theorem ml_RL_67 : Cond.methodLink RL 67 yX10_balance ∈ BIG := bg5 233 (by decide +kernel)
set_option maxRecDepth 100000 in
theorem ml_RL_230 : Cond.methodLink RL 230 yL_debt ∈ BIG := bg5 237 (by decide +kernel)
set_option maxRecDepth 100000 in
theorem ml_RL_70 : Cond.methodLink RL 70 yX10_debt ∈ BIG := bg6 0 (by decide +kernel)
set_option maxRecDepth 100000 in
theorem ml_RX10_226 : Cond.methodLink RX10 226 yX0_debtOf ∈ BIG := bg6 4 (by decide +kernel)
set_option maxRecDepth 100000 in
theorem ml_RL_233 : Cond.methodLink RL 233 yL_available ∈ BIG := bg6 8 (by decide +kernel)
set_option maxRecDepth 100000 in
theorem ml_RL_73 : Cond.methodLink RL 73 yX10_available ∈ BIG := bg6 11 (by decide +kernel)
set_option maxRecDepth 100000 in
theorem ml_RL_236 : Cond.methodLink RL 236 yL_cohortCount ∈ BIG := bg6 15 (by decide +kernel)
set_option maxRecDepth 100000 in
theorem ml_RL_76 : Cond.methodLink RL 76 yX10_cohortCount ∈ BIG := bg6 18 (by decide +kernel)
set_option maxRecDepth 100000 in
theorem ml_RX10_229 : Cond.methodLink RX10 229 yX1_number ∈ BIG := bg6 22 (by decide +kernel)
set_option maxRecDepth 100000 in
theorem ml_RL_239 : Cond.methodLink RL 239 yL_cohort ∈ BIG := bg6 26 (by decide +kernel)
set_option maxRecDepth 100000 in
theorem ml_RL_79 : Cond.methodLink RL 79 yX10_cohort ∈ BIG := bg6 29 (by decide +kernel)
set_option maxRecDepth 100000 in
theorem ml_RX10_232 : Cond.methodLink RX10 232 yX10_needCohort ∈ BIG := bg6 33 (by decide +kernel)
set_option maxRecDepth 100000 in
theorem ml_RX10_235 : Cond.methodLink RX10 235 yX1_part ∈ BIG := bg6 38 (by decide +kernel)
set_option maxRecDepth 100000 in
theorem ml_RL_242 : Cond.methodLink RL 242 yL_household ∈ BIG := bg6 42 (by decide +kernel)
set_option maxRecDepth 100000 in
theorem ml_RL_82 : Cond.methodLink RL 82 yX10_household ∈ BIG := bg6 45 (by decide +kernel)
set_option maxRecDepth 100000 in
theorem ml_RL_245 : Cond.methodLink RL 245 yL_members ∈ BIG := bg6 49 (by decide +kernel)
set_option maxRecDepth 100000 in
theorem ml_RL_85 : Cond.methodLink RL 85 yX10_members ∈ BIG := bg6 52 (by decide +kernel)
set_option maxRecDepth 100000 in
theorem ml_RX10_237 : Cond.methodLink RX10 237 yX0_memberBits ∈ BIG := bg6 56 (by decide +kernel)
set_option maxRecDepth 100000 in
theorem ml_RL_248 : Cond.methodLink RL 248 yL_poolBalance ∈ BIG := bg6 57 (by decide +kernel)
set_option maxRecDepth 100000 in
theorem ml_RL_88 : Cond.methodLink RL 88 yX10_poolBalance ∈ BIG := bg6 60 (by decide +kernel)
set_option maxRecDepth 100000 in
theorem ml_RX10_240 : Cond.methodLink RX10 240 yX10_poolList ∈ BIG := bg6 64 (by decide +kernel)
set_option maxRecDepth 100000 in
theorem ml_RL_251 : Cond.methodLink RL 251 yL_poolCohortCount ∈ BIG := bg6 65 (by decide +kernel)
set_option maxRecDepth 100000 in
theorem ml_RL_91 : Cond.methodLink RL 91 yX10_poolCohortCount ∈ BIG := bg6 68 (by decide +kernel)
set_option maxRecDepth 100000 in
theorem ml_RL_254 : Cond.methodLink RL 254 yL_poolCohort ∈ BIG := bg6 72 (by decide +kernel)
set_option maxRecDepth 100000 in
theorem ml_RL_94 : Cond.methodLink RL 94 yX10_poolCohort ∈ BIG := bg6 75 (by decide +kernel)
set_option maxRecDepth 100000 in
theorem ml_RL_257 : Cond.methodLink RL 257 yL_contributed ∈ BIG := bg6 79 (by decide +kernel)
set_option maxRecDepth 100000 in
theorem ml_RL_97 : Cond.methodLink RL 97 yX10_contributed ∈ BIG := bg6 82 (by decide +kernel)
set_option maxRecDepth 100000 in
theorem ml_RX10_243 : Cond.methodLink RX10 243 yX0_poolOf ∈ BIG := bg6 86 (by decide +kernel)
set_option maxRecDepth 100000 in
theorem ml_RL_260 : Cond.methodLink RL 260 yL_total ∈ BIG := bg6 87 (by decide +kernel)
set_option maxRecDepth 100000 in
theorem ml_RL_100 : Cond.methodLink RL 100 yX10_total ∈ BIG := bg6 90 (by decide +kernel)
set_option maxRecDepth 100000 in
theorem ml_RX10_246 : Cond.methodLink RX10 246 yX0_totalOf ∈ BIG := bg6 94 (by decide +kernel)
set_option maxRecDepth 100000 in
theorem ml_RL_263 : Cond.methodLink RL 263 yL_tier ∈ BIG := bg6 98 (by decide +kernel)
set_option maxRecDepth 100000 in
theorem ml_RL_103 : Cond.methodLink RL 103 yX10_tier ∈ BIG := bg6 101 (by decide +kernel)
set_option maxRecDepth 100000 in
theorem ml_RX10_249 : Cond.methodLink RX10 249 yX0_tierOf ∈ BIG := bg6 105 (by decide +kernel)
set_option maxRecDepth 100000 in
theorem ml_RL_266 : Cond.methodLink RL 266 yL_earnedTier ∈ BIG := bg6 109 (by decide +kernel)
set_option maxRecDepth 100000 in
theorem ml_RL_106 : Cond.methodLink RL 106 yX10_earnedTier ∈ BIG := bg6 112 (by decide +kernel)
set_option maxRecDepth 100000 in
theorem ml_RX10_252 : Cond.methodLink RX10 252 yX0_qualifyingSum ∈ BIG := bg6 116 (by decide +kernel)
set_option maxRecDepth 100000 in
theorem ml_RX10_255 : Cond.methodLink RX10 255 yX7_tierFor ∈ BIG := bg6 120 (by decide +kernel)
set_option maxRecDepth 100000 in
theorem ml_RL_269 : Cond.methodLink RL 269 yL_qualifying ∈ BIG := bg6 121 (by decide +kernel)
set_option maxRecDepth 100000 in
theorem ml_RL_109 : Cond.methodLink RL 109 yX10_qualifying ∈ BIG := bg6 124 (by decide +kernel)
set_option maxRecDepth 100000 in
theorem ml_RL_272 : Cond.methodLink RL 272 yL_belowSince ∈ BIG := bg6 128 (by decide +kernel)
set_option maxRecDepth 100000 in
theorem ml_RL_112 : Cond.methodLink RL 112 yX10_belowSince ∈ BIG := bg6 131 (by decide +kernel)
set_option maxRecDepth 100000 in
theorem ml_RX10_258 : Cond.methodLink RX10 258 yX0_belowDay ∈ BIG := bg6 135 (by decide +kernel)
set_option maxRecDepth 100000 in
theorem ml_RL_275 : Cond.methodLink RL 275 yL_toNextTier ∈ BIG := bg6 139 (by decide +kernel)
set_option maxRecDepth 100000 in
theorem ml_RL_115 : Cond.methodLink RL 115 yX10_toNextTier ∈ BIG := bg6 142 (by decide +kernel)
set_option maxRecDepth 100000 in
theorem ml_RL_278 : Cond.methodLink RL 278 yL_tierAfter ∈ BIG := bg6 147 (by decide +kernel)
set_option maxRecDepth 100000 in
theorem ml_RL_118 : Cond.methodLink RL 118 yX10_tierAfter ∈ BIG := bg6 150 (by decide +kernel)
set_option maxRecDepth 100000 in
theorem ml_RX10_263 : Cond.methodLink RX10 263 yX0_futureTier ∈ BIG := bg6 154 (by decide +kernel)
set_option maxRecDepth 100000 in
theorem ml_RL_281 : Cond.methodLink RL 281 yL_wouldEarn ∈ BIG := bg6 158 (by decide +kernel)
set_option maxRecDepth 100000 in
theorem ml_RL_121 : Cond.methodLink RL 121 yX10_wouldEarn ∈ BIG := bg6 161 (by decide +kernel)
set_option maxRecDepth 100000 in
theorem ml_RX10_266 : Cond.methodLink RX10 266 yX0_worth ∈ BIG := bg6 165 (by decide +kernel)
set_option maxRecDepth 100000 in
theorem ml_RL_284 : Cond.methodLink RL 284 yL_bestCategory ∈ BIG := bg6 166 (by decide +kernel)
set_option maxRecDepth 100000 in
theorem ml_RL_124 : Cond.methodLink RL 124 yX10_bestCategory ∈ BIG := bg6 169 (by decide +kernel)
set_option maxRecDepth 100000 in
theorem ml_RX10_269 : Cond.methodLink RX10 269 yX0_richestCategory ∈ BIG := bg6 173 (by decide +kernel)
set_option maxRecDepth 100000 in
theorem ml_RL_287 : Cond.methodLink RL 287 yL_leastCents ∈ BIG := bg6 178 (by decide +kernel)
set_option maxRecDepth 100000 in
theorem ml_RL_127 : Cond.methodLink RL 127 yX10_leastCents ∈ BIG := bg6 181 (by decide +kernel)
set_option maxRecDepth 100000 in
theorem ml_RX10_274 : Cond.methodLink RX10 274 yX0_smallestCents ∈ BIG := bg6 185 (by decide +kernel)
set_option maxRecDepth 100000 in
theorem cw_RX0_161 : Cond.constant RX0 161 (100000) ∈ BIG := bg6 189 (by decide +kernel)
set_option maxRecDepth 100000 in
theorem ml_RL_294 : Cond.methodLink RL 294 yL_purchasePart ∈ BIG := bg6 191 (by decide +kernel)
set_option maxRecDepth 100000 in
theorem ml_RL_130 : Cond.methodLink RL 130 yX10_purchasePart ∈ BIG := bg6 194 (by decide +kernel)
set_option maxRecDepth 100000 in
theorem ml_RL_297 : Cond.methodLink RL 297 yL_expiringWithin ∈ BIG := bg6 198 (by decide +kernel)
set_option maxRecDepth 100000 in
theorem ml_RL_133 : Cond.methodLink RL 133 yX10_expiringWithin ∈ BIG := bg6 201 (by decide +kernel)
set_option maxRecDepth 100000 in
theorem ml_RX10_281 : Cond.methodLink RX10 281 yX1_sumUntil ∈ BIG := bg6 205 (by decide +kernel)
set_option maxRecDepth 100000 in
theorem ml_RL_300 : Cond.methodLink RL 300 yL_nextExpiry ∈ BIG := bg6 209 (by decide +kernel)
set_option maxRecDepth 100000 in
theorem ml_RL_136 : Cond.methodLink RL 136 yX10_nextExpiry ∈ BIG := bg6 212 (by decide +kernel)
set_option maxRecDepth 100000 in
theorem ml_RX10_284 : Cond.methodLink RX10 284 yX0_soonestExpiry ∈ BIG := bg6 216 (by decide +kernel)
set_option maxRecDepth 100000 in
theorem ml_RL_303 : Cond.methodLink RL 303 yL_redeemedWith ∈ BIG := bg6 221 (by decide +kernel)
set_option maxRecDepth 100000 in
theorem ml_RL_139 : Cond.methodLink RL 139 yX10_redeemedWith ∈ BIG := bg6 224 (by decide +kernel)
set_option maxRecDepth 100000 in
theorem ml_RX10_289 : Cond.methodLink RX10 289 yX0_redeemedIn ∈ BIG := bg6 228 (by decide +kernel)
set_option maxRecDepth 100000 in
theorem ml_RL_306 : Cond.methodLink RL 306 yL_breakage ∈ BIG := bg6 232 (by decide +kernel)
set_option maxRecDepth 100000 in
theorem ml_RL_142 : Cond.methodLink RL 142 yX10_breakage ∈ BIG := bg6 235 (by decide +kernel)
set_option maxRecDepth 100000 in
theorem ml_RL_309 : Cond.methodLink RL 309 yL_poolBreakage ∈ BIG := bg6 239 (by decide +kernel)
set_option maxRecDepth 100000 in
theorem ml_RL_145 : Cond.methodLink RL 145 yX10_poolBreakage ∈ BIG := bg7 2 (by decide +kernel)
set_option maxRecDepth 100000 in
theorem ml_RL_316 : Cond.methodLink RL 316 yL_rankedMember ∈ BIG := bg7 6 (by decide +kernel)
set_option maxRecDepth 100000 in
theorem ml_RL_148 : Cond.methodLink RL 148 yX10_rankedMember ∈ BIG := bg7 9 (by decide +kernel)
set_option maxRecDepth 100000 in
theorem ml_RX10_297 : Cond.methodLink RX10 297 yX0_memberAtRank ∈ BIG := bg7 14 (by decide +kernel)
set_option maxRecDepth 100000 in
theorem ml_RX0_264 : Cond.methodLink RX0 264 yX0_ranksBefore ∈ BIG := bg7 18 (by decide +kernel)
set_option maxRecDepth 100000 in
theorem ml_RX0_267 : Cond.methodLink RX0 267 yX7_nameOf ∈ BIG := bg7 22 (by decide +kernel)
set_option maxRecDepth 100000 in
theorem ml_RL_323 : Cond.methodLink RL 323 yL_log ∈ BIG := bg7 26 (by decide +kernel)
set_option maxRecDepth 100000 in
theorem ml_RL_151 : Cond.methodLink RL 151 yX10_log ∈ BIG := bg7 29 (by decide +kernel)
set_option maxRecDepth 100000 in
theorem ml_RX10_311 : Cond.methodLink RX10 311 yX4_part ∈ BIG := bg7 34 (by decide +kernel)
set_option maxRecDepth 100000 in
theorem ml_RX4_31 : Cond.methodLink RX4 31 yX6_at ∈ BIG := bg7 38 (by decide +kernel)
set_option maxRecDepth 100000 in
theorem ml_RL_326 : Cond.methodLink RL 326 yL_undo ∈ BIG := bg7 39 (by decide +kernel)
set_option maxRecDepth 100000 in
theorem ml_RL_154 : Cond.methodLink RL 154 yX10_undo ∈ BIG := bg7 42 (by decide +kernel)
set_option maxRecDepth 100000 in
theorem ml_RX10_315 : Cond.methodLink RX10 315 yX2_giveBack ∈ BIG := bg7 47 (by decide +kernel)
set_option maxRecDepth 100000 in
theorem ml_RL_337 : Cond.methodLink RL 337 yL_restore ∈ BIG := bg7 51 (by decide +kernel)
set_option maxRecDepth 100000 in
theorem ml_RL_157 : Cond.methodLink RL 157 yX10_restore ∈ BIG := bg7 54 (by decide +kernel)
set_option maxRecDepth 100000 in
theorem ml_RL_170 : Cond.methodLink RL 170 yX11_thrown ∈ BIG := bg7 59 (by decide +kernel)
set_option maxRecDepth 100000 in
theorem clk_RL_161 : Cond.classLink RL 161 RX11 ∈ BIG := bg7 63 (by decide +kernel)
set_option maxRecDepth 100000 in
theorem ins_RX11 : Cond.instantiable RX11 23 ∈ BIG := bg7 64 (by decide +kernel)
set_option maxRecDepth 100000 in
theorem ml_RL_163 : Cond.methodLink RL 163 yX11_init ∈ BIG := bg7 65 (by decide +kernel)
set_option maxRecDepth 100000 in
theorem ml_RX11_7 : Cond.methodLink RX11 7 Lib.objectInit ∈ BIG := bg7 68 (by decide +kernel)
set_option maxRecDepth 100000 in
theorem cw_RX11_39 : Cond.constant RX11 39 (72470) ∈ BIG := bg7 69 (by decide +kernel)
set_option maxRecDepth 100000 in
theorem cw_RX11_46 : Cond.constant RX11 46 (579760) ∈ BIG := bg7 70 (by decide +kernel)
set_option maxRecDepth 100000 in
theorem ml_RX11_53 : Cond.methodLink RX11 53 yX11_begins ∈ BIG := bg7 71 (by decide +kernel)
set_option maxRecDepth 100000 in
theorem ml_RX11_57 : Cond.methodLink RX11 57 yX11_starts ∈ BIG := bg7 74 (by decide +kernel)
set_option maxRecDepth 100000 in
theorem fl_RX11_3 : Cond.fieldLink RX11 3 "PointsLedgerModel" "thrown" "I" ∈ BIG := bg7 78 (by decide +kernel)
set_option maxRecDepth 100000 in
theorem fl_RX11_13 : Cond.fieldLink RX11 13 "PointsLedgerModel" "fixed" "[I" ∈ BIG := bg7 79 (by decide +kernel)
set_option maxRecDepth 100000 in
theorem fl_RX11_17 : Cond.fieldLink RX11 17 "PointsLedgerModel" "read" "[I" ∈ BIG := bg7 80 (by decide +kernel)
set_option maxRecDepth 100000 in
theorem fl_RX11_20 : Cond.fieldLink RX11 20 "PointsLedgerModel" "letters" "[B" ∈ BIG := bg7 81 (by decide +kernel)
set_option maxRecDepth 100000 in
theorem fl_RX11_24 : Cond.fieldLink RX11 24 "PointsLedgerModel" "lettersRead" "[B" ∈ BIG := bg7 82 (by decide +kernel)
set_option maxRecDepth 100000 in
theorem fl_RX11_27 : Cond.fieldLink RX11 27 "PointsLedgerModel" "sort" "[I" ∈ BIG := bg7 83 (by decide +kernel)
set_option maxRecDepth 100000 in
theorem fl_RX11_30 : Cond.fieldLink RX11 30 "PointsLedgerModel" "sortRead" "[I" ∈ BIG := bg7 84 (by decide +kernel)
set_option maxRecDepth 100000 in
theorem fl_RX11_33 : Cond.fieldLink RX11 33 "PointsLedgerModel" "which" "[I" ∈ BIG := bg7 85 (by decide +kernel)
set_option maxRecDepth 100000 in
theorem fl_RX11_36 : Cond.fieldLink RX11 36 "PointsLedgerModel" "whichRead" "[I" ∈ BIG := bg7 86 (by decide +kernel)
set_option maxRecDepth 100000 in
theorem fl_RX11_40 : Cond.fieldLink RX11 40 "PointsLedgerModel" "now" "[I" ∈ BIG := bg7 87 (by decide +kernel)
set_option maxRecDepth 100000 in
theorem fl_RX11_43 : Cond.fieldLink RX11 43 "PointsLedgerModel" "kept" "[I" ∈ BIG := bg7 88 (by decide +kernel)
set_option maxRecDepth 100000 in
theorem fl_RX11_47 : Cond.fieldLink RX11 47 "PointsLedgerModel" "past" "[I" ∈ BIG := bg7 89 (by decide +kernel)
set_option maxRecDepth 100000 in
theorem fl_RX11_60 : Cond.fieldLink RX11 60 "PointsLedgerModel" "changes" "I" ∈ BIG := bg7 90 (by decide +kernel)
set_option maxRecDepth 100000 in
theorem fl_RX11_206 : Cond.fieldLink RX11 206 "PointsLedgerModel" "isKept" "Z" ∈ BIG := bg7 91 (by decide +kernel)
set_option maxRecDepth 100000 in
theorem fl_RX11_50 : Cond.fieldLink RX11 50 "PointsLedgerModel" "buffer" "[B" ∈ BIG := bg7 92 (by decide +kernel)
set_option maxRecDepth 100000 in
theorem fl_RX11_64 : Cond.fieldLink RX11 64 "PointsLedgerModel" "length" "I" ∈ BIG := bg7 93 (by decide +kernel)
set_option maxRecDepth 100000 in
theorem fl_RX11_82 : Cond.fieldLink RX11 82 "PointsLedgerModel" "at" "I" ∈ BIG := bg7 94 (by decide +kernel)
set_option maxRecDepth 100000 in
theorem fl_RX11_89 : Cond.fieldLink RX11 89 "PointsLedgerModel" "token" "I" ∈ BIG := bg7 95 (by decide +kernel)
set_option maxRecDepth 100000 in
theorem fl_RX11_92 : Cond.fieldLink RX11 92 "PointsLedgerModel" "error" "I" ∈ BIG := bg7 96 (by decide +kernel)
set_option maxRecDepth 100000 in
theorem fl_RX11_156 : Cond.fieldLink RX11 156 "PointsLedgerModel" "hasTier" "Z" ∈ BIG := bg7 97 (by decide +kernel)
set_option maxRecDepth 100000 in
theorem fl_RX11_176 : Cond.fieldLink RX11 176 "PointsLedgerModel" "seen" "I" ∈ BIG := bg7 98 (by decide +kernel)
set_option maxRecDepth 100000 in
theorem fl_RX11_236 : Cond.fieldLink RX11 236 "PointsLedgerModel" "rank" "I" ∈ BIG := bg7 99 (by decide +kernel)
set_option maxRecDepth 100000 in
theorem fl_RX11_239 : Cond.fieldLink RX11 239 "PointsLedgerModel" "below" "I" ∈ BIG := bg7 100 (by decide +kernel)
set_option maxRecDepth 100000 in
theorem ml_RL_169 : Cond.methodLink RL 169 yX11_append ∈ BIG := bg7 148 (by decide +kernel)
set_option maxRecDepth 100000 in
theorem ml_RX11_67 : Cond.methodLink RX11 67 yX11_bytesOf ∈ BIG := bg7 152 (by decide +kernel)
set_option maxRecDepth 100000 in
theorem ml_RX11_71 : Cond.methodLink RX11 71 yX11_fails ∈ BIG := bg7 155 (by decide +kernel)
set_option maxRecDepth 100000 in
theorem ml_RX11_74 : Cond.methodLink RX11 74 yX11_brings ∈ BIG := bg7 159 (by decide +kernel)
set_option maxRecDepth 100000 in
theorem ml_RL_176 : Cond.methodLink RL 176 yX11_truncate ∈ BIG := bg7 163 (by decide +kernel)
set_option maxRecDepth 100000 in
theorem ml_RX11_78 : Cond.methodLink RX11 78 yX11_isIn ∈ BIG := bg7 167 (by decide +kernel)
set_option maxRecDepth 100000 in
theorem ml_RL_180 : Cond.methodLink RL 180 yX11_errorPosition ∈ BIG := bg7 170 (by decide +kernel)
set_option maxRecDepth 100000 in
theorem ml_RX11_203 : Cond.methodLink RX11 203 yX11_readsText ∈ BIG := bg7 174 (by decide +kernel)
set_option maxRecDepth 100000 in
theorem ml_RX11_200 : Cond.methodLink RX11 200 yX11_readsStatement ∈ BIG := bg7 178 (by decide +kernel)
set_option maxRecDepth 100000 in
theorem ml_RX11_95 : Cond.methodLink RX11 95 yX11_look ∈ BIG := bg7 182 (by decide +kernel)
set_option maxRecDepth 100000 in
theorem ml_RX11_85 : Cond.methodLink RX11 85 yX11_here ∈ BIG := bg7 186 (by decide +kernel)
set_option maxRecDepth 100000 in
theorem ml_RX11_179 : Cond.methodLink RX11 179 yX11_takes ∈ BIG := bg7 191 (by decide +kernel)
set_option maxRecDepth 100000 in
theorem ml_RX11_117 : Cond.methodLink RX11 117 yX11_isWord ∈ BIG := bg7 195 (by decide +kernel)
set_option maxRecDepth 100000 in
theorem ml_RX11_102 : Cond.methodLink RX11 102 yX11_isFine ∈ BIG := bg7 199 (by decide +kernel)
set_option maxRecDepth 100000 in
theorem ml_RX11_106 : Cond.methodLink RX11 106 yX11_wordLength ∈ BIG := bg7 203 (by decide +kernel)
set_option maxRecDepth 100000 in
theorem ml_RX11_98 : Cond.methodLink RX11 98 yX11_isLetter ∈ BIG := bg7 207 (by decide +kernel)
set_option maxRecDepth 100000 in
theorem ml_RX11_109 : Cond.methodLink RX11 109 yJ0_length_8abf5 ∈ BIG := bg7 210 (by decide +kernel)
set_option maxRecDepth 100000 in
theorem ml_RX11_113 : Cond.methodLink RX11 113 yJ0_charAt_5068e ∈ BIG := bg7 211 (by decide +kernel)
set_option maxRecDepth 100000 in
theorem ml_RX11_182 : Cond.methodLink RX11 182 yX11_readsTier ∈ BIG := bg7 212 (by decide +kernel)
set_option maxRecDepth 100000 in
theorem ml_RX11_160 : Cond.methodLink RX11 160 yX11_room ∈ BIG := bg7 216 (by decide +kernel)
set_option maxRecDepth 100000 in
theorem ml_RX11_140 : Cond.methodLink RX11 140 yX11_wrongAt ∈ BIG := bg7 220 (by decide +kernel)
set_option maxRecDepth 100000 in
theorem ml_RX11_164 : Cond.methodLink RX11 164 yX11_names ∈ BIG := bg7 224 (by decide +kernel)
set_option maxRecDepth 100000 in
theorem cw_RX11_147 : Cond.constantLong RX11 147 (6) ∈ BIG := bg7 228 (by decide +kernel)
set_option maxRecDepth 100000 in
theorem ml_RX11_149 : Cond.methodLink RX11 149 yX11_isKeyword ∈ BIG := bg7 229 (by decide +kernel)
set_option maxRecDepth 100000 in
theorem ml_RX11_152 : Cond.methodLink RX11 152 yX11_rowOf ∈ BIG := bg8 0 (by decide +kernel)
set_option maxRecDepth 100000 in
theorem cw_RX11_167 : Cond.constant RX11 167 (1000000) ∈ BIG := bg8 3 (by decide +kernel)
set_option maxRecDepth 100000 in
theorem ml_RX11_168 : Cond.methodLink RX11 168 yX11_reads ∈ BIG := bg8 4 (by decide +kernel)
set_option maxRecDepth 100000 in
theorem ml_RX11_143 : Cond.methodLink RX11 143 yX11_number ∈ BIG := bg8 8 (by decide +kernel)
set_option maxRecDepth 100000 in
theorem ml_RX11_137 : Cond.methodLink RX11 137 yX11_isDigit ∈ BIG := bg8 12 (by decide +kernel)
set_option maxRecDepth 100000 in
theorem ml_RX11_185 : Cond.methodLink RX11 185 yX11_readsCategory ∈ BIG := bg8 15 (by decide +kernel)
set_option maxRecDepth 100000 in
theorem cw_RX11_172 : Cond.constant RX11 172 (100000) ∈ BIG := bg8 19 (by decide +kernel)
set_option maxRecDepth 100000 in
theorem ml_RX11_188 : Cond.methodLink RX11 188 yX11_readsPromo ∈ BIG := bg8 20 (by decide +kernel)
set_option maxRecDepth 100000 in
theorem ml_RX11_173 : Cond.methodLink RX11 173 yX11_categoryName ∈ BIG := bg8 24 (by decide +kernel)
set_option maxRecDepth 100000 in
theorem ml_RX11_191 : Cond.methodLink RX11 191 yX11_readsMember ∈ BIG := bg8 28 (by decide +kernel)
set_option maxRecDepth 100000 in
theorem ml_RX11_194 : Cond.methodLink RX11 194 yX11_readsHouse ∈ BIG := bg8 32 (by decide +kernel)
set_option maxRecDepth 100000 in
theorem ml_RX11_197 : Cond.methodLink RX11 197 yX11_readsOnce ∈ BIG := bg8 36 (by decide +kernel)
set_option maxRecDepth 100000 in
theorem ml_RL_184 : Cond.methodLink RL 184 yX11_load ∈ BIG := bg8 40 (by decide +kernel)
set_option maxRecDepth 100000 in
theorem ml_RL_187 : Cond.methodLink RL 187 yX11_find ∈ BIG := bg8 44 (by decide +kernel)
set_option maxRecDepth 100000 in
theorem ml_RL_191 : Cond.methodLink RL 191 yX11_purchase ∈ BIG := bg8 48 (by decide +kernel)
set_option maxRecDepth 100000 in
theorem ml_RX11_265 : Cond.methodLink RX11 265 yX11_whyNotBuy ∈ BIG := bg8 52 (by decide +kernel)
set_option maxRecDepth 100000 in
theorem ml_RX11_257 : Cond.methodLink RX11 257 yX11_isMember ∈ BIG := bg8 56 (by decide +kernel)
set_option maxRecDepth 100000 in
theorem ml_RX11_260 : Cond.methodLink RX11 260 yX11_isCategory ∈ BIG := bg8 60 (by decide +kernel)
set_option maxRecDepth 100000 in
theorem cw_RX11_263 : Cond.constantLong RX11 263 (100000) ∈ BIG := bg8 64 (by decide +kernel)
set_option maxRecDepth 100000 in
theorem ml_RX11_268 : Cond.methodLink RX11 268 yX11_remembers ∈ BIG := bg8 65 (by decide +kernel)
set_option maxRecDepth 100000 in
theorem cw_RX11_63 : Cond.constant RX11 63 (507290) ∈ BIG := bg8 69 (by decide +kernel)
set_option maxRecDepth 100000 in
theorem ml_RX11_271 : Cond.methodLink RX11 271 yX11_pointsOf ∈ BIG := bg8 70 (by decide +kernel)
set_option maxRecDepth 100000 in
theorem ml_RX11_224 : Cond.methodLink RX11 224 yX11_baseOf ∈ BIG := bg8 74 (by decide +kernel)
set_option maxRecDepth 100000 in
theorem ml_RX11_209 : Cond.methodLink RX11 209 yX11_today0 ∈ BIG := bg8 78 (by decide +kernel)
set_option maxRecDepth 100000 in
theorem ml_RX11_227 : Cond.methodLink RX11 227 yX11_extrasOf ∈ BIG := bg8 82 (by decide +kernel)
set_option maxRecDepth 100000 in
theorem cw_RX11_274 : Cond.constantLong RX11 274 (100) ∈ BIG := bg8 86 (by decide +kernel)
set_option maxRecDepth 100000 in
theorem ml_RX11_215 : Cond.methodLink RX11 215 yX11_poolAt ∈ BIG := bg8 87 (by decide +kernel)
set_option maxRecDepth 100000 in
theorem ml_RX11_276 : Cond.methodLink RX11 276 yX11_credits ∈ BIG := bg8 90 (by decide +kernel)
set_option maxRecDepth 100000 in
theorem ml_RX11_219 : Cond.methodLink RX11 219 yJ9_min_7cf53 ∈ BIG := bg8 94 (by decide +kernel)
set_option maxRecDepth 100000 in
theorem ml_RX11_230 : Cond.methodLink RX11 230 yX11_accountAt ∈ BIG := bg8 95 (by decide +kernel)
set_option maxRecDepth 100000 in
theorem ml_RX11_279 : Cond.methodLink RX11 279 yX11_writes ∈ BIG := bg8 98 (by decide +kernel)
set_option maxRecDepth 100000 in
theorem ml_RX11_251 : Cond.methodLink RX11 251 yX11_logs ∈ BIG := bg8 102 (by decide +kernel)
set_option maxRecDepth 100000 in
theorem ml_RX11_283 : Cond.methodLink RX11 283 yX11_checksTier ∈ BIG := bg8 106 (by decide +kernel)
set_option maxRecDepth 100000 in
theorem ml_RX11_242 : Cond.methodLink RX11 242 yX11_sumUpTo ∈ BIG := bg8 110 (by decide +kernel)
set_option maxRecDepth 100000 in
theorem ml_RX11_233 : Cond.methodLink RX11 233 yX11_baseOn ∈ BIG := bg8 114 (by decide +kernel)
set_option maxRecDepth 100000 in
theorem ml_RX11_245 : Cond.methodLink RX11 245 yX11_tierBy ∈ BIG := bg8 118 (by decide +kernel)
set_option maxRecDepth 100000 in
theorem ml_RX11_248 : Cond.methodLink RX11 248 yX11_checks ∈ BIG := bg8 122 (by decide +kernel)
set_option maxRecDepth 100000 in
theorem ml_RL_194 : Cond.methodLink RL 194 yX11_refund ∈ BIG := bg8 126 (by decide +kernel)
set_option maxRecDepth 100000 in
theorem ml_RX11_289 : Cond.methodLink RX11 289 yX11_isBought ∈ BIG := bg8 130 (by decide +kernel)
set_option maxRecDepth 100000 in
theorem ml_RX11_254 : Cond.methodLink RX11 254 yJ9_max_7cf53 ∈ BIG := bg8 134 (by decide +kernel)
set_option maxRecDepth 100000 in
theorem ml_RX11_292 : Cond.methodLink RX11 292 yX11_bought ∈ BIG := bg8 135 (by decide +kernel)
set_option maxRecDepth 100000 in
theorem ml_RX11_286 : Cond.methodLink RX11 286 yX11_takesAt ∈ BIG := bg8 139 (by decide +kernel)
set_option maxRecDepth 100000 in
theorem ml_RX11_295 : Cond.methodLink RX11 295 yX11_takesFromAccount ∈ BIG := bg8 143 (by decide +kernel)
set_option maxRecDepth 100000 in
theorem ml_RX11_212 : Cond.methodLink RX11 212 yX11_lastExpiry ∈ BIG := bg8 147 (by decide +kernel)
set_option maxRecDepth 100000 in
theorem ml_RX11_298 : Cond.methodLink RX11 298 yX11_takesOwn ∈ BIG := bg8 151 (by decide +kernel)
set_option maxRecDepth 100000 in
theorem ml_RL_198 : Cond.methodLink RL 198 yX11_redeem ∈ BIG := bg8 155 (by decide +kernel)
set_option maxRecDepth 100000 in
theorem ml_RX11_304 : Cond.methodLink RX11 304 yX11_inAccount ∈ BIG := bg8 159 (by decide +kernel)
set_option maxRecDepth 100000 in
theorem ml_RX11_307 : Cond.methodLink RX11 307 yX11_inPool ∈ BIG := bg8 163 (by decide +kernel)
set_option maxRecDepth 100000 in
theorem ml_RX11_310 : Cond.methodLink RX11 310 yX11_redeems ∈ BIG := bg8 167 (by decide +kernel)
set_option maxRecDepth 100000 in
theorem ml_RX11_301 : Cond.methodLink RX11 301 yX11_partOf ∈ BIG := bg8 171 (by decide +kernel)
set_option maxRecDepth 100000 in
theorem ml_RL_201 : Cond.methodLink RL 201 yX11_transfer ∈ BIG := bg8 175 (by decide +kernel)
set_option maxRecDepth 100000 in
theorem ml_RL_204 : Cond.methodLink RL 204 yX11_join ∈ BIG := bg8 179 (by decide +kernel)
set_option maxRecDepth 100000 in
theorem ml_RX11_313 : Cond.methodLink RX11 313 yX11_isHouse ∈ BIG := bg8 183 (by decide +kernel)
set_option maxRecDepth 100000 in
theorem ml_RX11_316 : Cond.methodLink RX11 316 yX11_living ∈ BIG := bg8 187 (by decide +kernel)
set_option maxRecDepth 100000 in
theorem ml_RL_207 : Cond.methodLink RL 207 yX11_leave ∈ BIG := bg8 191 (by decide +kernel)
set_option maxRecDepth 100000 in
theorem ml_RL_210 : Cond.methodLink RL 210 yX11_setShare ∈ BIG := bg8 195 (by decide +kernel)
set_option maxRecDepth 100000 in
theorem ml_RL_213 : Cond.methodLink RL 213 yX11_advance ∈ BIG := bg8 199 (by decide +kernel)
set_option maxRecDepth 100000 in
theorem cw_RX11_322 : Cond.constantLong RX11 322 (400) ∈ BIG := bg8 203 (by decide +kernel)
set_option maxRecDepth 100000 in
theorem ml_RX11_324 : Cond.methodLink RX11 324 yX11_passes ∈ BIG := bg8 204 (by decide +kernel)
set_option maxRecDepth 100000 in
theorem ml_RX11_319 : Cond.methodLink RX11 319 yX11_expiresAt ∈ BIG := bg8 208 (by decide +kernel)
set_option maxRecDepth 100000 in
theorem ml_RL_216 : Cond.methodLink RL 216 yX11_setup ∈ BIG := bg8 212 (by decide +kernel)
set_option maxRecDepth 100000 in
theorem cw_RX11_327 : Cond.constantLong RX11 327 (7) ∈ BIG := bg8 216 (by decide +kernel)
set_option maxRecDepth 100000 in
theorem ml_RL_219 : Cond.methodLink RL 219 yX11_threshold ∈ BIG := bg8 217 (by decide +kernel)
set_option maxRecDepth 100000 in
theorem ml_RL_222 : Cond.methodLink RL 222 yX11_extras ∈ BIG := bg8 221 (by decide +kernel)
set_option maxRecDepth 100000 in
theorem cw_RX11_329 : Cond.constantLong RX11 329 (9999) ∈ BIG := bg8 225 (by decide +kernel)
set_option maxRecDepth 100000 in
theorem ml_RL_226 : Cond.methodLink RL 226 yX11_today ∈ BIG := bg8 226 (by decide +kernel)
set_option maxRecDepth 100000 in
theorem ml_RL_229 : Cond.methodLink RL 229 yX11_balance ∈ BIG := bg8 230 (by decide +kernel)
set_option maxRecDepth 100000 in
theorem ml_RX11_331 : Cond.methodLink RX11 331 yX11_lacksMember ∈ BIG := bg8 234 (by decide +kernel)
set_option maxRecDepth 100000 in
theorem ml_RL_232 : Cond.methodLink RL 232 yX11_debt ∈ BIG := bg8 238 (by decide +kernel)
set_option maxRecDepth 100000 in
theorem ml_RL_235 : Cond.methodLink RL 235 yX11_available ∈ BIG := bg9 2 (by decide +kernel)
set_option maxRecDepth 100000 in
theorem ml_RL_238 : Cond.methodLink RL 238 yX11_cohortCount ∈ BIG := bg9 6 (by decide +kernel)
set_option maxRecDepth 100000 in
theorem ml_RL_241 : Cond.methodLink RL 241 yX11_cohort ∈ BIG := bg9 10 (by decide +kernel)
set_option maxRecDepth 100000 in
theorem ml_RX11_334 : Cond.methodLink RX11 334 yX11_cohortDay ∈ BIG := bg9 14 (by decide +kernel)
set_option maxRecDepth 100000 in
theorem ml_RL_244 : Cond.methodLink RL 244 yX11_household ∈ BIG := bg9 18 (by decide +kernel)
set_option maxRecDepth 100000 in
theorem ml_RL_247 : Cond.methodLink RL 247 yX11_members ∈ BIG := bg9 22 (by decide +kernel)
set_option maxRecDepth 100000 in
theorem ml_RX11_337 : Cond.methodLink RX11 337 yX11_lacksHouse ∈ BIG := bg9 26 (by decide +kernel)
set_option maxRecDepth 100000 in
theorem ml_RL_250 : Cond.methodLink RL 250 yX11_poolBalance ∈ BIG := bg9 30 (by decide +kernel)
set_option maxRecDepth 100000 in
theorem ml_RL_253 : Cond.methodLink RL 253 yX11_poolCohortCount ∈ BIG := bg9 34 (by decide +kernel)
set_option maxRecDepth 100000 in
theorem ml_RX11_340 : Cond.methodLink RX11 340 yX11_poolCohorts ∈ BIG := bg9 38 (by decide +kernel)
set_option maxRecDepth 100000 in
theorem ml_RL_256 : Cond.methodLink RL 256 yX11_poolCohort ∈ BIG := bg9 42 (by decide +kernel)
set_option maxRecDepth 100000 in
theorem cw_RX11_343 : Cond.constantLong RX11 343 (2) ∈ BIG := bg9 46 (by decide +kernel)
set_option maxRecDepth 100000 in
theorem ml_RL_259 : Cond.methodLink RL 259 yX11_contributed ∈ BIG := bg9 47 (by decide +kernel)
set_option maxRecDepth 100000 in
theorem ml_RL_262 : Cond.methodLink RL 262 yX11_total ∈ BIG := bg9 51 (by decide +kernel)
set_option maxRecDepth 100000 in
theorem ml_RL_265 : Cond.methodLink RL 265 yX11_tier ∈ BIG := bg9 55 (by decide +kernel)
set_option maxRecDepth 100000 in
theorem ml_RL_268 : Cond.methodLink RL 268 yX11_earnedTier ∈ BIG := bg9 59 (by decide +kernel)
set_option maxRecDepth 100000 in
theorem ml_RL_271 : Cond.methodLink RL 271 yX11_qualifying ∈ BIG := bg9 63 (by decide +kernel)
set_option maxRecDepth 100000 in
theorem ml_RL_274 : Cond.methodLink RL 274 yX11_belowSince ∈ BIG := bg9 67 (by decide +kernel)
set_option maxRecDepth 100000 in
theorem ml_RL_277 : Cond.methodLink RL 277 yX11_toNextTier ∈ BIG := bg9 71 (by decide +kernel)
set_option maxRecDepth 100000 in
theorem ml_RL_280 : Cond.methodLink RL 280 yX11_tierAfter ∈ BIG := bg9 75 (by decide +kernel)
set_option maxRecDepth 100000 in
theorem cw_RX11_345 : Cond.constantLong RX11 345 (2000) ∈ BIG := bg9 79 (by decide +kernel)
set_option maxRecDepth 100000 in
theorem ml_RL_283 : Cond.methodLink RL 283 yX11_wouldEarn ∈ BIG := bg9 80 (by decide +kernel)
set_option maxRecDepth 100000 in
theorem ml_RL_286 : Cond.methodLink RL 286 yX11_bestCategory ∈ BIG := bg9 84 (by decide +kernel)
set_option maxRecDepth 100000 in
theorem ml_RL_289 : Cond.methodLink RL 289 yX11_leastCents ∈ BIG := bg9 88 (by decide +kernel)
set_option maxRecDepth 100000 in
theorem ml_RL_293 : Cond.methodLink RL 293 yX11_purchaseCount ∈ BIG := bg9 92 (by decide +kernel)
set_option maxRecDepth 100000 in
theorem ml_RL_296 : Cond.methodLink RL 296 yX11_purchasePart ∈ BIG := bg9 96 (by decide +kernel)
set_option maxRecDepth 100000 in
theorem ml_RL_299 : Cond.methodLink RL 299 yX11_expiringWithin ∈ BIG := bg9 100 (by decide +kernel)
set_option maxRecDepth 100000 in
theorem ml_RL_302 : Cond.methodLink RL 302 yX11_nextExpiry ∈ BIG := bg9 104 (by decide +kernel)
set_option maxRecDepth 100000 in
theorem ml_RX11_347 : Cond.methodLink RX11 347 yX11_isAnyAt ∈ BIG := bg9 108 (by decide +kernel)
set_option maxRecDepth 100000 in
theorem ml_RL_305 : Cond.methodLink RL 305 yX11_redeemedWith ∈ BIG := bg9 112 (by decide +kernel)
set_option maxRecDepth 100000 in
theorem cw_RX11_351 : Cond.constantLong RX11 351 (9) ∈ BIG := bg9 116 (by decide +kernel)
set_option maxRecDepth 100000 in
theorem ml_RL_308 : Cond.methodLink RL 308 yX11_breakage ∈ BIG := bg9 117 (by decide +kernel)
set_option maxRecDepth 100000 in
theorem ml_RX11_356 : Cond.methodLink RX11 356 yX11_breakageOf ∈ BIG := bg9 121 (by decide +kernel)
set_option maxRecDepth 100000 in
theorem ml_RX11_353 : Cond.methodLink RX11 353 yX11_estimate ∈ BIG := bg9 125 (by decide +kernel)
set_option maxRecDepth 100000 in
theorem ml_RL_311 : Cond.methodLink RL 311 yX11_poolBreakage ∈ BIG := bg9 129 (by decide +kernel)
set_option maxRecDepth 100000 in
theorem ml_RX11_359 : Cond.methodLink RX11 359 yX11_poolBreakageOf ∈ BIG := bg9 133 (by decide +kernel)
set_option maxRecDepth 100000 in
theorem ml_RL_315 : Cond.methodLink RL 315 yX11_totalBreakage ∈ BIG := bg9 137 (by decide +kernel)
set_option maxRecDepth 100000 in
theorem ml_RL_318 : Cond.methodLink RL 318 yX11_rankedMember ∈ BIG := bg9 141 (by decide +kernel)
set_option maxRecDepth 100000 in
theorem ml_RX11_368 : Cond.methodLink RX11 368 yX11_isAhead ∈ BIG := bg9 145 (by decide +kernel)
set_option maxRecDepth 100000 in
theorem ml_RX11_365 : Cond.methodLink RX11 365 yX11_isNameAhead ∈ BIG := bg9 149 (by decide +kernel)
set_option maxRecDepth 100000 in
theorem ml_RX11_362 : Cond.methodLink RX11 362 yX11_rowOfMember ∈ BIG := bg9 153 (by decide +kernel)
set_option maxRecDepth 100000 in
theorem ml_RL_322 : Cond.methodLink RL 322 yX11_logSize ∈ BIG := bg9 157 (by decide +kernel)
set_option maxRecDepth 100000 in
theorem ml_RL_325 : Cond.methodLink RL 325 yX11_log ∈ BIG := bg9 161 (by decide +kernel)
set_option maxRecDepth 100000 in
theorem cw_RX11_371 : Cond.constantLong RX11 371 (3) ∈ BIG := bg9 165 (by decide +kernel)
set_option maxRecDepth 100000 in
theorem ml_RL_328 : Cond.methodLink RL 328 yX11_undo ∈ BIG := bg9 166 (by decide +kernel)
set_option maxRecDepth 100000 in
theorem ml_RL_332 : Cond.methodLink RL 332 yX11_undoCount ∈ BIG := bg9 170 (by decide +kernel)
set_option maxRecDepth 100000 in
theorem ml_RL_336 : Cond.methodLink RL 336 yX11_save ∈ BIG := bg9 174 (by decide +kernel)
set_option maxRecDepth 100000 in
theorem ml_RL_339 : Cond.methodLink RL 339 yX11_restore ∈ BIG := bg9 178 (by decide +kernel)
set_option maxRecDepth 100000 in
theorem fl_RJ0_9 : Cond.fieldLink RJ0 9 "java/lang/String" "value" "[B" ∈ BIG := bg9 202 (by decide +kernel)
set_option maxRecDepth 100000 in
theorem fl_RJ0_15 : Cond.fieldLink RJ0 15 "java/lang/String" "coder" "B" ∈ BIG := bg9 203 (by decide +kernel)
set_option maxRecDepth 100000 in
theorem mi_yX10_init : jMi yX10_init cX10_init 1 0 := ⟨⟨bg1 31 (by decide +kernel), ini_RX10, by decide +kernel⟩, bg1 30 (by decide +kernel), rfl⟩
set_option maxRecDepth 100000 in
theorem mi_yX3_init : jMi yX3_init cX3_init 1 0 := ⟨⟨bg1 39 (by decide +kernel), ini_RX3, by decide +kernel⟩, bg1 38 (by decide +kernel), rfl⟩
set_option maxRecDepth 100000 in
theorem mi_yX7_init : jMi yX7_init cX7_init 1 0 := ⟨⟨bg1 53 (by decide +kernel), ini_RX7, by decide +kernel⟩, bg1 52 (by decide +kernel), rfl⟩
set_option maxRecDepth 100000 in
theorem mi_yX6_init : jMi yX6_init cX6_init 2 1 := ⟨⟨bg1 59 (by decide +kernel), ini_RX6, by decide +kernel⟩, bg1 58 (by decide +kernel), rfl⟩
set_option maxRecDepth 100000 in
theorem mi_yX7_clear : jMv yX7_clear cX7_clear 1 (none : Option FieldType) 0 := ⟨⟨bg1 68 (by decide +kernel), ini_RX7, by decide +kernel⟩, bg1 66 (by decide +kernel), bg1 67 (by decide +kernel)⟩
set_option maxRecDepth 100000 in
theorem mi_yX6_fill : jMv yX6_fill cX6_fill 3 (none : Option FieldType) 1 := ⟨⟨bg1 72 (by decide +kernel), ini_RX6, by decide +kernel⟩, bg1 70 (by decide +kernel), bg1 71 (by decide +kernel)⟩
set_option maxRecDepth 100000 in
theorem mi_yX7_finish : jMv yX7_finish cX7_finish 1 (none : Option FieldType) 0 := ⟨⟨bg1 76 (by decide +kernel), ini_RX7, by decide +kernel⟩, bg1 74 (by decide +kernel), bg1 75 (by decide +kernel)⟩
set_option maxRecDepth 100000 in
theorem mi_yX6_at : jMv yX6_at cX6_at 2 (some FieldType.int) 1 := ⟨⟨bg1 80 (by decide +kernel), ini_RX6, by decide +kernel⟩, bg1 78 (by decide +kernel), bg1 79 (by decide +kernel)⟩
set_option maxRecDepth 100000 in
theorem mi_yX6_put : jMv yX6_put cX6_put 3 (none : Option FieldType) 2 := ⟨⟨bg1 84 (by decide +kernel), ini_RX6, by decide +kernel⟩, bg1 82 (by decide +kernel), bg1 83 (by decide +kernel)⟩
set_option maxRecDepth 100000 in
theorem mi_yX8_init : jMi yX8_init cX8_init 3 2 := ⟨⟨bg1 132 (by decide +kernel), ini_RX8, by decide +kernel⟩, bg1 131 (by decide +kernel), rfl⟩
set_option maxRecDepth 100000 in
theorem mi_yX0_init : jMi yX0_init cX0_init 2 1 := ⟨⟨bg1 157 (by decide +kernel), ini_RX0, by decide +kernel⟩, bg1 156 (by decide +kernel), rfl⟩
set_option maxRecDepth 100000 in
theorem mi_yX1_init : jMi yX1_init cX1_init 1 0 := ⟨⟨bg1 163 (by decide +kernel), ini_RX1, by decide +kernel⟩, bg1 162 (by decide +kernel), rfl⟩
set_option maxRecDepth 100000 in
theorem mi_yX5_init : jMi yX5_init cX5_init 1 0 := ⟨⟨bg1 187 (by decide +kernel), ini_RX5, by decide +kernel⟩, bg1 186 (by decide +kernel), rfl⟩
set_option maxRecDepth 100000 in
theorem mi_yX4_init : jMi yX4_init cX4_init 1 0 := ⟨⟨bg1 202 (by decide +kernel), ini_RX4, by decide +kernel⟩, bg1 201 (by decide +kernel), rfl⟩
set_option maxRecDepth 100000 in
theorem mi_yX9_init : jMi yX9_init cX9_init 1 0 := ⟨⟨bg1 222 (by decide +kernel), ini_RX9, by decide +kernel⟩, bg1 221 (by decide +kernel), rfl⟩
set_option maxRecDepth 100000 in
theorem mi_yX0_reset : jMv yX0_reset cX0_reset 2 (none : Option FieldType) 0 := ⟨⟨bg1 234 (by decide +kernel), ini_RX0, by decide +kernel⟩, bg1 232 (by decide +kernel), bg1 233 (by decide +kernel)⟩
set_option maxRecDepth 100000 in
theorem mi_yX1_clear : jMv yX1_clear cX1_clear 1 (none : Option FieldType) 0 := ⟨⟨bg1 238 (by decide +kernel), ini_RX1, by decide +kernel⟩, bg1 236 (by decide +kernel), bg1 237 (by decide +kernel)⟩
set_option maxRecDepth 100000 in
theorem mi_yX5_clear : jMv yX5_clear cX5_clear 1 (none : Option FieldType) 0 := ⟨⟨bg2 2 (by decide +kernel), ini_RX5, by decide +kernel⟩, bg2 0 (by decide +kernel), bg2 1 (by decide +kernel)⟩
set_option maxRecDepth 100000 in
theorem mi_yX4_clear : jMv yX4_clear cX4_clear 1 (none : Option FieldType) 0 := ⟨⟨bg2 6 (by decide +kernel), ini_RX4, by decide +kernel⟩, bg2 4 (by decide +kernel), bg2 5 (by decide +kernel)⟩
set_option maxRecDepth 100000 in
theorem mi_yX7_firstShareOf : jMv yX7_firstShareOf cX7_firstShareOf 2 (some FieldType.int) 1 := ⟨⟨bg2 11 (by decide +kernel), ini_RX7, by decide +kernel⟩, bg2 9 (by decide +kernel), bg2 10 (by decide +kernel)⟩
set_option maxRecDepth 100000 in
theorem mi_yX2_init : jMi yX2_init cX2_init 3 1 := ⟨⟨bg2 69 (by decide +kernel), ini_RX2, by decide +kernel⟩, bg2 68 (by decide +kernel), rfl⟩
set_option maxRecDepth 100000 in
theorem mi_yX10_errorPosition : jMv yX10_errorPosition cX10_errorPosition 1 (some FieldType.int) 0 := ⟨⟨bg2 112 (by decide +kernel), ini_RX10, by decide +kernel⟩, bg2 110 (by decide +kernel), bg2 111 (by decide +kernel)⟩
set_option maxRecDepth 100000 in
theorem mi_yX8_read : jMv yX8_read cX8_read 2 (some FieldType.int) 0 := ⟨⟨bg2 116 (by decide +kernel), ini_RX8, by decide +kernel⟩, bg2 114 (by decide +kernel), bg2 115 (by decide +kernel)⟩
set_option maxRecDepth 100000 in
theorem mi_yX3_length : jMv yX3_length cX3_length 1 (some FieldType.int) 0 := ⟨⟨bg2 121 (by decide +kernel), ini_RX3, by decide +kernel⟩, bg2 119 (by decide +kernel), bg2 120 (by decide +kernel)⟩
set_option maxRecDepth 100000 in
theorem mi_yX8_readStatement : jMv yX8_readStatement cX8_readStatement 2 (none : Option FieldType) 0 := ⟨⟨bg2 125 (by decide +kernel), ini_RX8, by decide +kernel⟩, bg2 124 (by decide +kernel), bg 0 (by decide +kernel)⟩
set_option maxRecDepth 100000 in
theorem mi_yX8_readToken : jMv yX8_readToken cX8_readToken 2 (none : Option FieldType) 0 := ⟨⟨bg2 129 (by decide +kernel), ini_RX8, by decide +kernel⟩, bg2 128 (by decide +kernel), bg 1 (by decide +kernel)⟩
set_option maxRecDepth 100000 in
theorem mi_yX3_byteAt : jMv yX3_byteAt cX3_byteAt 2 (some FieldType.int) 1 := ⟨⟨bg2 133 (by decide +kernel), ini_RX3, by decide +kernel⟩, bg2 131 (by decide +kernel), bg2 132 (by decide +kernel)⟩
set_option maxRecDepth 100000 in
theorem mi_yX3_tokenAt : jMv yX3_tokenAt cX3_tokenAt 3 (some FieldType.int) 1 := ⟨⟨bg2 137 (by decide +kernel), ini_RX3, by decide +kernel⟩, bg2 135 (by decide +kernel), bg2 136 (by decide +kernel)⟩
set_option maxRecDepth 100000 in
theorem mi_yX8_keyword : jMv yX8_keyword cX8_keyword 2 (some FieldType.int) 0 := ⟨⟨bg2 141 (by decide +kernel), ini_RX8, by decide +kernel⟩, bg2 140 (by decide +kernel), bg 2 (by decide +kernel)⟩
set_option maxRecDepth 100000 in
theorem mi_yX8_wordOf : jMs yX8_wordOf cX8_wordOf 1 (some (FieldType.object "java/lang/String")) 1 := ⟨⟨bg2 144 (by decide +kernel), ini_RX8, by decide +kernel⟩, bg2 143 (by decide +kernel)⟩
set_option maxRecDepth 100000 in
theorem mi_yX3_spells : jMv yX3_spells cX3_spells 5 (some FieldType.boolean) 3 := ⟨⟨bg2 156 (by decide +kernel), ini_RX3, by decide +kernel⟩, bg2 154 (by decide +kernel), bg2 155 (by decide +kernel)⟩
set_option maxRecDepth 100000 in
theorem mi_yJ0_length_8abf5 : jMv yJ0_length_8abf5 cJ0_length_8abf5 1 (some FieldType.int) 0 := ⟨⟨bg2 160 (by decide +kernel), ini_RJ0, by decide +kernel⟩, bg2 158 (by decide +kernel), bg2 159 (by decide +kernel)⟩
set_option maxRecDepth 100000 in
theorem mi_yJ0_coder_7d493 : jMv yJ0_coder_7d493 cJ0_coder_7d493 1 (some FieldType.byte) 0 := ⟨⟨bg2 164 (by decide +kernel), ini_RJ0, by decide +kernel⟩, bg2 162 (by decide +kernel), bg2 163 (by decide +kernel)⟩
set_option maxRecDepth 100000 in
theorem mi_yJ0_charAt_5068e : jMv yJ0_charAt_5068e cJ0_charAt_5068e 2 (some FieldType.char) 1 := ⟨⟨bg2 170 (by decide +kernel), ini_RJ0, by decide +kernel⟩, bg2 168 (by decide +kernel), bg2 169 (by decide +kernel)⟩
set_option maxRecDepth 100000 in
theorem mi_yJ0_isLatin1_aae02 : jMv yJ0_isLatin1_aae02 cJ0_isLatin1_aae02 1 (some FieldType.boolean) 0 := ⟨⟨bg2 174 (by decide +kernel), ini_RJ0, by decide +kernel⟩, bg2 172 (by decide +kernel), bg2 173 (by decide +kernel)⟩
set_option maxRecDepth 100000 in
theorem mi_yJ1_charAt_3b067 : jMs yJ1_charAt_3b067 cJ1_charAt_3b067 2 (some FieldType.char) 2 := ⟨⟨bg2 177 (by decide +kernel), ini_RJ1, by decide +kernel⟩, bg2 176 (by decide +kernel)⟩
set_option maxRecDepth 100000 in
theorem mi_yJ0_checkIndex_df160 : jMs yJ0_checkIndex_df160 cJ0_checkIndex_df160 2 (none : Option FieldType) 2 := ⟨⟨bg2 180 (by decide +kernel), ini_RJ0, by decide +kernel⟩, bg2 179 (by decide +kernel)⟩
set_option maxRecDepth 100000 in
theorem mi_yJ3_checkIndex_8e157 : jMs yJ3_checkIndex_8e157 cJ3_checkIndex_8e157 3 (some FieldType.int) 3 := ⟨⟨bg2 185 (by decide +kernel), ini_RJ3, by decide +kernel⟩, bg2 184 (by decide +kernel)⟩
set_option maxRecDepth 100000 in
theorem mi_yJ2_charAt_3b067 : jMs yJ2_charAt_3b067 cJ2_charAt_3b067 2 (some FieldType.char) 2 := ⟨⟨bg2 188 (by decide +kernel), ini_RJ2, by decide +kernel⟩, bg2 187 (by decide +kernel)⟩
set_option maxRecDepth 100000 in
theorem mi_yJ2_checkIndex_2214a : jMs yJ2_checkIndex_2214a cJ2_checkIndex_2214a 2 (none : Option FieldType) 2 := ⟨⟨bg2 191 (by decide +kernel), ini_RJ2, by decide +kernel⟩, bg2 190 (by decide +kernel)⟩
set_option maxRecDepth 100000 in
theorem mi_yJ2_length_9d52b : jMs yJ2_length_9d52b cJ2_length_9d52b 1 (some FieldType.int) 1 := ⟨⟨bg2 194 (by decide +kernel), ini_RJ2, by decide +kernel⟩, bg2 193 (by decide +kernel)⟩
set_option maxRecDepth 100000 in
theorem mi_yJ2_getChar_3b067 : jMs yJ2_getChar_3b067 cJ2_getChar_3b067 2 (some FieldType.char) 2 := ⟨⟨bg2 198 (by decide +kernel), ini_RJ2, by decide +kernel⟩, bg2 197 (by decide +kernel)⟩
set_option maxRecDepth 100000 in
theorem mi_yX7_count : jMv yX7_count cX7_count 2 (some FieldType.int) 1 := ⟨⟨bg2 208 (by decide +kernel), ini_RX7, by decide +kernel⟩, bg2 206 (by decide +kernel), bg2 207 (by decide +kernel)⟩
set_option maxRecDepth 100000 in
theorem mi_yX8_mostOf : jMs yX8_mostOf cX8_mostOf 1 (some FieldType.int) 1 := ⟨⟨bg2 211 (by decide +kernel), ini_RX8, by decide +kernel⟩, bg2 210 (by decide +kernel)⟩
set_option maxRecDepth 100000 in
theorem mi_yX8_refuse : jMv yX8_refuse cX8_refuse 1 (none : Option FieldType) 0 := ⟨⟨bg2 215 (by decide +kernel), ini_RX8, by decide +kernel⟩, bg2 214 (by decide +kernel), bg 3 (by decide +kernel)⟩
set_option maxRecDepth 100000 in
theorem mi_yX8_readTier : jMv yX8_readTier cX8_readTier 5 (none : Option FieldType) 0 := ⟨⟨bg2 219 (by decide +kernel), ini_RX8, by decide +kernel⟩, bg2 218 (by decide +kernel), bg 4 (by decide +kernel)⟩
set_option maxRecDepth 100000 in
theorem mi_yX8_readNewName : jMv yX8_readNewName cX8_readNewName 2 (some FieldType.int) 0 := ⟨⟨bg2 223 (by decide +kernel), ini_RX8, by decide +kernel⟩, bg2 222 (by decide +kernel), bg 5 (by decide +kernel)⟩
set_option maxRecDepth 100000 in
theorem mi_yX3_nameCode : jMv yX3_nameCode cX3_nameCode 5 (some FieldType.int) 2 := ⟨⟨bg2 227 (by decide +kernel), ini_RX3, by decide +kernel⟩, bg2 225 (by decide +kernel), bg2 226 (by decide +kernel)⟩
set_option maxRecDepth 100000 in
theorem mi_yX7_isTaken : jMv yX7_isTaken cX7_isTaken 2 (some FieldType.boolean) 1 := ⟨⟨bg2 233 (by decide +kernel), ini_RX7, by decide +kernel⟩, bg2 231 (by decide +kernel), bg2 232 (by decide +kernel)⟩
set_option maxRecDepth 100000 in
theorem mi_yX6_contains : jMv yX6_contains cX6_contains 3 (some FieldType.boolean) 1 := ⟨⟨bg2 237 (by decide +kernel), ini_RX6, by decide +kernel⟩, bg2 235 (by decide +kernel), bg2 236 (by decide +kernel)⟩
set_option maxRecDepth 100000 in
theorem mi_yX8_readNumber : jMv yX8_readNumber cX8_readNumber 5 (some FieldType.int) 2 := ⟨⟨bg3 1 (by decide +kernel), ini_RX8, by decide +kernel⟩, bg3 0 (by decide +kernel), bg 6 (by decide +kernel)⟩
set_option maxRecDepth 100000 in
theorem mi_yX7_thresholdOf : jMv yX7_thresholdOf cX7_thresholdOf 2 (some FieldType.int) 1 := ⟨⟨bg3 5 (by decide +kernel), ini_RX7, by decide +kernel⟩, bg3 3 (by decide +kernel), bg3 4 (by decide +kernel)⟩
set_option maxRecDepth 100000 in
theorem mi_yX7_addTier : jMv yX7_addTier cX7_addTier 5 (none : Option FieldType) 3 := ⟨⟨bg3 10 (by decide +kernel), ini_RX7, by decide +kernel⟩, bg3 8 (by decide +kernel), bg3 9 (by decide +kernel)⟩
set_option maxRecDepth 100000 in
theorem mi_yX7_define : jMv yX7_define cX7_define 4 (some FieldType.int) 2 := ⟨⟨bg3 14 (by decide +kernel), ini_RX7, by decide +kernel⟩, bg3 13 (by decide +kernel), bg 7 (by decide +kernel)⟩
set_option maxRecDepth 100000 in
theorem mi_yX8_readCategory : jMv yX8_readCategory cX8_readCategory 4 (none : Option FieldType) 0 := ⟨⟨bg3 18 (by decide +kernel), ini_RX8, by decide +kernel⟩, bg3 17 (by decide +kernel), bg 8 (by decide +kernel)⟩
set_option maxRecDepth 100000 in
theorem mi_yX7_addCategory : jMv yX7_addCategory cX7_addCategory 5 (none : Option FieldType) 3 := ⟨⟨bg3 23 (by decide +kernel), ini_RX7, by decide +kernel⟩, bg3 21 (by decide +kernel), bg3 22 (by decide +kernel)⟩
set_option maxRecDepth 100000 in
theorem mi_yX8_readPromo : jMv yX8_readPromo cX8_readPromo 5 (none : Option FieldType) 0 := ⟨⟨bg3 27 (by decide +kernel), ini_RX8, by decide +kernel⟩, bg3 26 (by decide +kernel), bg 9 (by decide +kernel)⟩
set_option maxRecDepth 100000 in
theorem mi_yX8_readCategoryName : jMv yX8_readCategoryName cX8_readCategoryName 2 (some FieldType.int) 0 := ⟨⟨bg3 31 (by decide +kernel), ini_RX8, by decide +kernel⟩, bg3 30 (by decide +kernel), bg 10 (by decide +kernel)⟩
set_option maxRecDepth 100000 in
theorem mi_yX7_numberOf : jMv yX7_numberOf cX7_numberOf 4 (some FieldType.int) 2 := ⟨⟨bg3 35 (by decide +kernel), ini_RX7, by decide +kernel⟩, bg3 33 (by decide +kernel), bg3 34 (by decide +kernel)⟩
set_option maxRecDepth 100000 in
theorem mi_yX7_addPromo : jMv yX7_addPromo cX7_addPromo 6 (none : Option FieldType) 4 := ⟨⟨bg3 39 (by decide +kernel), ini_RX7, by decide +kernel⟩, bg3 37 (by decide +kernel), bg3 38 (by decide +kernel)⟩
set_option maxRecDepth 100000 in
theorem mi_yX8_readMember : jMv yX8_readMember cX8_readMember 2 (none : Option FieldType) 0 := ⟨⟨bg3 43 (by decide +kernel), ini_RX8, by decide +kernel⟩, bg3 42 (by decide +kernel), bg 11 (by decide +kernel)⟩
set_option maxRecDepth 100000 in
theorem mi_yX7_addMember : jMv yX7_addMember cX7_addMember 2 (none : Option FieldType) 1 := ⟨⟨bg3 47 (by decide +kernel), ini_RX7, by decide +kernel⟩, bg3 45 (by decide +kernel), bg3 46 (by decide +kernel)⟩
set_option maxRecDepth 100000 in
theorem mi_yX8_readHouse : jMv yX8_readHouse cX8_readHouse 3 (none : Option FieldType) 0 := ⟨⟨bg3 51 (by decide +kernel), ini_RX8, by decide +kernel⟩, bg3 50 (by decide +kernel), bg 12 (by decide +kernel)⟩
set_option maxRecDepth 100000 in
theorem mi_yX7_addHouse : jMv yX7_addHouse cX7_addHouse 3 (none : Option FieldType) 2 := ⟨⟨bg3 55 (by decide +kernel), ini_RX7, by decide +kernel⟩, bg3 53 (by decide +kernel), bg3 54 (by decide +kernel)⟩
set_option maxRecDepth 100000 in
theorem mi_yX8_readPeriod : jMv yX8_readPeriod cX8_readPeriod 3 (none : Option FieldType) 1 := ⟨⟨bg3 59 (by decide +kernel), ini_RX8, by decide +kernel⟩, bg3 58 (by decide +kernel), bg 13 (by decide +kernel)⟩
set_option maxRecDepth 100000 in
theorem mi_yX7_fixLife : jMv yX7_fixLife cX7_fixLife 2 (none : Option FieldType) 1 := ⟨⟨bg3 63 (by decide +kernel), ini_RX7, by decide +kernel⟩, bg3 61 (by decide +kernel), bg3 62 (by decide +kernel)⟩
set_option maxRecDepth 100000 in
theorem mi_yX7_fixWindow : jMv yX7_fixWindow cX7_fixWindow 2 (none : Option FieldType) 1 := ⟨⟨bg3 67 (by decide +kernel), ini_RX7, by decide +kernel⟩, bg3 65 (by decide +kernel), bg3 66 (by decide +kernel)⟩
set_option maxRecDepth 100000 in
theorem mi_yX7_fixGrace : jMv yX7_fixGrace cX7_fixGrace 2 (none : Option FieldType) 1 := ⟨⟨bg3 71 (by decide +kernel), ini_RX7, by decide +kernel⟩, bg3 69 (by decide +kernel), bg3 70 (by decide +kernel)⟩
set_option maxRecDepth 100000 in
theorem mi_yX10_today : jMv yX10_today cX10_today 1 (some FieldType.int) 0 := ⟨⟨bg3 77 (by decide +kernel), ini_RX10, by decide +kernel⟩, bg3 75 (by decide +kernel), bg3 76 (by decide +kernel)⟩
set_option maxRecDepth 100000 in
theorem mi_yX0_day : jMv yX0_day cX0_day 1 (some FieldType.int) 0 := ⟨⟨bg3 81 (by decide +kernel), ini_RX0, by decide +kernel⟩, bg3 79 (by decide +kernel), bg3 80 (by decide +kernel)⟩
set_option maxRecDepth 100000 in
theorem mi_yX10_purchaseCount : jMv yX10_purchaseCount cX10_purchaseCount 1 (some FieldType.int) 0 := ⟨⟨bg3 85 (by decide +kernel), ini_RX10, by decide +kernel⟩, bg3 83 (by decide +kernel), bg3 84 (by decide +kernel)⟩
set_option maxRecDepth 100000 in
theorem mi_yX0_purchases : jMv yX0_purchases cX0_purchases 1 (some (FieldType.object "PointsLedger$Purchases")) 0 := ⟨⟨bg3 89 (by decide +kernel), ini_RX0, by decide +kernel⟩, bg3 87 (by decide +kernel), bg3 88 (by decide +kernel)⟩
set_option maxRecDepth 100000 in
theorem mi_yX5_count : jMv yX5_count cX5_count 1 (some FieldType.int) 0 := ⟨⟨bg3 93 (by decide +kernel), ini_RX5, by decide +kernel⟩, bg3 91 (by decide +kernel), bg3 92 (by decide +kernel)⟩
set_option maxRecDepth 100000 in
theorem mi_yX10_totalBreakage : jMv yX10_totalBreakage cX10_totalBreakage 1 (some FieldType.int) 0 := ⟨⟨bg3 97 (by decide +kernel), ini_RX10, by decide +kernel⟩, bg3 95 (by decide +kernel), bg3 96 (by decide +kernel)⟩
set_option maxRecDepth 100000 in
theorem mi_yX0_breakageOf : jMv yX0_breakageOf cX0_breakageOf 4 (some FieldType.int) 1 := ⟨⟨bg3 101 (by decide +kernel), ini_RX0, by decide +kernel⟩, bg3 99 (by decide +kernel), bg3 100 (by decide +kernel)⟩
set_option maxRecDepth 100000 in
theorem mi_yX1_size : jMv yX1_size cX1_size 1 (some FieldType.int) 0 := ⟨⟨bg3 105 (by decide +kernel), ini_RX1, by decide +kernel⟩, bg3 103 (by decide +kernel), bg3 104 (by decide +kernel)⟩
set_option maxRecDepth 100000 in
theorem mi_yX1_isIn : jMv yX1_isIn cX1_isIn 3 (some FieldType.boolean) 2 := ⟨⟨bg3 109 (by decide +kernel), ini_RX1, by decide +kernel⟩, bg3 107 (by decide +kernel), bg3 108 (by decide +kernel)⟩
set_option maxRecDepth 100000 in
theorem mi_yX1_pointsOf : jMv yX1_pointsOf cX1_pointsOf 2 (some FieldType.int) 1 := ⟨⟨bg3 114 (by decide +kernel), ini_RX1, by decide +kernel⟩, bg3 112 (by decide +kernel), bg3 113 (by decide +kernel)⟩
set_option maxRecDepth 100000 in
theorem mi_yX1_dayOf : jMv yX1_dayOf cX1_dayOf 2 (some FieldType.int) 1 := ⟨⟨bg3 118 (by decide +kernel), ini_RX1, by decide +kernel⟩, bg3 116 (by decide +kernel), bg3 117 (by decide +kernel)⟩
set_option maxRecDepth 100000 in
theorem mi_yX0_estimate : jMv yX0_estimate cX0_estimate 7 (some FieldType.int) 2 := ⟨⟨bg3 122 (by decide +kernel), ini_RX0, by decide +kernel⟩, bg3 121 (by decide +kernel), bg 14 (by decide +kernel)⟩
set_option maxRecDepth 100000 in
theorem mi_yX7_partOfLife : jMv yX7_partOfLife cX7_partOfLife 3 (some FieldType.int) 2 := ⟨⟨bg3 127 (by decide +kernel), ini_RX7, by decide +kernel⟩, bg3 125 (by decide +kernel), bg3 126 (by decide +kernel)⟩
set_option maxRecDepth 100000 in
theorem mi_yJ9_min_7cf53 : jMs yJ9_min_7cf53 cJ9_min_7cf53 2 (some FieldType.int) 2 := ⟨⟨bg3 130 (by decide +kernel), ini_RJ9, by decide +kernel⟩, bg3 129 (by decide +kernel)⟩
set_option maxRecDepth 100000 in
theorem mi_yX6_sumFrom : jMv yX6_sumFrom cX6_sumFrom 4 (some FieldType.int) 1 := ⟨⟨bg3 134 (by decide +kernel), ini_RX6, by decide +kernel⟩, bg3 132 (by decide +kernel), bg3 133 (by decide +kernel)⟩
set_option maxRecDepth 100000 in
theorem mi_yJ9_max_7cf53 : jMs yJ9_max_7cf53 cJ9_max_7cf53 2 (some FieldType.int) 2 := ⟨⟨bg3 137 (by decide +kernel), ini_RJ9, by decide +kernel⟩, bg3 136 (by decide +kernel)⟩
set_option maxRecDepth 100000 in
theorem mi_yX10_logSize : jMv yX10_logSize cX10_logSize 1 (some FieldType.int) 0 := ⟨⟨bg3 141 (by decide +kernel), ini_RX10, by decide +kernel⟩, bg3 139 (by decide +kernel), bg3 140 (by decide +kernel)⟩
set_option maxRecDepth 100000 in
theorem mi_yX0_diary : jMv yX0_diary cX0_diary 1 (some (FieldType.object "PointsLedger$LogBook")) 0 := ⟨⟨bg3 145 (by decide +kernel), ini_RX0, by decide +kernel⟩, bg3 143 (by decide +kernel), bg3 144 (by decide +kernel)⟩
set_option maxRecDepth 100000 in
theorem mi_yX4_size : jMv yX4_size cX4_size 1 (some FieldType.int) 0 := ⟨⟨bg3 149 (by decide +kernel), ini_RX4, by decide +kernel⟩, bg3 147 (by decide +kernel), bg3 148 (by decide +kernel)⟩
set_option maxRecDepth 100000 in
theorem mi_yX10_undoCount : jMv yX10_undoCount cX10_undoCount 1 (some FieldType.int) 0 := ⟨⟨bg3 153 (by decide +kernel), ini_RX10, by decide +kernel⟩, bg3 151 (by decide +kernel), bg3 152 (by decide +kernel)⟩
set_option maxRecDepth 100000 in
theorem mi_yX2_count : jMv yX2_count cX2_count 1 (some FieldType.int) 0 := ⟨⟨bg3 157 (by decide +kernel), ini_RX2, by decide +kernel⟩, bg3 155 (by decide +kernel), bg3 156 (by decide +kernel)⟩
set_option maxRecDepth 100000 in
theorem mi_yX10_save : jMv yX10_save cX10_save 1 (some FieldType.int) 0 := ⟨⟨bg3 161 (by decide +kernel), ini_RX10, by decide +kernel⟩, bg3 159 (by decide +kernel), bg3 160 (by decide +kernel)⟩
set_option maxRecDepth 100000 in
theorem mi_yX0_copyFrom : jMv yX0_copyFrom cX0_copyFrom 2 (none : Option FieldType) 1 := ⟨⟨bg3 165 (by decide +kernel), ini_RX0, by decide +kernel⟩, bg3 163 (by decide +kernel), bg3 164 (by decide +kernel)⟩
set_option maxRecDepth 100000 in
theorem mi_yX1_copyFrom : jMv yX1_copyFrom cX1_copyFrom 2 (none : Option FieldType) 1 := ⟨⟨bg3 169 (by decide +kernel), ini_RX1, by decide +kernel⟩, bg3 167 (by decide +kernel), bg3 168 (by decide +kernel)⟩
set_option maxRecDepth 100000 in
theorem mi_yX6_copyFirst : jMv yX6_copyFirst cX6_copyFirst 4 (none : Option FieldType) 2 := ⟨⟨bg3 173 (by decide +kernel), ini_RX6, by decide +kernel⟩, bg3 171 (by decide +kernel), bg3 172 (by decide +kernel)⟩
set_option maxRecDepth 100000 in
theorem mi_yX5_copyFrom : jMv yX5_copyFrom cX5_copyFrom 2 (none : Option FieldType) 1 := ⟨⟨bg3 181 (by decide +kernel), ini_RX5, by decide +kernel⟩, bg3 179 (by decide +kernel), bg3 180 (by decide +kernel)⟩
set_option maxRecDepth 100000 in
theorem mi_yX4_copyFrom : jMv yX4_copyFrom cX4_copyFrom 2 (none : Option FieldType) 1 := ⟨⟨bg3 186 (by decide +kernel), ini_RX4, by decide +kernel⟩, bg3 184 (by decide +kernel), bg3 185 (by decide +kernel)⟩
set_option maxRecDepth 100000 in
theorem mi_yX6_copyAll : jMv yX6_copyAll cX6_copyAll 2 (none : Option FieldType) 1 := ⟨⟨bg3 190 (by decide +kernel), ini_RX6, by decide +kernel⟩, bg3 188 (by decide +kernel), bg3 189 (by decide +kernel)⟩
set_option maxRecDepth 100000 in
theorem mi_yX10_append : jMv yX10_append cX10_append 7 (some FieldType.int) 5 := ⟨⟨bg3 200 (by decide +kernel), ini_RX10, by decide +kernel⟩, bg3 198 (by decide +kernel), bg3 199 (by decide +kernel)⟩
set_option maxRecDepth 100000 in
theorem mi_yX3_bytesIn : jMs yX3_bytesIn cX3_bytesIn 3 (some FieldType.int) 1 := ⟨⟨bg3 203 (by decide +kernel), ini_RX3, by decide +kernel⟩, bg3 202 (by decide +kernel)⟩
set_option maxRecDepth 100000 in
theorem mi_yX3_addBytes : jMv yX3_addBytes cX3_addBytes 4 (none : Option FieldType) 1 := ⟨⟨bg4 36 (by decide +kernel), ini_RX3, by decide +kernel⟩, bg4 34 (by decide +kernel), bg4 35 (by decide +kernel)⟩
set_option maxRecDepth 100000 in
theorem mi_yX10_truncate : jMv yX10_truncate cX10_truncate 2 (some FieldType.int) 1 := ⟨⟨bg4 44 (by decide +kernel), ini_RX10, by decide +kernel⟩, bg4 42 (by decide +kernel), bg4 43 (by decide +kernel)⟩
set_option maxRecDepth 100000 in
theorem mi_yX10_needBetween : jMs yX10_needBetween cX10_needBetween 3 (none : Option FieldType) 3 := ⟨⟨bg4 47 (by decide +kernel), ini_RX10, by decide +kernel⟩, bg4 46 (by decide +kernel)⟩
set_option maxRecDepth 100000 in
theorem mi_yX3_shorten : jMv yX3_shorten cX3_shorten 2 (none : Option FieldType) 1 := ⟨⟨bg4 67 (by decide +kernel), ini_RX3, by decide +kernel⟩, bg4 65 (by decide +kernel), bg4 66 (by decide +kernel)⟩
set_option maxRecDepth 100000 in
theorem mi_yX10_load : jMv yX10_load cX10_load 1 (some FieldType.int) 0 := ⟨⟨bg4 74 (by decide +kernel), ini_RX10, by decide +kernel⟩, bg4 72 (by decide +kernel), bg4 73 (by decide +kernel)⟩
set_option maxRecDepth 100000 in
theorem mi_yX7_copyFrom : jMv yX7_copyFrom cX7_copyFrom 2 (none : Option FieldType) 1 := ⟨⟨bg4 79 (by decide +kernel), ini_RX7, by decide +kernel⟩, bg4 77 (by decide +kernel), bg4 78 (by decide +kernel)⟩
set_option maxRecDepth 100000 in
theorem mi_yX2_forget : jMv yX2_forget cX2_forget 1 (none : Option FieldType) 0 := ⟨⟨bg4 85 (by decide +kernel), ini_RX2, by decide +kernel⟩, bg4 83 (by decide +kernel), bg4 84 (by decide +kernel)⟩
set_option maxRecDepth 100000 in
theorem mi_yX10_find : jMv yX10_find cX10_find 2 (some FieldType.int) 0 := ⟨⟨bg4 94 (by decide +kernel), ini_RX10, by decide +kernel⟩, bg4 92 (by decide +kernel), bg4 93 (by decide +kernel)⟩
set_option maxRecDepth 100000 in
theorem mi_yX10_purchase : jMv yX10_purchase cX10_purchase 4 (some FieldType.int) 3 := ⟨⟨bg4 120 (by decide +kernel), ini_RX10, by decide +kernel⟩, bg4 118 (by decide +kernel), bg4 119 (by decide +kernel)⟩
set_option maxRecDepth 100000 in
theorem mi_yX10_needMember : jMv yX10_needMember cX10_needMember 2 (none : Option FieldType) 1 := ⟨⟨bg4 124 (by decide +kernel), ini_RX10, by decide +kernel⟩, bg4 123 (by decide +kernel), bg 16 (by decide +kernel)⟩
set_option maxRecDepth 100000 in
theorem mi_yX10_needCategory : jMv yX10_needCategory cX10_needCategory 2 (none : Option FieldType) 1 := ⟨⟨bg4 144 (by decide +kernel), ini_RX10, by decide +kernel⟩, bg4 143 (by decide +kernel), bg 17 (by decide +kernel)⟩
set_option maxRecDepth 100000 in
theorem mi_yX2_keep : jMv yX2_keep cX2_keep 3 (none : Option FieldType) 1 := ⟨⟨bg4 150 (by decide +kernel), ini_RX2, by decide +kernel⟩, bg4 148 (by decide +kernel), bg4 149 (by decide +kernel)⟩
set_option maxRecDepth 100000 in
theorem mi_yX2_newestSlot : jMv yX2_newestSlot cX2_newestSlot 1 (some (FieldType.object "PointsLedger$Books")) 0 := ⟨⟨bg4 154 (by decide +kernel), ini_RX2, by decide +kernel⟩, bg4 153 (by decide +kernel), bg 18 (by decide +kernel)⟩
set_option maxRecDepth 100000 in
theorem mi_yX0_recordPurchase : jMv yX0_recordPurchase cX0_recordPurchase 9 (some FieldType.int) 3 := ⟨⟨bg4 160 (by decide +kernel), ini_RX0, by decide +kernel⟩, bg4 158 (by decide +kernel), bg4 159 (by decide +kernel)⟩
set_option maxRecDepth 100000 in
theorem mi_yX7_baseOf : jMv yX7_baseOf cX7_baseOf 5 (some FieldType.int) 2 := ⟨⟨bg4 164 (by decide +kernel), ini_RX7, by decide +kernel⟩, bg4 162 (by decide +kernel), bg4 163 (by decide +kernel)⟩
set_option maxRecDepth 100000 in
theorem mi_yX0_worth : jMv yX0_worth cX0_worth 5 (some FieldType.int) 3 := ⟨⟨bg4 168 (by decide +kernel), ini_RX0, by decide +kernel⟩, bg4 166 (by decide +kernel), bg4 167 (by decide +kernel)⟩
set_option maxRecDepth 100000 in
theorem mi_yX7_bonusOf : jMv yX7_bonusOf cX7_bonusOf 2 (some FieldType.int) 1 := ⟨⟨bg4 172 (by decide +kernel), ini_RX7, by decide +kernel⟩, bg4 170 (by decide +kernel), bg4 171 (by decide +kernel)⟩
set_option maxRecDepth 100000 in
theorem mi_yX7_extrasOn : jMv yX7_extrasOn cX7_extrasOn 5 (some FieldType.int) 2 := ⟨⟨bg4 176 (by decide +kernel), ini_RX7, by decide +kernel⟩, bg4 174 (by decide +kernel), bg4 175 (by decide +kernel)⟩
set_option maxRecDepth 100000 in
theorem mi_yX5_add : jMv yX5_add cX5_add 8 (none : Option FieldType) 6 := ⟨⟨bg4 180 (by decide +kernel), ini_RX5, by decide +kernel⟩, bg4 178 (by decide +kernel), bg4 179 (by decide +kernel)⟩
set_option maxRecDepth 100000 in
theorem mi_yX6_increase : jMv yX6_increase cX6_increase 3 (none : Option FieldType) 2 := ⟨⟨bg4 185 (by decide +kernel), ini_RX6, by decide +kernel⟩, bg4 183 (by decide +kernel), bg4 184 (by decide +kernel)⟩
set_option maxRecDepth 100000 in
theorem mi_yX7_life : jMv yX7_life cX7_life 1 (some FieldType.int) 0 := ⟨⟨bg4 189 (by decide +kernel), ini_RX7, by decide +kernel⟩, bg4 187 (by decide +kernel), bg4 188 (by decide +kernel)⟩
set_option maxRecDepth 100000 in
theorem mi_yX10_poolList : jMs yX10_poolList cX10_poolList 1 (some FieldType.int) 1 := ⟨⟨bg4 192 (by decide +kernel), ini_RX10, by decide +kernel⟩, bg4 191 (by decide +kernel)⟩
set_option maxRecDepth 100000 in
theorem mi_yX1_put : jMv yX1_put cX1_put 7 (none : Option FieldType) 4 := ⟨⟨bg4 196 (by decide +kernel), ini_RX1, by decide +kernel⟩, bg4 194 (by decide +kernel), bg4 195 (by decide +kernel)⟩
set_option maxRecDepth 100000 in
theorem mi_yX1_isBefore : jMv yX1_isBefore cX1_isBefore 5 (some FieldType.boolean) 4 := ⟨⟨bg4 200 (by decide +kernel), ini_RX1, by decide +kernel⟩, bg4 199 (by decide +kernel), bg 19 (by decide +kernel)⟩
set_option maxRecDepth 100000 in
theorem mi_yX1_shift : jMv yX1_shift cX1_shift 3 (none : Option FieldType) 2 := ⟨⟨bg4 205 (by decide +kernel), ini_RX1, by decide +kernel⟩, bg4 204 (by decide +kernel), bg 20 (by decide +kernel)⟩
set_option maxRecDepth 100000 in
theorem mi_yX6_move : jMv yX6_move cX6_move 5 (none : Option FieldType) 3 := ⟨⟨bg4 209 (by decide +kernel), ini_RX6, by decide +kernel⟩, bg4 207 (by decide +kernel), bg4 208 (by decide +kernel)⟩
set_option maxRecDepth 100000 in
theorem mi_yX0_credit : jMv yX0_credit cX0_credit 5 (some FieldType.int) 3 := ⟨⟨bg4 214 (by decide +kernel), ini_RX0, by decide +kernel⟩, bg4 213 (by decide +kernel), bg 21 (by decide +kernel)⟩
set_option maxRecDepth 100000 in
theorem mi_yX4_add : jMv yX4_add cX4_add 6 (none : Option FieldType) 4 := ⟨⟨bg4 219 (by decide +kernel), ini_RX4, by decide +kernel⟩, bg4 217 (by decide +kernel), bg4 218 (by decide +kernel)⟩
set_option maxRecDepth 100000 in
theorem mi_yX0_checkTier : jMv yX0_checkTier cX0_checkTier 3 (none : Option FieldType) 1 := ⟨⟨bg4 225 (by decide +kernel), ini_RX0, by decide +kernel⟩, bg4 224 (by decide +kernel), bg 22 (by decide +kernel)⟩
set_option maxRecDepth 100000 in
theorem mi_yX9_start : jMv yX9_start cX9_start 3 (none : Option FieldType) 2 := ⟨⟨bg4 229 (by decide +kernel), ini_RX9, by decide +kernel⟩, bg4 227 (by decide +kernel), bg4 228 (by decide +kernel)⟩
set_option maxRecDepth 100000 in
theorem mi_yX7_tierFor : jMv yX7_tierFor cX7_tierFor 4 (some FieldType.int) 1 := ⟨⟨bg4 233 (by decide +kernel), ini_RX7, by decide +kernel⟩, bg4 231 (by decide +kernel), bg4 232 (by decide +kernel)⟩
set_option maxRecDepth 100000 in
theorem mi_yX7_grace : jMv yX7_grace cX7_grace 1 (some FieldType.int) 0 := ⟨⟨bg4 237 (by decide +kernel), ini_RX7, by decide +kernel⟩, bg4 235 (by decide +kernel), bg4 236 (by decide +kernel)⟩
set_option maxRecDepth 100000 in
theorem mi_yX9_check : jMv yX9_check cX9_check 4 (none : Option FieldType) 3 := ⟨⟨bg5 1 (by decide +kernel), ini_RX9, by decide +kernel⟩, bg4 239 (by decide +kernel), bg5 0 (by decide +kernel)⟩
set_option maxRecDepth 100000 in
theorem mi_yX9_presentTier : jMv yX9_presentTier cX9_presentTier 1 (some FieldType.int) 0 := ⟨⟨bg5 5 (by decide +kernel), ini_RX9, by decide +kernel⟩, bg5 3 (by decide +kernel), bg5 4 (by decide +kernel)⟩
set_option maxRecDepth 100000 in
theorem mi_yX9_belowDay : jMv yX9_belowDay cX9_belowDay 1 (some FieldType.int) 0 := ⟨⟨bg5 9 (by decide +kernel), ini_RX9, by decide +kernel⟩, bg5 7 (by decide +kernel), bg5 8 (by decide +kernel)⟩
set_option maxRecDepth 100000 in
theorem mi_yX10_refund : jMv yX10_refund cX10_refund 2 (some FieldType.int) 1 := ⟨⟨bg5 16 (by decide +kernel), ini_RX10, by decide +kernel⟩, bg5 14 (by decide +kernel), bg5 15 (by decide +kernel)⟩
set_option maxRecDepth 100000 in
theorem mi_yX10_needKeptPurchase : jMv yX10_needKeptPurchase cX10_needKeptPurchase 2 (none : Option FieldType) 1 := ⟨⟨bg5 20 (by decide +kernel), ini_RX10, by decide +kernel⟩, bg5 19 (by decide +kernel), bg 23 (by decide +kernel)⟩
set_option maxRecDepth 100000 in
theorem mi_yX5_isKept : jMv yX5_isKept cX5_isKept 2 (some FieldType.boolean) 1 := ⟨⟨bg5 24 (by decide +kernel), ini_RX5, by decide +kernel⟩, bg5 22 (by decide +kernel), bg5 23 (by decide +kernel)⟩
set_option maxRecDepth 100000 in
theorem mi_yX5_part : jMv yX5_part cX5_part 3 (some FieldType.int) 2 := ⟨⟨bg5 29 (by decide +kernel), ini_RX5, by decide +kernel⟩, bg5 27 (by decide +kernel), bg5 28 (by decide +kernel)⟩
set_option maxRecDepth 100000 in
theorem mi_yX0_takeBack : jMv yX0_takeBack cX0_takeBack 7 (some FieldType.int) 1 := ⟨⟨bg5 35 (by decide +kernel), ini_RX0, by decide +kernel⟩, bg5 33 (by decide +kernel), bg5 34 (by decide +kernel)⟩
set_option maxRecDepth 100000 in
theorem mi_yX0_poolOf : jMv yX0_poolOf cX0_poolOf 2 (some FieldType.int) 1 := ⟨⟨bg5 40 (by decide +kernel), ini_RX0, by decide +kernel⟩, bg5 38 (by decide +kernel), bg5 39 (by decide +kernel)⟩
set_option maxRecDepth 100000 in
theorem mi_yX1_takeFromAll : jMv yX1_takeFromAll cX1_takeFromAll 8 (some FieldType.int) 4 := ⟨⟨bg5 44 (by decide +kernel), ini_RX1, by decide +kernel⟩, bg5 42 (by decide +kernel), bg5 43 (by decide +kernel)⟩
set_option maxRecDepth 100000 in
theorem mi_yX1_first : jMv yX1_first cX1_first 5 (some FieldType.int) 3 := ⟨⟨bg5 48 (by decide +kernel), ini_RX1, by decide +kernel⟩, bg5 46 (by decide +kernel), bg5 47 (by decide +kernel)⟩
set_option maxRecDepth 100000 in
theorem mi_yX1_take : jMv yX1_take cX1_take 4 (some FieldType.int) 2 := ⟨⟨bg5 53 (by decide +kernel), ini_RX1, by decide +kernel⟩, bg5 51 (by decide +kernel), bg5 52 (by decide +kernel)⟩
set_option maxRecDepth 100000 in
theorem mi_yX5_markRefunded : jMv yX5_markRefunded cX5_markRefunded 2 (none : Option FieldType) 1 := ⟨⟨bg5 58 (by decide +kernel), ini_RX5, by decide +kernel⟩, bg5 56 (by decide +kernel), bg5 57 (by decide +kernel)⟩
set_option maxRecDepth 100000 in
theorem mi_yX10_redeem : jMv yX10_redeem cX10_redeem 3 (some FieldType.int) 2 := ⟨⟨bg5 65 (by decide +kernel), ini_RX10, by decide +kernel⟩, bg5 63 (by decide +kernel), bg5 64 (by decide +kernel)⟩
set_option maxRecDepth 100000 in
theorem mi_yX10_needAtLeastOne : jMs yX10_needAtLeastOne cX10_needAtLeastOne 1 (none : Option FieldType) 1 := ⟨⟨bg5 68 (by decide +kernel), ini_RX10, by decide +kernel⟩, bg5 67 (by decide +kernel)⟩
set_option maxRecDepth 100000 in
theorem mi_yX0_redeemable : jMv yX0_redeemable cX0_redeemable 2 (some FieldType.int) 1 := ⟨⟨bg5 73 (by decide +kernel), ini_RX0, by decide +kernel⟩, bg5 71 (by decide +kernel), bg5 72 (by decide +kernel)⟩
set_option maxRecDepth 100000 in
theorem mi_yX1_sum : jMv yX1_sum cX1_sum 5 (some FieldType.int) 2 := ⟨⟨bg5 77 (by decide +kernel), ini_RX1, by decide +kernel⟩, bg5 75 (by decide +kernel), bg5 76 (by decide +kernel)⟩
set_option maxRecDepth 100000 in
theorem mi_yX0_spend : jMv yX0_spend cX0_spend 5 (some FieldType.int) 2 := ⟨⟨bg5 82 (by decide +kernel), ini_RX0, by decide +kernel⟩, bg5 80 (by decide +kernel), bg5 81 (by decide +kernel)⟩
set_option maxRecDepth 100000 in
theorem mi_yX0_spendFrom : jMv yX0_spendFrom cX0_spendFrom 8 (some FieldType.int) 2 := ⟨⟨bg5 86 (by decide +kernel), ini_RX0, by decide +kernel⟩, bg5 85 (by decide +kernel), bg 24 (by decide +kernel)⟩
set_option maxRecDepth 100000 in
theorem mi_yX10_transfer : jMv yX10_transfer cX10_transfer 4 (some FieldType.int) 3 := ⟨⟨bg5 95 (by decide +kernel), ini_RX10, by decide +kernel⟩, bg5 93 (by decide +kernel), bg5 94 (by decide +kernel)⟩
set_option maxRecDepth 100000 in
theorem mi_yX0_cohorts : jMv yX0_cohorts cX0_cohorts 1 (some (FieldType.object "PointsLedger$Cohorts")) 0 := ⟨⟨bg5 100 (by decide +kernel), ini_RX0, by decide +kernel⟩, bg5 98 (by decide +kernel), bg5 99 (by decide +kernel)⟩
set_option maxRecDepth 100000 in
theorem mi_yX0_give : jMv yX0_give cX0_give 10 (some FieldType.int) 3 := ⟨⟨bg5 106 (by decide +kernel), ini_RX0, by decide +kernel⟩, bg5 104 (by decide +kernel), bg5 105 (by decide +kernel)⟩
set_option maxRecDepth 100000 in
theorem mi_yX10_join : jMv yX10_join cX10_join 3 (some FieldType.int) 2 := ⟨⟨bg5 113 (by decide +kernel), ini_RX10, by decide +kernel⟩, bg5 111 (by decide +kernel), bg5 112 (by decide +kernel)⟩
set_option maxRecDepth 100000 in
theorem mi_yX10_needHousehold : jMv yX10_needHousehold cX10_needHousehold 2 (none : Option FieldType) 1 := ⟨⟨bg5 117 (by decide +kernel), ini_RX10, by decide +kernel⟩, bg5 116 (by decide +kernel), bg 25 (by decide +kernel)⟩
set_option maxRecDepth 100000 in
theorem mi_yX0_homeOf : jMv yX0_homeOf cX0_homeOf 2 (some FieldType.int) 1 := ⟨⟨bg5 122 (by decide +kernel), ini_RX0, by decide +kernel⟩, bg5 120 (by decide +kernel), bg5 121 (by decide +kernel)⟩
set_option maxRecDepth 100000 in
theorem mi_yX0_peopleIn : jMv yX0_peopleIn cX0_peopleIn 2 (some FieldType.int) 1 := ⟨⟨bg5 127 (by decide +kernel), ini_RX0, by decide +kernel⟩, bg5 125 (by decide +kernel), bg5 126 (by decide +kernel)⟩
set_option maxRecDepth 100000 in
theorem mi_yX0_memberBits : jMv yX0_memberBits cX0_memberBits 4 (some FieldType.int) 1 := ⟨⟨bg5 131 (by decide +kernel), ini_RX0, by decide +kernel⟩, bg5 129 (by decide +kernel), bg5 130 (by decide +kernel)⟩
set_option maxRecDepth 100000 in
theorem mi_yJ6_bitCount_0f7a4 : jMs yJ6_bitCount_0f7a4 cJ6_bitCount_0f7a4 1 (some FieldType.int) 1 := ⟨⟨bg5 135 (by decide +kernel), ini_RJ6, by decide +kernel⟩, bg5 134 (by decide +kernel)⟩
set_option maxRecDepth 100000 in
theorem mi_yX0_enter : jMv yX0_enter cX0_enter 3 (none : Option FieldType) 2 := ⟨⟨bg5 143 (by decide +kernel), ini_RX0, by decide +kernel⟩, bg5 141 (by decide +kernel), bg5 142 (by decide +kernel)⟩
set_option maxRecDepth 100000 in
theorem mi_yX10_leave : jMv yX10_leave cX10_leave 2 (some FieldType.int) 1 := ⟨⟨bg5 150 (by decide +kernel), ini_RX10, by decide +kernel⟩, bg5 148 (by decide +kernel), bg5 149 (by decide +kernel)⟩
set_option maxRecDepth 100000 in
theorem mi_yX0_moveOut : jMv yX0_moveOut cX0_moveOut 8 (some FieldType.int) 1 := ⟨⟨bg5 155 (by decide +kernel), ini_RX0, by decide +kernel⟩, bg5 153 (by decide +kernel), bg5 154 (by decide +kernel)⟩
set_option maxRecDepth 100000 in
theorem mi_yX10_setShare : jMv yX10_setShare cX10_setShare 3 (some FieldType.int) 2 := ⟨⟨bg5 162 (by decide +kernel), ini_RX10, by decide +kernel⟩, bg5 160 (by decide +kernel), bg5 161 (by decide +kernel)⟩
set_option maxRecDepth 100000 in
theorem mi_yX0_replaceShare : jMv yX0_replaceShare cX0_replaceShare 4 (some FieldType.int) 2 := ⟨⟨bg5 166 (by decide +kernel), ini_RX0, by decide +kernel⟩, bg5 164 (by decide +kernel), bg5 165 (by decide +kernel)⟩
set_option maxRecDepth 100000 in
theorem mi_yX10_advance : jMv yX10_advance cX10_advance 2 (some FieldType.int) 1 := ⟨⟨bg5 173 (by decide +kernel), ini_RX10, by decide +kernel⟩, bg5 171 (by decide +kernel), bg5 172 (by decide +kernel)⟩
set_option maxRecDepth 100000 in
theorem mi_yX0_passDays : jMv yX0_passDays cX0_passDays 5 (some FieldType.int) 1 := ⟨⟨bg5 177 (by decide +kernel), ini_RX0, by decide +kernel⟩, bg5 175 (by decide +kernel), bg5 176 (by decide +kernel)⟩
set_option maxRecDepth 100000 in
theorem mi_yX0_expire : jMv yX0_expire cX0_expire 3 (some FieldType.int) 0 := ⟨⟨bg5 181 (by decide +kernel), ini_RX0, by decide +kernel⟩, bg5 180 (by decide +kernel), bg 26 (by decide +kernel)⟩
set_option maxRecDepth 100000 in
theorem mi_yX1_expire : jMv yX1_expire cX1_expire 5 (none : Option FieldType) 2 := ⟨⟨bg5 185 (by decide +kernel), ini_RX1, by decide +kernel⟩, bg5 183 (by decide +kernel), bg5 184 (by decide +kernel)⟩
set_option maxRecDepth 100000 in
theorem mi_yX0_shrinkWindow : jMv yX0_shrinkWindow cX0_shrinkWindow 3 (none : Option FieldType) 0 := ⟨⟨bg5 189 (by decide +kernel), ini_RX0, by decide +kernel⟩, bg5 188 (by decide +kernel), bg 27 (by decide +kernel)⟩
set_option maxRecDepth 100000 in
theorem mi_yX7_window : jMv yX7_window cX7_window 1 (some FieldType.int) 0 := ⟨⟨bg5 193 (by decide +kernel), ini_RX7, by decide +kernel⟩, bg5 191 (by decide +kernel), bg5 192 (by decide +kernel)⟩
set_option maxRecDepth 100000 in
theorem mi_yX5_firstAfter : jMv yX5_firstAfter cX5_firstAfter 4 (some FieldType.int) 2 := ⟨⟨bg5 197 (by decide +kernel), ini_RX5, by decide +kernel⟩, bg5 195 (by decide +kernel), bg5 196 (by decide +kernel)⟩
set_option maxRecDepth 100000 in
theorem mi_yX5_basesOf : jMv yX5_basesOf cX5_basesOf 6 (some FieldType.int) 3 := ⟨⟨bg5 202 (by decide +kernel), ini_RX5, by decide +kernel⟩, bg5 200 (by decide +kernel), bg5 201 (by decide +kernel)⟩
set_option maxRecDepth 100000 in
theorem mi_yX10_setup : jMv yX10_setup cX10_setup 2 (some FieldType.int) 1 := ⟨⟨bg5 209 (by decide +kernel), ini_RX10, by decide +kernel⟩, bg5 207 (by decide +kernel), bg5 208 (by decide +kernel)⟩
set_option maxRecDepth 100000 in
theorem mi_yX10_threshold : jMv yX10_threshold cX10_threshold 2 (some FieldType.int) 1 := ⟨⟨bg5 219 (by decide +kernel), ini_RX10, by decide +kernel⟩, bg5 217 (by decide +kernel), bg5 218 (by decide +kernel)⟩
set_option maxRecDepth 100000 in
theorem mi_yX10_extras : jMv yX10_extras cX10_extras 3 (some FieldType.int) 2 := ⟨⟨bg5 228 (by decide +kernel), ini_RX10, by decide +kernel⟩, bg5 226 (by decide +kernel), bg5 227 (by decide +kernel)⟩
set_option maxRecDepth 100000 in
theorem mi_yX10_balance : jMv yX10_balance cX10_balance 2 (some FieldType.int) 1 := ⟨⟨bg5 236 (by decide +kernel), ini_RX10, by decide +kernel⟩, bg5 234 (by decide +kernel), bg5 235 (by decide +kernel)⟩
set_option maxRecDepth 100000 in
theorem mi_yX10_debt : jMv yX10_debt cX10_debt 2 (some FieldType.int) 1 := ⟨⟨bg6 3 (by decide +kernel), ini_RX10, by decide +kernel⟩, bg6 1 (by decide +kernel), bg6 2 (by decide +kernel)⟩
set_option maxRecDepth 100000 in
theorem mi_yX0_debtOf : jMv yX0_debtOf cX0_debtOf 2 (some FieldType.int) 1 := ⟨⟨bg6 7 (by decide +kernel), ini_RX0, by decide +kernel⟩, bg6 5 (by decide +kernel), bg6 6 (by decide +kernel)⟩
set_option maxRecDepth 100000 in
theorem mi_yX10_available : jMv yX10_available cX10_available 2 (some FieldType.int) 1 := ⟨⟨bg6 14 (by decide +kernel), ini_RX10, by decide +kernel⟩, bg6 12 (by decide +kernel), bg6 13 (by decide +kernel)⟩
set_option maxRecDepth 100000 in
theorem mi_yX10_cohortCount : jMv yX10_cohortCount cX10_cohortCount 2 (some FieldType.int) 1 := ⟨⟨bg6 21 (by decide +kernel), ini_RX10, by decide +kernel⟩, bg6 19 (by decide +kernel), bg6 20 (by decide +kernel)⟩
set_option maxRecDepth 100000 in
theorem mi_yX1_number : jMv yX1_number cX1_number 4 (some FieldType.int) 1 := ⟨⟨bg6 25 (by decide +kernel), ini_RX1, by decide +kernel⟩, bg6 23 (by decide +kernel), bg6 24 (by decide +kernel)⟩
set_option maxRecDepth 100000 in
theorem mi_yX10_cohort : jMv yX10_cohort cX10_cohort 4 (some FieldType.int) 3 := ⟨⟨bg6 32 (by decide +kernel), ini_RX10, by decide +kernel⟩, bg6 30 (by decide +kernel), bg6 31 (by decide +kernel)⟩
set_option maxRecDepth 100000 in
theorem mi_yX10_needCohort : jMv yX10_needCohort cX10_needCohort 3 (none : Option FieldType) 2 := ⟨⟨bg6 36 (by decide +kernel), ini_RX10, by decide +kernel⟩, bg6 35 (by decide +kernel), bg 28 (by decide +kernel)⟩
set_option maxRecDepth 100000 in
theorem mi_yX1_part : jMv yX1_part cX1_part 5 (some FieldType.int) 3 := ⟨⟨bg6 41 (by decide +kernel), ini_RX1, by decide +kernel⟩, bg6 39 (by decide +kernel), bg6 40 (by decide +kernel)⟩
set_option maxRecDepth 100000 in
theorem mi_yX10_household : jMv yX10_household cX10_household 2 (some FieldType.int) 1 := ⟨⟨bg6 48 (by decide +kernel), ini_RX10, by decide +kernel⟩, bg6 46 (by decide +kernel), bg6 47 (by decide +kernel)⟩
set_option maxRecDepth 100000 in
theorem mi_yX10_members : jMv yX10_members cX10_members 2 (some FieldType.int) 1 := ⟨⟨bg6 55 (by decide +kernel), ini_RX10, by decide +kernel⟩, bg6 53 (by decide +kernel), bg6 54 (by decide +kernel)⟩
set_option maxRecDepth 100000 in
theorem mi_yX10_poolBalance : jMv yX10_poolBalance cX10_poolBalance 2 (some FieldType.int) 1 := ⟨⟨bg6 63 (by decide +kernel), ini_RX10, by decide +kernel⟩, bg6 61 (by decide +kernel), bg6 62 (by decide +kernel)⟩
set_option maxRecDepth 100000 in
theorem mi_yX10_poolCohortCount : jMv yX10_poolCohortCount cX10_poolCohortCount 2 (some FieldType.int) 1 := ⟨⟨bg6 71 (by decide +kernel), ini_RX10, by decide +kernel⟩, bg6 69 (by decide +kernel), bg6 70 (by decide +kernel)⟩
set_option maxRecDepth 100000 in
theorem mi_yX10_poolCohort : jMv yX10_poolCohort cX10_poolCohort 4 (some FieldType.int) 3 := ⟨⟨bg6 78 (by decide +kernel), ini_RX10, by decide +kernel⟩, bg6 76 (by decide +kernel), bg6 77 (by decide +kernel)⟩
set_option maxRecDepth 100000 in
theorem mi_yX10_contributed : jMv yX10_contributed cX10_contributed 2 (some FieldType.int) 1 := ⟨⟨bg6 85 (by decide +kernel), ini_RX10, by decide +kernel⟩, bg6 83 (by decide +kernel), bg6 84 (by decide +kernel)⟩
set_option maxRecDepth 100000 in
theorem mi_yX10_total : jMv yX10_total cX10_total 2 (some FieldType.int) 1 := ⟨⟨bg6 93 (by decide +kernel), ini_RX10, by decide +kernel⟩, bg6 91 (by decide +kernel), bg6 92 (by decide +kernel)⟩
set_option maxRecDepth 100000 in
theorem mi_yX0_totalOf : jMv yX0_totalOf cX0_totalOf 2 (some FieldType.int) 1 := ⟨⟨bg6 97 (by decide +kernel), ini_RX0, by decide +kernel⟩, bg6 95 (by decide +kernel), bg6 96 (by decide +kernel)⟩
set_option maxRecDepth 100000 in
theorem mi_yX10_tier : jMv yX10_tier cX10_tier 2 (some FieldType.int) 1 := ⟨⟨bg6 104 (by decide +kernel), ini_RX10, by decide +kernel⟩, bg6 102 (by decide +kernel), bg6 103 (by decide +kernel)⟩
set_option maxRecDepth 100000 in
theorem mi_yX0_tierOf : jMv yX0_tierOf cX0_tierOf 2 (some FieldType.int) 1 := ⟨⟨bg6 108 (by decide +kernel), ini_RX0, by decide +kernel⟩, bg6 106 (by decide +kernel), bg6 107 (by decide +kernel)⟩
set_option maxRecDepth 100000 in
theorem mi_yX10_earnedTier : jMv yX10_earnedTier cX10_earnedTier 2 (some FieldType.int) 1 := ⟨⟨bg6 115 (by decide +kernel), ini_RX10, by decide +kernel⟩, bg6 113 (by decide +kernel), bg6 114 (by decide +kernel)⟩
set_option maxRecDepth 100000 in
theorem mi_yX0_qualifyingSum : jMv yX0_qualifyingSum cX0_qualifyingSum 2 (some FieldType.int) 1 := ⟨⟨bg6 119 (by decide +kernel), ini_RX0, by decide +kernel⟩, bg6 117 (by decide +kernel), bg6 118 (by decide +kernel)⟩
set_option maxRecDepth 100000 in
theorem mi_yX10_qualifying : jMv yX10_qualifying cX10_qualifying 2 (some FieldType.int) 1 := ⟨⟨bg6 127 (by decide +kernel), ini_RX10, by decide +kernel⟩, bg6 125 (by decide +kernel), bg6 126 (by decide +kernel)⟩
set_option maxRecDepth 100000 in
theorem mi_yX10_belowSince : jMv yX10_belowSince cX10_belowSince 2 (some FieldType.int) 1 := ⟨⟨bg6 134 (by decide +kernel), ini_RX10, by decide +kernel⟩, bg6 132 (by decide +kernel), bg6 133 (by decide +kernel)⟩
set_option maxRecDepth 100000 in
theorem mi_yX0_belowDay : jMv yX0_belowDay cX0_belowDay 2 (some FieldType.int) 1 := ⟨⟨bg6 138 (by decide +kernel), ini_RX0, by decide +kernel⟩, bg6 136 (by decide +kernel), bg6 137 (by decide +kernel)⟩
set_option maxRecDepth 100000 in
theorem mi_yX10_toNextTier : jMv yX10_toNextTier cX10_toNextTier 4 (some FieldType.int) 1 := ⟨⟨bg6 145 (by decide +kernel), ini_RX10, by decide +kernel⟩, bg6 143 (by decide +kernel), bg6 144 (by decide +kernel)⟩
set_option maxRecDepth 100000 in
theorem mi_yX10_tierAfter : jMv yX10_tierAfter cX10_tierAfter 3 (some FieldType.int) 2 := ⟨⟨bg6 153 (by decide +kernel), ini_RX10, by decide +kernel⟩, bg6 151 (by decide +kernel), bg6 152 (by decide +kernel)⟩
set_option maxRecDepth 100000 in
theorem mi_yX0_futureTier : jMv yX0_futureTier cX0_futureTier 7 (some FieldType.int) 2 := ⟨⟨bg6 157 (by decide +kernel), ini_RX0, by decide +kernel⟩, bg6 155 (by decide +kernel), bg6 156 (by decide +kernel)⟩
set_option maxRecDepth 100000 in
theorem mi_yX10_wouldEarn : jMv yX10_wouldEarn cX10_wouldEarn 4 (some FieldType.int) 3 := ⟨⟨bg6 164 (by decide +kernel), ini_RX10, by decide +kernel⟩, bg6 162 (by decide +kernel), bg6 163 (by decide +kernel)⟩
set_option maxRecDepth 100000 in
theorem mi_yX10_bestCategory : jMv yX10_bestCategory cX10_bestCategory 4 (some FieldType.int) 2 := ⟨⟨bg6 172 (by decide +kernel), ini_RX10, by decide +kernel⟩, bg6 170 (by decide +kernel), bg6 171 (by decide +kernel)⟩
set_option maxRecDepth 100000 in
theorem mi_yX0_richestCategory : jMv yX0_richestCategory cX0_richestCategory 7 (some FieldType.int) 2 := ⟨⟨bg6 176 (by decide +kernel), ini_RX0, by decide +kernel⟩, bg6 174 (by decide +kernel), bg6 175 (by decide +kernel)⟩
set_option maxRecDepth 100000 in
theorem mi_yX10_leastCents : jMv yX10_leastCents cX10_leastCents 5 (some FieldType.int) 3 := ⟨⟨bg6 184 (by decide +kernel), ini_RX10, by decide +kernel⟩, bg6 182 (by decide +kernel), bg6 183 (by decide +kernel)⟩
set_option maxRecDepth 100000 in
theorem mi_yX0_smallestCents : jMv yX0_smallestCents cX0_smallestCents 8 (some FieldType.int) 3 := ⟨⟨bg6 188 (by decide +kernel), ini_RX0, by decide +kernel⟩, bg6 186 (by decide +kernel), bg6 187 (by decide +kernel)⟩
set_option maxRecDepth 100000 in
theorem mi_yX10_purchasePart : jMv yX10_purchasePart cX10_purchasePart 3 (some FieldType.int) 2 := ⟨⟨bg6 197 (by decide +kernel), ini_RX10, by decide +kernel⟩, bg6 195 (by decide +kernel), bg6 196 (by decide +kernel)⟩
set_option maxRecDepth 100000 in
theorem mi_yX10_expiringWithin : jMv yX10_expiringWithin cX10_expiringWithin 3 (some FieldType.int) 2 := ⟨⟨bg6 204 (by decide +kernel), ini_RX10, by decide +kernel⟩, bg6 202 (by decide +kernel), bg6 203 (by decide +kernel)⟩
set_option maxRecDepth 100000 in
theorem mi_yX1_sumUntil : jMv yX1_sumUntil cX1_sumUntil 5 (some FieldType.int) 2 := ⟨⟨bg6 208 (by decide +kernel), ini_RX1, by decide +kernel⟩, bg6 206 (by decide +kernel), bg6 207 (by decide +kernel)⟩
set_option maxRecDepth 100000 in
theorem mi_yX10_nextExpiry : jMv yX10_nextExpiry cX10_nextExpiry 3 (some FieldType.int) 1 := ⟨⟨bg6 215 (by decide +kernel), ini_RX10, by decide +kernel⟩, bg6 213 (by decide +kernel), bg6 214 (by decide +kernel)⟩
set_option maxRecDepth 100000 in
theorem mi_yX0_soonestExpiry : jMv yX0_soonestExpiry cX0_soonestExpiry 4 (some FieldType.int) 1 := ⟨⟨bg6 219 (by decide +kernel), ini_RX0, by decide +kernel⟩, bg6 217 (by decide +kernel), bg6 218 (by decide +kernel)⟩
set_option maxRecDepth 100000 in
theorem mi_yX10_redeemedWith : jMv yX10_redeemedWith cX10_redeemedWith 2 (some FieldType.int) 1 := ⟨⟨bg6 227 (by decide +kernel), ini_RX10, by decide +kernel⟩, bg6 225 (by decide +kernel), bg6 226 (by decide +kernel)⟩
set_option maxRecDepth 100000 in
theorem mi_yX0_redeemedIn : jMv yX0_redeemedIn cX0_redeemedIn 2 (some FieldType.int) 1 := ⟨⟨bg6 231 (by decide +kernel), ini_RX0, by decide +kernel⟩, bg6 229 (by decide +kernel), bg6 230 (by decide +kernel)⟩
set_option maxRecDepth 100000 in
theorem mi_yX10_breakage : jMv yX10_breakage cX10_breakage 2 (some FieldType.int) 1 := ⟨⟨bg6 238 (by decide +kernel), ini_RX10, by decide +kernel⟩, bg6 236 (by decide +kernel), bg6 237 (by decide +kernel)⟩
set_option maxRecDepth 100000 in
theorem mi_yX10_poolBreakage : jMv yX10_poolBreakage cX10_poolBreakage 2 (some FieldType.int) 1 := ⟨⟨bg7 5 (by decide +kernel), ini_RX10, by decide +kernel⟩, bg7 3 (by decide +kernel), bg7 4 (by decide +kernel)⟩
set_option maxRecDepth 100000 in
theorem mi_yX10_rankedMember : jMv yX10_rankedMember cX10_rankedMember 2 (some FieldType.int) 1 := ⟨⟨bg7 12 (by decide +kernel), ini_RX10, by decide +kernel⟩, bg7 10 (by decide +kernel), bg7 11 (by decide +kernel)⟩
set_option maxRecDepth 100000 in
theorem mi_yX0_memberAtRank : jMv yX0_memberAtRank cX0_memberAtRank 6 (some FieldType.int) 1 := ⟨⟨bg7 17 (by decide +kernel), ini_RX0, by decide +kernel⟩, bg7 15 (by decide +kernel), bg7 16 (by decide +kernel)⟩
set_option maxRecDepth 100000 in
theorem mi_yX0_ranksBefore : jMv yX0_ranksBefore cX0_ranksBefore 3 (some FieldType.boolean) 2 := ⟨⟨bg7 21 (by decide +kernel), ini_RX0, by decide +kernel⟩, bg7 20 (by decide +kernel), bg 29 (by decide +kernel)⟩
set_option maxRecDepth 100000 in
theorem mi_yX7_nameOf : jMv yX7_nameOf cX7_nameOf 3 (some FieldType.int) 2 := ⟨⟨bg7 25 (by decide +kernel), ini_RX7, by decide +kernel⟩, bg7 23 (by decide +kernel), bg7 24 (by decide +kernel)⟩
set_option maxRecDepth 100000 in
theorem mi_yX10_log : jMv yX10_log cX10_log 3 (some FieldType.int) 2 := ⟨⟨bg7 32 (by decide +kernel), ini_RX10, by decide +kernel⟩, bg7 30 (by decide +kernel), bg7 31 (by decide +kernel)⟩
set_option maxRecDepth 100000 in
theorem mi_yX4_part : jMv yX4_part cX4_part 4 (some FieldType.int) 2 := ⟨⟨bg7 37 (by decide +kernel), ini_RX4, by decide +kernel⟩, bg7 35 (by decide +kernel), bg7 36 (by decide +kernel)⟩
set_option maxRecDepth 100000 in
theorem mi_yX10_undo : jMv yX10_undo cX10_undo 1 (some FieldType.int) 0 := ⟨⟨bg7 45 (by decide +kernel), ini_RX10, by decide +kernel⟩, bg7 43 (by decide +kernel), bg7 44 (by decide +kernel)⟩
set_option maxRecDepth 100000 in
theorem mi_yX2_giveBack : jMv yX2_giveBack cX2_giveBack 3 (none : Option FieldType) 1 := ⟨⟨bg7 50 (by decide +kernel), ini_RX2, by decide +kernel⟩, bg7 48 (by decide +kernel), bg7 49 (by decide +kernel)⟩
set_option maxRecDepth 100000 in
theorem mi_yX10_restore : jMv yX10_restore cX10_restore 1 (some FieldType.int) 0 := ⟨⟨bg7 57 (by decide +kernel), ini_RX10, by decide +kernel⟩, bg7 55 (by decide +kernel), bg7 56 (by decide +kernel)⟩
set_option maxRecDepth 100000 in
theorem mi_yX11_thrown : jMv yX11_thrown cX11_thrown 1 (some FieldType.int) 0 := ⟨⟨bg7 62 (by decide +kernel), ini_RX11, by decide +kernel⟩, bg7 60 (by decide +kernel), bg7 61 (by decide +kernel)⟩
set_option maxRecDepth 100000 in
theorem mi_yX11_init : jMi yX11_init cX11_init 1 0 := ⟨⟨bg7 67 (by decide +kernel), ini_RX11, by decide +kernel⟩, bg7 66 (by decide +kernel), rfl⟩
set_option maxRecDepth 100000 in
theorem mi_yX11_begins : jMs yX11_begins cX11_begins 2 (none : Option FieldType) 1 := ⟨⟨bg7 73 (by decide +kernel), ini_RX11, by decide +kernel⟩, bg7 72 (by decide +kernel)⟩
set_option maxRecDepth 100000 in
theorem mi_yX11_starts : jMv yX11_starts cX11_starts 2 (none : Option FieldType) 0 := ⟨⟨bg7 77 (by decide +kernel), ini_RX11, by decide +kernel⟩, bg7 76 (by decide +kernel), bg 30 (by decide +kernel)⟩
set_option maxRecDepth 100000 in
theorem mi_yX11_append : jMv yX11_append cX11_append 6 (some FieldType.int) 5 := ⟨⟨bg7 151 (by decide +kernel), ini_RX11, by decide +kernel⟩, bg7 149 (by decide +kernel), bg7 150 (by decide +kernel)⟩
set_option maxRecDepth 100000 in
theorem mi_yX11_bytesOf : jMs yX11_bytesOf cX11_bytesOf 3 (some FieldType.int) 1 := ⟨⟨bg7 154 (by decide +kernel), ini_RX11, by decide +kernel⟩, bg7 153 (by decide +kernel)⟩
set_option maxRecDepth 100000 in
theorem mi_yX11_fails : jMv yX11_fails cX11_fails 2 (some FieldType.int) 1 := ⟨⟨bg7 158 (by decide +kernel), ini_RX11, by decide +kernel⟩, bg7 157 (by decide +kernel), bg 31 (by decide +kernel)⟩
set_option maxRecDepth 100000 in
theorem mi_yX11_brings : jMv yX11_brings cX11_brings 4 (none : Option FieldType) 1 := ⟨⟨bg7 162 (by decide +kernel), ini_RX11, by decide +kernel⟩, bg7 161 (by decide +kernel), bg 32 (by decide +kernel)⟩
set_option maxRecDepth 100000 in
theorem mi_yX11_truncate : jMv yX11_truncate cX11_truncate 2 (some FieldType.int) 1 := ⟨⟨bg7 166 (by decide +kernel), ini_RX11, by decide +kernel⟩, bg7 164 (by decide +kernel), bg7 165 (by decide +kernel)⟩
set_option maxRecDepth 100000 in
theorem mi_yX11_isIn : jMs yX11_isIn cX11_isIn 6 (some FieldType.boolean) 3 := ⟨⟨bg7 169 (by decide +kernel), ini_RX11, by decide +kernel⟩, bg7 168 (by decide +kernel)⟩
set_option maxRecDepth 100000 in
theorem mi_yX11_errorPosition : jMv yX11_errorPosition cX11_errorPosition 1 (some FieldType.int) 0 := ⟨⟨bg7 173 (by decide +kernel), ini_RX11, by decide +kernel⟩, bg7 171 (by decide +kernel), bg7 172 (by decide +kernel)⟩
set_option maxRecDepth 100000 in
theorem mi_yX11_readsText : jMv yX11_readsText cX11_readsText 1 (some FieldType.int) 0 := ⟨⟨bg7 177 (by decide +kernel), ini_RX11, by decide +kernel⟩, bg7 176 (by decide +kernel), bg 33 (by decide +kernel)⟩
set_option maxRecDepth 100000 in
theorem mi_yX11_readsStatement : jMv yX11_readsStatement cX11_readsStatement 3 (none : Option FieldType) 0 := ⟨⟨bg7 181 (by decide +kernel), ini_RX11, by decide +kernel⟩, bg7 180 (by decide +kernel), bg 34 (by decide +kernel)⟩
set_option maxRecDepth 100000 in
theorem mi_yX11_look : jMv yX11_look cX11_look 1 (some FieldType.int) 0 := ⟨⟨bg7 185 (by decide +kernel), ini_RX11, by decide +kernel⟩, bg7 184 (by decide +kernel), bg 35 (by decide +kernel)⟩
set_option maxRecDepth 100000 in
theorem mi_yX11_here : jMv yX11_here cX11_here 1 (some FieldType.int) 0 := ⟨⟨bg7 189 (by decide +kernel), ini_RX11, by decide +kernel⟩, bg7 188 (by decide +kernel), bg 36 (by decide +kernel)⟩
set_option maxRecDepth 100000 in
theorem mi_yX11_takes : jMv yX11_takes cX11_takes 3 (some FieldType.boolean) 1 := ⟨⟨bg7 194 (by decide +kernel), ini_RX11, by decide +kernel⟩, bg7 193 (by decide +kernel), bg 37 (by decide +kernel)⟩
set_option maxRecDepth 100000 in
theorem mi_yX11_isWord : jMv yX11_isWord cX11_isWord 3 (some FieldType.boolean) 1 := ⟨⟨bg7 198 (by decide +kernel), ini_RX11, by decide +kernel⟩, bg7 197 (by decide +kernel), bg 38 (by decide +kernel)⟩
set_option maxRecDepth 100000 in
theorem mi_yX11_isFine : jMv yX11_isFine cX11_isFine 1 (some FieldType.boolean) 0 := ⟨⟨bg7 202 (by decide +kernel), ini_RX11, by decide +kernel⟩, bg7 201 (by decide +kernel), bg 39 (by decide +kernel)⟩
set_option maxRecDepth 100000 in
theorem mi_yX11_wordLength : jMv yX11_wordLength cX11_wordLength 3 (some FieldType.int) 0 := ⟨⟨bg7 206 (by decide +kernel), ini_RX11, by decide +kernel⟩, bg7 205 (by decide +kernel), bg 40 (by decide +kernel)⟩
set_option maxRecDepth 100000 in
theorem mi_yX11_isLetter : jMs yX11_isLetter cX11_isLetter 1 (some FieldType.boolean) 1 := ⟨⟨bg7 209 (by decide +kernel), ini_RX11, by decide +kernel⟩, bg7 208 (by decide +kernel)⟩
set_option maxRecDepth 100000 in
theorem mi_yX11_readsTier : jMv yX11_readsTier cX11_readsTier 2 (none : Option FieldType) 0 := ⟨⟨bg7 215 (by decide +kernel), ini_RX11, by decide +kernel⟩, bg7 214 (by decide +kernel), bg 41 (by decide +kernel)⟩
set_option maxRecDepth 100000 in
theorem mi_yX11_room : jMv yX11_room cX11_room 3 (none : Option FieldType) 2 := ⟨⟨bg7 219 (by decide +kernel), ini_RX11, by decide +kernel⟩, bg7 218 (by decide +kernel), bg 42 (by decide +kernel)⟩
set_option maxRecDepth 100000 in
theorem mi_yX11_wrongAt : jMv yX11_wrongAt cX11_wrongAt 2 (none : Option FieldType) 1 := ⟨⟨bg7 223 (by decide +kernel), ini_RX11, by decide +kernel⟩, bg7 222 (by decide +kernel), bg 43 (by decide +kernel)⟩
set_option maxRecDepth 100000 in
theorem mi_yX11_names : jMv yX11_names cX11_names 5 (none : Option FieldType) 1 := ⟨⟨bg7 227 (by decide +kernel), ini_RX11, by decide +kernel⟩, bg7 226 (by decide +kernel), bg 44 (by decide +kernel)⟩
set_option maxRecDepth 100000 in
theorem mi_yX11_isKeyword : jMv yX11_isKeyword cX11_isKeyword 1 (some FieldType.boolean) 0 := ⟨⟨bg7 232 (by decide +kernel), ini_RX11, by decide +kernel⟩, bg7 231 (by decide +kernel), bg 45 (by decide +kernel)⟩
set_option maxRecDepth 100000 in
theorem mi_yX11_rowOf : jMs yX11_rowOf cX11_rowOf 8 (some FieldType.int) 5 := ⟨⟨bg8 2 (by decide +kernel), ini_RX11, by decide +kernel⟩, bg8 1 (by decide +kernel)⟩
set_option maxRecDepth 100000 in
theorem mi_yX11_reads : jMv yX11_reads cX11_reads 5 (none : Option FieldType) 3 := ⟨⟨bg8 7 (by decide +kernel), ini_RX11, by decide +kernel⟩, bg8 6 (by decide +kernel), bg 46 (by decide +kernel)⟩
set_option maxRecDepth 100000 in
theorem mi_yX11_number : jMv yX11_number cX11_number 5 (some FieldType.int) 2 := ⟨⟨bg8 11 (by decide +kernel), ini_RX11, by decide +kernel⟩, bg8 10 (by decide +kernel), bg 47 (by decide +kernel)⟩
set_option maxRecDepth 100000 in
theorem mi_yX11_isDigit : jMs yX11_isDigit cX11_isDigit 1 (some FieldType.boolean) 1 := ⟨⟨bg8 14 (by decide +kernel), ini_RX11, by decide +kernel⟩, bg8 13 (by decide +kernel)⟩
set_option maxRecDepth 100000 in
theorem mi_yX11_readsCategory : jMv yX11_readsCategory cX11_readsCategory 2 (none : Option FieldType) 0 := ⟨⟨bg8 18 (by decide +kernel), ini_RX11, by decide +kernel⟩, bg8 17 (by decide +kernel), bg 48 (by decide +kernel)⟩
set_option maxRecDepth 100000 in
theorem mi_yX11_readsPromo : jMv yX11_readsPromo cX11_readsPromo 3 (none : Option FieldType) 0 := ⟨⟨bg8 23 (by decide +kernel), ini_RX11, by decide +kernel⟩, bg8 22 (by decide +kernel), bg 49 (by decide +kernel)⟩
set_option maxRecDepth 100000 in
theorem mi_yX11_categoryName : jMv yX11_categoryName cX11_categoryName 3 (some FieldType.int) 0 := ⟨⟨bg8 27 (by decide +kernel), ini_RX11, by decide +kernel⟩, bg8 26 (by decide +kernel), bg 50 (by decide +kernel)⟩
set_option maxRecDepth 100000 in
theorem mi_yX11_readsMember : jMv yX11_readsMember cX11_readsMember 1 (none : Option FieldType) 0 := ⟨⟨bg8 31 (by decide +kernel), ini_RX11, by decide +kernel⟩, bg8 30 (by decide +kernel), bg 51 (by decide +kernel)⟩
set_option maxRecDepth 100000 in
theorem mi_yX11_readsHouse : jMv yX11_readsHouse cX11_readsHouse 1 (none : Option FieldType) 0 := ⟨⟨bg8 35 (by decide +kernel), ini_RX11, by decide +kernel⟩, bg8 34 (by decide +kernel), bg 52 (by decide +kernel)⟩
set_option maxRecDepth 100000 in
theorem mi_yX11_readsOnce : jMv yX11_readsOnce cX11_readsOnce 4 (none : Option FieldType) 3 := ⟨⟨bg8 39 (by decide +kernel), ini_RX11, by decide +kernel⟩, bg8 38 (by decide +kernel), bg 53 (by decide +kernel)⟩
set_option maxRecDepth 100000 in
theorem mi_yX11_load : jMv yX11_load cX11_load 2 (some FieldType.int) 0 := ⟨⟨bg8 43 (by decide +kernel), ini_RX11, by decide +kernel⟩, bg8 41 (by decide +kernel), bg8 42 (by decide +kernel)⟩
set_option maxRecDepth 100000 in
theorem mi_yX11_find : jMv yX11_find cX11_find 2 (some FieldType.int) 0 := ⟨⟨bg8 47 (by decide +kernel), ini_RX11, by decide +kernel⟩, bg8 45 (by decide +kernel), bg8 46 (by decide +kernel)⟩
set_option maxRecDepth 100000 in
theorem mi_yX11_purchase : jMv yX11_purchase cX11_purchase 9 (some FieldType.int) 3 := ⟨⟨bg8 51 (by decide +kernel), ini_RX11, by decide +kernel⟩, bg8 49 (by decide +kernel), bg8 50 (by decide +kernel)⟩
set_option maxRecDepth 100000 in
theorem mi_yX11_whyNotBuy : jMv yX11_whyNotBuy cX11_whyNotBuy 4 (some FieldType.int) 3 := ⟨⟨bg8 55 (by decide +kernel), ini_RX11, by decide +kernel⟩, bg8 54 (by decide +kernel), bg 54 (by decide +kernel)⟩
set_option maxRecDepth 100000 in
theorem mi_yX11_isMember : jMv yX11_isMember cX11_isMember 2 (some FieldType.boolean) 1 := ⟨⟨bg8 59 (by decide +kernel), ini_RX11, by decide +kernel⟩, bg8 58 (by decide +kernel), bg 55 (by decide +kernel)⟩
set_option maxRecDepth 100000 in
theorem mi_yX11_isCategory : jMv yX11_isCategory cX11_isCategory 2 (some FieldType.boolean) 1 := ⟨⟨bg8 63 (by decide +kernel), ini_RX11, by decide +kernel⟩, bg8 62 (by decide +kernel), bg 56 (by decide +kernel)⟩
set_option maxRecDepth 100000 in
theorem mi_yX11_remembers : jMv yX11_remembers cX11_remembers 2 (none : Option FieldType) 0 := ⟨⟨bg8 68 (by decide +kernel), ini_RX11, by decide +kernel⟩, bg8 67 (by decide +kernel), bg 57 (by decide +kernel)⟩
set_option maxRecDepth 100000 in
theorem mi_yX11_pointsOf : jMv yX11_pointsOf cX11_pointsOf 4 (some FieldType.int) 3 := ⟨⟨bg8 73 (by decide +kernel), ini_RX11, by decide +kernel⟩, bg8 72 (by decide +kernel), bg 58 (by decide +kernel)⟩
set_option maxRecDepth 100000 in
theorem mi_yX11_baseOf : jMv yX11_baseOf cX11_baseOf 5 (some FieldType.int) 2 := ⟨⟨bg8 77 (by decide +kernel), ini_RX11, by decide +kernel⟩, bg8 76 (by decide +kernel), bg 59 (by decide +kernel)⟩
set_option maxRecDepth 100000 in
theorem mi_yX11_today0 : jMv yX11_today0 cX11_today0 1 (some FieldType.int) 0 := ⟨⟨bg8 81 (by decide +kernel), ini_RX11, by decide +kernel⟩, bg8 80 (by decide +kernel), bg 60 (by decide +kernel)⟩
set_option maxRecDepth 100000 in
theorem mi_yX11_extrasOf : jMv yX11_extrasOf cX11_extrasOf 5 (some FieldType.int) 2 := ⟨⟨bg8 85 (by decide +kernel), ini_RX11, by decide +kernel⟩, bg8 84 (by decide +kernel), bg 61 (by decide +kernel)⟩
set_option maxRecDepth 100000 in
theorem mi_yX11_poolAt : jMs yX11_poolAt cX11_poolAt 3 (some FieldType.int) 3 := ⟨⟨bg8 89 (by decide +kernel), ini_RX11, by decide +kernel⟩, bg8 88 (by decide +kernel)⟩
set_option maxRecDepth 100000 in
theorem mi_yX11_credits : jMv yX11_credits cX11_credits 5 (some FieldType.int) 3 := ⟨⟨bg8 93 (by decide +kernel), ini_RX11, by decide +kernel⟩, bg8 92 (by decide +kernel), bg 62 (by decide +kernel)⟩
set_option maxRecDepth 100000 in
theorem mi_yX11_accountAt : jMs yX11_accountAt cX11_accountAt 2 (some FieldType.int) 2 := ⟨⟨bg8 97 (by decide +kernel), ini_RX11, by decide +kernel⟩, bg8 96 (by decide +kernel)⟩
set_option maxRecDepth 100000 in
theorem mi_yX11_writes : jMv yX11_writes cX11_writes 6 (none : Option FieldType) 4 := ⟨⟨bg8 101 (by decide +kernel), ini_RX11, by decide +kernel⟩, bg8 100 (by decide +kernel), bg 63 (by decide +kernel)⟩
set_option maxRecDepth 100000 in
theorem mi_yX11_logs : jMv yX11_logs cX11_logs 5 (none : Option FieldType) 3 := ⟨⟨bg8 105 (by decide +kernel), ini_RX11, by decide +kernel⟩, bg8 104 (by decide +kernel), bg 64 (by decide +kernel)⟩
set_option maxRecDepth 100000 in
theorem mi_yX11_checksTier : jMv yX11_checksTier cX11_checksTier 3 (none : Option FieldType) 1 := ⟨⟨bg8 109 (by decide +kernel), ini_RX11, by decide +kernel⟩, bg8 108 (by decide +kernel), bg 65 (by decide +kernel)⟩
set_option maxRecDepth 100000 in
theorem mi_yX11_sumUpTo : jMv yX11_sumUpTo cX11_sumUpTo 5 (some FieldType.int) 2 := ⟨⟨bg8 113 (by decide +kernel), ini_RX11, by decide +kernel⟩, bg8 112 (by decide +kernel), bg 66 (by decide +kernel)⟩
set_option maxRecDepth 100000 in
theorem mi_yX11_baseOn : jMv yX11_baseOn cX11_baseOn 4 (some FieldType.int) 2 := ⟨⟨bg8 117 (by decide +kernel), ini_RX11, by decide +kernel⟩, bg8 116 (by decide +kernel), bg 67 (by decide +kernel)⟩
set_option maxRecDepth 100000 in
theorem mi_yX11_tierBy : jMv yX11_tierBy cX11_tierBy 3 (some FieldType.int) 1 := ⟨⟨bg8 121 (by decide +kernel), ini_RX11, by decide +kernel⟩, bg8 120 (by decide +kernel), bg 68 (by decide +kernel)⟩
set_option maxRecDepth 100000 in
theorem mi_yX11_checks : jMv yX11_checks cX11_checks 3 (none : Option FieldType) 2 := ⟨⟨bg8 125 (by decide +kernel), ini_RX11, by decide +kernel⟩, bg8 124 (by decide +kernel), bg 69 (by decide +kernel)⟩
set_option maxRecDepth 100000 in
theorem mi_yX11_refund : jMv yX11_refund cX11_refund 8 (some FieldType.int) 1 := ⟨⟨bg8 129 (by decide +kernel), ini_RX11, by decide +kernel⟩, bg8 127 (by decide +kernel), bg8 128 (by decide +kernel)⟩
set_option maxRecDepth 100000 in
theorem mi_yX11_isBought : jMv yX11_isBought cX11_isBought 2 (some FieldType.boolean) 1 := ⟨⟨bg8 133 (by decide +kernel), ini_RX11, by decide +kernel⟩, bg8 132 (by decide +kernel), bg 70 (by decide +kernel)⟩
set_option maxRecDepth 100000 in
theorem mi_yX11_bought : jMv yX11_bought cX11_bought 3 (some FieldType.int) 2 := ⟨⟨bg8 138 (by decide +kernel), ini_RX11, by decide +kernel⟩, bg8 137 (by decide +kernel), bg 71 (by decide +kernel)⟩
set_option maxRecDepth 100000 in
theorem mi_yX11_takesAt : jMv yX11_takesAt cX11_takesAt 4 (some FieldType.int) 2 := ⟨⟨bg8 142 (by decide +kernel), ini_RX11, by decide +kernel⟩, bg8 141 (by decide +kernel), bg 72 (by decide +kernel)⟩
set_option maxRecDepth 100000 in
theorem mi_yX11_takesFromAccount : jMv yX11_takesFromAccount cX11_takesFromAccount 5 (some FieldType.int) 2 := ⟨⟨bg8 146 (by decide +kernel), ini_RX11, by decide +kernel⟩, bg8 145 (by decide +kernel), bg 73 (by decide +kernel)⟩
set_option maxRecDepth 100000 in
theorem mi_yX11_lastExpiry : jMv yX11_lastExpiry cX11_lastExpiry 1 (some FieldType.int) 0 := ⟨⟨bg8 150 (by decide +kernel), ini_RX11, by decide +kernel⟩, bg8 149 (by decide +kernel), bg 74 (by decide +kernel)⟩
set_option maxRecDepth 100000 in
theorem mi_yX11_takesOwn : jMv yX11_takesOwn cX11_takesOwn 6 (some FieldType.int) 3 := ⟨⟨bg8 154 (by decide +kernel), ini_RX11, by decide +kernel⟩, bg8 153 (by decide +kernel), bg 75 (by decide +kernel)⟩
set_option maxRecDepth 100000 in
theorem mi_yX11_redeem : jMv yX11_redeem cX11_redeem 10 (some FieldType.int) 2 := ⟨⟨bg8 158 (by decide +kernel), ini_RX11, by decide +kernel⟩, bg8 156 (by decide +kernel), bg8 157 (by decide +kernel)⟩
set_option maxRecDepth 100000 in
theorem mi_yX11_inAccount : jMv yX11_inAccount cX11_inAccount 4 (some FieldType.int) 1 := ⟨⟨bg8 162 (by decide +kernel), ini_RX11, by decide +kernel⟩, bg8 161 (by decide +kernel), bg 76 (by decide +kernel)⟩
set_option maxRecDepth 100000 in
theorem mi_yX11_inPool : jMv yX11_inPool cX11_inPool 6 (some FieldType.int) 2 := ⟨⟨bg8 166 (by decide +kernel), ini_RX11, by decide +kernel⟩, bg8 165 (by decide +kernel), bg 77 (by decide +kernel)⟩
set_option maxRecDepth 100000 in
theorem mi_yX11_redeems : jMv yX11_redeems cX11_redeems 5 (some FieldType.int) 3 := ⟨⟨bg8 170 (by decide +kernel), ini_RX11, by decide +kernel⟩, bg8 169 (by decide +kernel), bg 78 (by decide +kernel)⟩
set_option maxRecDepth 100000 in
theorem mi_yX11_partOf : jMv yX11_partOf cX11_partOf 3 (some FieldType.int) 1 := ⟨⟨bg8 174 (by decide +kernel), ini_RX11, by decide +kernel⟩, bg8 173 (by decide +kernel), bg 79 (by decide +kernel)⟩
set_option maxRecDepth 100000 in
theorem mi_yX11_transfer : jMv yX11_transfer cX11_transfer 8 (some FieldType.int) 3 := ⟨⟨bg8 178 (by decide +kernel), ini_RX11, by decide +kernel⟩, bg8 176 (by decide +kernel), bg8 177 (by decide +kernel)⟩
set_option maxRecDepth 100000 in
theorem mi_yX11_join : jMv yX11_join cX11_join 3 (some FieldType.int) 2 := ⟨⟨bg8 182 (by decide +kernel), ini_RX11, by decide +kernel⟩, bg8 180 (by decide +kernel), bg8 181 (by decide +kernel)⟩
set_option maxRecDepth 100000 in
theorem mi_yX11_isHouse : jMv yX11_isHouse cX11_isHouse 2 (some FieldType.boolean) 1 := ⟨⟨bg8 186 (by decide +kernel), ini_RX11, by decide +kernel⟩, bg8 185 (by decide +kernel), bg 80 (by decide +kernel)⟩
set_option maxRecDepth 100000 in
theorem mi_yX11_living : jMv yX11_living cX11_living 4 (some FieldType.int) 1 := ⟨⟨bg8 190 (by decide +kernel), ini_RX11, by decide +kernel⟩, bg8 189 (by decide +kernel), bg 81 (by decide +kernel)⟩
set_option maxRecDepth 100000 in
theorem mi_yX11_leave : jMv yX11_leave cX11_leave 8 (some FieldType.int) 1 := ⟨⟨bg8 194 (by decide +kernel), ini_RX11, by decide +kernel⟩, bg8 192 (by decide +kernel), bg8 193 (by decide +kernel)⟩
set_option maxRecDepth 100000 in
theorem mi_yX11_setShare : jMv yX11_setShare cX11_setShare 4 (some FieldType.int) 2 := ⟨⟨bg8 198 (by decide +kernel), ini_RX11, by decide +kernel⟩, bg8 196 (by decide +kernel), bg8 197 (by decide +kernel)⟩
set_option maxRecDepth 100000 in
theorem mi_yX11_advance : jMv yX11_advance cX11_advance 4 (some FieldType.int) 1 := ⟨⟨bg8 202 (by decide +kernel), ini_RX11, by decide +kernel⟩, bg8 200 (by decide +kernel), bg8 201 (by decide +kernel)⟩
set_option maxRecDepth 100000 in
theorem mi_yX11_passes : jMv yX11_passes cX11_passes 6 (some FieldType.int) 0 := ⟨⟨bg8 207 (by decide +kernel), ini_RX11, by decide +kernel⟩, bg8 206 (by decide +kernel), bg 82 (by decide +kernel)⟩
set_option maxRecDepth 100000 in
theorem mi_yX11_expiresAt : jMv yX11_expiresAt cX11_expiresAt 3 (some FieldType.int) 1 := ⟨⟨bg8 211 (by decide +kernel), ini_RX11, by decide +kernel⟩, bg8 210 (by decide +kernel), bg 83 (by decide +kernel)⟩
set_option maxRecDepth 100000 in
theorem mi_yX11_setup : jMv yX11_setup cX11_setup 2 (some FieldType.int) 1 := ⟨⟨bg8 215 (by decide +kernel), ini_RX11, by decide +kernel⟩, bg8 213 (by decide +kernel), bg8 214 (by decide +kernel)⟩
set_option maxRecDepth 100000 in
theorem mi_yX11_threshold : jMv yX11_threshold cX11_threshold 2 (some FieldType.int) 1 := ⟨⟨bg8 220 (by decide +kernel), ini_RX11, by decide +kernel⟩, bg8 218 (by decide +kernel), bg8 219 (by decide +kernel)⟩
set_option maxRecDepth 100000 in
theorem mi_yX11_extras : jMv yX11_extras cX11_extras 3 (some FieldType.int) 2 := ⟨⟨bg8 224 (by decide +kernel), ini_RX11, by decide +kernel⟩, bg8 222 (by decide +kernel), bg8 223 (by decide +kernel)⟩
set_option maxRecDepth 100000 in
theorem mi_yX11_today : jMv yX11_today cX11_today 1 (some FieldType.int) 0 := ⟨⟨bg8 229 (by decide +kernel), ini_RX11, by decide +kernel⟩, bg8 227 (by decide +kernel), bg8 228 (by decide +kernel)⟩
set_option maxRecDepth 100000 in
theorem mi_yX11_balance : jMv yX11_balance cX11_balance 2 (some FieldType.int) 1 := ⟨⟨bg8 233 (by decide +kernel), ini_RX11, by decide +kernel⟩, bg8 231 (by decide +kernel), bg8 232 (by decide +kernel)⟩
set_option maxRecDepth 100000 in
theorem mi_yX11_lacksMember : jMv yX11_lacksMember cX11_lacksMember 2 (some FieldType.boolean) 1 := ⟨⟨bg8 237 (by decide +kernel), ini_RX11, by decide +kernel⟩, bg8 236 (by decide +kernel), bg 84 (by decide +kernel)⟩
set_option maxRecDepth 100000 in
theorem mi_yX11_debt : jMv yX11_debt cX11_debt 2 (some FieldType.int) 1 := ⟨⟨bg9 1 (by decide +kernel), ini_RX11, by decide +kernel⟩, bg8 239 (by decide +kernel), bg9 0 (by decide +kernel)⟩
set_option maxRecDepth 100000 in
theorem mi_yX11_available : jMv yX11_available cX11_available 3 (some FieldType.int) 1 := ⟨⟨bg9 5 (by decide +kernel), ini_RX11, by decide +kernel⟩, bg9 3 (by decide +kernel), bg9 4 (by decide +kernel)⟩
set_option maxRecDepth 100000 in
theorem mi_yX11_cohortCount : jMv yX11_cohortCount cX11_cohortCount 4 (some FieldType.int) 1 := ⟨⟨bg9 9 (by decide +kernel), ini_RX11, by decide +kernel⟩, bg9 7 (by decide +kernel), bg9 8 (by decide +kernel)⟩
set_option maxRecDepth 100000 in
theorem mi_yX11_cohort : jMv yX11_cohort cX11_cohort 5 (some FieldType.int) 3 := ⟨⟨bg9 13 (by decide +kernel), ini_RX11, by decide +kernel⟩, bg9 11 (by decide +kernel), bg9 12 (by decide +kernel)⟩
set_option maxRecDepth 100000 in
theorem mi_yX11_cohortDay : jMv yX11_cohortDay cX11_cohortDay 5 (some FieldType.int) 2 := ⟨⟨bg9 17 (by decide +kernel), ini_RX11, by decide +kernel⟩, bg9 16 (by decide +kernel), bg 85 (by decide +kernel)⟩
set_option maxRecDepth 100000 in
theorem mi_yX11_household : jMv yX11_household cX11_household 2 (some FieldType.int) 1 := ⟨⟨bg9 21 (by decide +kernel), ini_RX11, by decide +kernel⟩, bg9 19 (by decide +kernel), bg9 20 (by decide +kernel)⟩
set_option maxRecDepth 100000 in
theorem mi_yX11_members : jMv yX11_members cX11_members 4 (some FieldType.int) 1 := ⟨⟨bg9 25 (by decide +kernel), ini_RX11, by decide +kernel⟩, bg9 23 (by decide +kernel), bg9 24 (by decide +kernel)⟩
set_option maxRecDepth 100000 in
theorem mi_yX11_lacksHouse : jMv yX11_lacksHouse cX11_lacksHouse 2 (some FieldType.boolean) 1 := ⟨⟨bg9 29 (by decide +kernel), ini_RX11, by decide +kernel⟩, bg9 28 (by decide +kernel), bg 86 (by decide +kernel)⟩
set_option maxRecDepth 100000 in
theorem mi_yX11_poolBalance : jMv yX11_poolBalance cX11_poolBalance 2 (some FieldType.int) 1 := ⟨⟨bg9 33 (by decide +kernel), ini_RX11, by decide +kernel⟩, bg9 31 (by decide +kernel), bg9 32 (by decide +kernel)⟩
set_option maxRecDepth 100000 in
theorem mi_yX11_poolCohortCount : jMv yX11_poolCohortCount cX11_poolCohortCount 2 (some FieldType.int) 1 := ⟨⟨bg9 37 (by decide +kernel), ini_RX11, by decide +kernel⟩, bg9 35 (by decide +kernel), bg9 36 (by decide +kernel)⟩
set_option maxRecDepth 100000 in
theorem mi_yX11_poolCohorts : jMv yX11_poolCohorts cX11_poolCohorts 4 (some FieldType.int) 1 := ⟨⟨bg9 41 (by decide +kernel), ini_RX11, by decide +kernel⟩, bg9 40 (by decide +kernel), bg 87 (by decide +kernel)⟩
set_option maxRecDepth 100000 in
theorem mi_yX11_poolCohort : jMv yX11_poolCohort cX11_poolCohort 7 (some FieldType.int) 3 := ⟨⟨bg9 45 (by decide +kernel), ini_RX11, by decide +kernel⟩, bg9 43 (by decide +kernel), bg9 44 (by decide +kernel)⟩
set_option maxRecDepth 100000 in
theorem mi_yX11_contributed : jMv yX11_contributed cX11_contributed 2 (some FieldType.int) 1 := ⟨⟨bg9 50 (by decide +kernel), ini_RX11, by decide +kernel⟩, bg9 48 (by decide +kernel), bg9 49 (by decide +kernel)⟩
set_option maxRecDepth 100000 in
theorem mi_yX11_total : jMv yX11_total cX11_total 4 (some FieldType.int) 1 := ⟨⟨bg9 54 (by decide +kernel), ini_RX11, by decide +kernel⟩, bg9 52 (by decide +kernel), bg9 53 (by decide +kernel)⟩
set_option maxRecDepth 100000 in
theorem mi_yX11_tier : jMv yX11_tier cX11_tier 2 (some FieldType.int) 1 := ⟨⟨bg9 58 (by decide +kernel), ini_RX11, by decide +kernel⟩, bg9 56 (by decide +kernel), bg9 57 (by decide +kernel)⟩
set_option maxRecDepth 100000 in
theorem mi_yX11_earnedTier : jMv yX11_earnedTier cX11_earnedTier 2 (some FieldType.int) 1 := ⟨⟨bg9 62 (by decide +kernel), ini_RX11, by decide +kernel⟩, bg9 60 (by decide +kernel), bg9 61 (by decide +kernel)⟩
set_option maxRecDepth 100000 in
theorem mi_yX11_qualifying : jMv yX11_qualifying cX11_qualifying 2 (some FieldType.int) 1 := ⟨⟨bg9 66 (by decide +kernel), ini_RX11, by decide +kernel⟩, bg9 64 (by decide +kernel), bg9 65 (by decide +kernel)⟩
set_option maxRecDepth 100000 in
theorem mi_yX11_belowSince : jMv yX11_belowSince cX11_belowSince 2 (some FieldType.int) 1 := ⟨⟨bg9 70 (by decide +kernel), ini_RX11, by decide +kernel⟩, bg9 68 (by decide +kernel), bg9 69 (by decide +kernel)⟩
set_option maxRecDepth 100000 in
theorem mi_yX11_toNextTier : jMv yX11_toNextTier cX11_toNextTier 4 (some FieldType.int) 1 := ⟨⟨bg9 74 (by decide +kernel), ini_RX11, by decide +kernel⟩, bg9 72 (by decide +kernel), bg9 73 (by decide +kernel)⟩
set_option maxRecDepth 100000 in
theorem mi_yX11_tierAfter : jMv yX11_tierAfter cX11_tierAfter 5 (some FieldType.int) 2 := ⟨⟨bg9 78 (by decide +kernel), ini_RX11, by decide +kernel⟩, bg9 76 (by decide +kernel), bg9 77 (by decide +kernel)⟩
set_option maxRecDepth 100000 in
theorem mi_yX11_wouldEarn : jMv yX11_wouldEarn cX11_wouldEarn 4 (some FieldType.int) 3 := ⟨⟨bg9 83 (by decide +kernel), ini_RX11, by decide +kernel⟩, bg9 81 (by decide +kernel), bg9 82 (by decide +kernel)⟩
set_option maxRecDepth 100000 in
theorem mi_yX11_bestCategory : jMv yX11_bestCategory cX11_bestCategory 5 (some FieldType.int) 2 := ⟨⟨bg9 87 (by decide +kernel), ini_RX11, by decide +kernel⟩, bg9 85 (by decide +kernel), bg9 86 (by decide +kernel)⟩
set_option maxRecDepth 100000 in
theorem mi_yX11_leastCents : jMv yX11_leastCents cX11_leastCents 7 (some FieldType.int) 3 := ⟨⟨bg9 91 (by decide +kernel), ini_RX11, by decide +kernel⟩, bg9 89 (by decide +kernel), bg9 90 (by decide +kernel)⟩
set_option maxRecDepth 100000 in
theorem mi_yX11_purchaseCount : jMv yX11_purchaseCount cX11_purchaseCount 1 (some FieldType.int) 0 := ⟨⟨bg9 95 (by decide +kernel), ini_RX11, by decide +kernel⟩, bg9 93 (by decide +kernel), bg9 94 (by decide +kernel)⟩
set_option maxRecDepth 100000 in
theorem mi_yX11_purchasePart : jMv yX11_purchasePart cX11_purchasePart 3 (some FieldType.int) 2 := ⟨⟨bg9 99 (by decide +kernel), ini_RX11, by decide +kernel⟩, bg9 97 (by decide +kernel), bg9 98 (by decide +kernel)⟩
set_option maxRecDepth 100000 in
theorem mi_yX11_expiringWithin : jMv yX11_expiringWithin cX11_expiringWithin 5 (some FieldType.int) 2 := ⟨⟨bg9 103 (by decide +kernel), ini_RX11, by decide +kernel⟩, bg9 101 (by decide +kernel), bg9 102 (by decide +kernel)⟩
set_option maxRecDepth 100000 in
theorem mi_yX11_nextExpiry : jMv yX11_nextExpiry cX11_nextExpiry 3 (some FieldType.int) 1 := ⟨⟨bg9 107 (by decide +kernel), ini_RX11, by decide +kernel⟩, bg9 105 (by decide +kernel), bg9 106 (by decide +kernel)⟩
set_option maxRecDepth 100000 in
theorem mi_yX11_isAnyAt : jMv yX11_isAnyAt cX11_isAnyAt 5 (some FieldType.boolean) 2 := ⟨⟨bg9 111 (by decide +kernel), ini_RX11, by decide +kernel⟩, bg9 110 (by decide +kernel), bg 88 (by decide +kernel)⟩
set_option maxRecDepth 100000 in
theorem mi_yX11_redeemedWith : jMv yX11_redeemedWith cX11_redeemedWith 2 (some FieldType.int) 1 := ⟨⟨bg9 115 (by decide +kernel), ini_RX11, by decide +kernel⟩, bg9 113 (by decide +kernel), bg9 114 (by decide +kernel)⟩
set_option maxRecDepth 100000 in
theorem mi_yX11_breakage : jMv yX11_breakage cX11_breakage 2 (some FieldType.int) 1 := ⟨⟨bg9 120 (by decide +kernel), ini_RX11, by decide +kernel⟩, bg9 118 (by decide +kernel), bg9 119 (by decide +kernel)⟩
set_option maxRecDepth 100000 in
theorem mi_yX11_breakageOf : jMv yX11_breakageOf cX11_breakageOf 5 (some FieldType.int) 1 := ⟨⟨bg9 124 (by decide +kernel), ini_RX11, by decide +kernel⟩, bg9 123 (by decide +kernel), bg 89 (by decide +kernel)⟩
set_option maxRecDepth 100000 in
theorem mi_yX11_estimate : jMv yX11_estimate cX11_estimate 8 (some FieldType.int) 2 := ⟨⟨bg9 128 (by decide +kernel), ini_RX11, by decide +kernel⟩, bg9 127 (by decide +kernel), bg 90 (by decide +kernel)⟩
set_option maxRecDepth 100000 in
theorem mi_yX11_poolBreakage : jMv yX11_poolBreakage cX11_poolBreakage 2 (some FieldType.int) 1 := ⟨⟨bg9 132 (by decide +kernel), ini_RX11, by decide +kernel⟩, bg9 130 (by decide +kernel), bg9 131 (by decide +kernel)⟩
set_option maxRecDepth 100000 in
theorem mi_yX11_poolBreakageOf : jMv yX11_poolBreakageOf cX11_poolBreakageOf 6 (some FieldType.int) 1 := ⟨⟨bg9 136 (by decide +kernel), ini_RX11, by decide +kernel⟩, bg9 135 (by decide +kernel), bg 91 (by decide +kernel)⟩
set_option maxRecDepth 100000 in
theorem mi_yX11_totalBreakage : jMv yX11_totalBreakage cX11_totalBreakage 3 (some FieldType.int) 0 := ⟨⟨bg9 140 (by decide +kernel), ini_RX11, by decide +kernel⟩, bg9 138 (by decide +kernel), bg9 139 (by decide +kernel)⟩
set_option maxRecDepth 100000 in
theorem mi_yX11_rankedMember : jMv yX11_rankedMember cX11_rankedMember 6 (some FieldType.int) 1 := ⟨⟨bg9 144 (by decide +kernel), ini_RX11, by decide +kernel⟩, bg9 142 (by decide +kernel), bg9 143 (by decide +kernel)⟩
set_option maxRecDepth 100000 in
theorem mi_yX11_isAhead : jMv yX11_isAhead cX11_isAhead 5 (some FieldType.boolean) 2 := ⟨⟨bg9 148 (by decide +kernel), ini_RX11, by decide +kernel⟩, bg9 147 (by decide +kernel), bg 92 (by decide +kernel)⟩
set_option maxRecDepth 100000 in
theorem mi_yX11_isNameAhead : jMv yX11_isNameAhead cX11_isNameAhead 6 (some FieldType.boolean) 2 := ⟨⟨bg9 152 (by decide +kernel), ini_RX11, by decide +kernel⟩, bg9 151 (by decide +kernel), bg 93 (by decide +kernel)⟩
set_option maxRecDepth 100000 in
theorem mi_yX11_rowOfMember : jMv yX11_rowOfMember cX11_rowOfMember 3 (some FieldType.int) 1 := ⟨⟨bg9 156 (by decide +kernel), ini_RX11, by decide +kernel⟩, bg9 155 (by decide +kernel), bg 94 (by decide +kernel)⟩
set_option maxRecDepth 100000 in
theorem mi_yX11_logSize : jMv yX11_logSize cX11_logSize 1 (some FieldType.int) 0 := ⟨⟨bg9 160 (by decide +kernel), ini_RX11, by decide +kernel⟩, bg9 158 (by decide +kernel), bg9 159 (by decide +kernel)⟩
set_option maxRecDepth 100000 in
theorem mi_yX11_log : jMv yX11_log cX11_log 3 (some FieldType.int) 2 := ⟨⟨bg9 164 (by decide +kernel), ini_RX11, by decide +kernel⟩, bg9 162 (by decide +kernel), bg9 163 (by decide +kernel)⟩
set_option maxRecDepth 100000 in
theorem mi_yX11_undo : jMv yX11_undo cX11_undo 2 (some FieldType.int) 0 := ⟨⟨bg9 169 (by decide +kernel), ini_RX11, by decide +kernel⟩, bg9 167 (by decide +kernel), bg9 168 (by decide +kernel)⟩
set_option maxRecDepth 100000 in
theorem mi_yX11_undoCount : jMv yX11_undoCount cX11_undoCount 1 (some FieldType.int) 0 := ⟨⟨bg9 173 (by decide +kernel), ini_RX11, by decide +kernel⟩, bg9 171 (by decide +kernel), bg9 172 (by decide +kernel)⟩
set_option maxRecDepth 100000 in
theorem mi_yX11_save : jMv yX11_save cX11_save 2 (some FieldType.int) 0 := ⟨⟨bg9 177 (by decide +kernel), ini_RX11, by decide +kernel⟩, bg9 175 (by decide +kernel), bg9 176 (by decide +kernel)⟩
set_option maxRecDepth 100000 in
theorem mi_yX11_restore : jMv yX11_restore cX11_restore 2 (some FieldType.int) 0 := ⟨⟨bg9 181 (by decide +kernel), ini_RX11, by decide +kernel⟩, bg9 179 (by decide +kernel), bg9 180 (by decide +kernel)⟩
set_option maxRecDepth 100000 in
theorem w_max : Cond.static Lib.Math.max.name ∈ BIG ∧ Cond.initialized "java/lang/Math" ∈ BIG ∧ Cond.code Lib.Math.max.name Lib.Math.max.code 2 (some .int) ∈ BIG := ⟨bg3 136 (by decide +kernel), bg1 22 (by decide +kernel), bg3 137 (by decide +kernel)⟩
set_option maxRecDepth 100000 in
theorem w_min : Cond.static Lib.Math.min.name ∈ BIG ∧ Cond.initialized "java/lang/Math" ∈ BIG ∧ Cond.code Lib.Math.min.name Lib.Math.min.code 2 (some .int) ∈ BIG := ⟨bg3 129 (by decide +kernel), bg1 22 (by decide +kernel), bg3 130 (by decide +kernel)⟩
set_option maxRecDepth 100000 in
theorem w_copy : Cond.native arraycopyName ∈ BIG ∧ Cond.static arraycopyName ∈ BIG ∧ Cond.initialized "java/lang/System" ∈ BIG := ⟨bg3 177 (by decide +kernel), bg3 176 (by decide +kernel), bg1 23 (by decide +kernel)⟩
set_option maxRecDepth 100000 in
theorem jf_X0 : jF RX0 TX0 17 tyX0 := ⟨by decide +kernel, tyX0_ok, nmX0⟩
set_option maxRecDepth 100000 in
theorem jf_X1 : jF RX1 TX1 5 tyX1 := ⟨by decide +kernel, tyX1_ok, nmX1⟩
set_option maxRecDepth 100000 in
theorem jf_X2 : jF RX2 TX2 3 tyX2 := ⟨by decide +kernel, tyX2_ok, nmX2⟩
set_option maxRecDepth 100000 in
theorem jf_X3 : jF RX3 TX3 2 tyX3 := ⟨by decide +kernel, tyX3_ok, nmX3⟩
set_option maxRecDepth 100000 in
theorem jf_X4 : jF RX4 TX4 3 tyX4 := ⟨by decide +kernel, tyX4_ok, nmX4⟩
set_option maxRecDepth 100000 in
theorem jf_X5 : jF RX5 TX5 2 tyX5 := ⟨by decide +kernel, tyX5_ok, nmX5⟩
set_option maxRecDepth 100000 in
theorem jf_X6 : jF RX6 TX6 1 tyX6 := ⟨by decide +kernel, tyX6_ok, nmX6⟩
set_option maxRecDepth 100000 in
theorem jf_X7 : jF RX7 TX7 14 tyX7 := ⟨by decide +kernel, tyX7_ok, nmX7⟩
set_option maxRecDepth 100000 in
theorem jf_X8 : jF RX8 TX8 6 tyX8 := ⟨by decide +kernel, tyX8_ok, nmX8⟩
set_option maxRecDepth 100000 in
theorem jf_X9 : jF RX9 TX9 2 tyX9 := ⟨by decide +kernel, tyX9_ok, nmX9⟩
set_option maxRecDepth 100000 in
theorem jf_X10 : jF RX10 TX10 8 tyX10 := ⟨by decide +kernel, tyX10_ok, nmX10⟩
set_option maxRecDepth 100000 in
theorem jf_X11 : jF RX11 TX11 23 tyX11 := ⟨by decide +kernel, tyX11_ok, nmX11⟩
