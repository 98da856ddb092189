set_option maxRecDepth 100000 in
theorem ini_RL : Cond.initialized RL ∈ BIG := bg1 0 (by decide +kernel)
set_option maxRecDepth 100000 in
theorem ini_RX10 : Cond.initialized RX10 ∈ BIG := bg1 1 (by decide +kernel)
set_option maxRecDepth 100000 in
theorem ini_RX3 : Cond.initialized RX3 ∈ BIG := bg1 2 (by decide +kernel)
set_option maxRecDepth 100000 in
theorem ini_RX7 : Cond.initialized RX7 ∈ BIG := bg1 3 (by decide +kernel)
set_option maxRecDepth 100000 in
theorem ini_RX6 : Cond.initialized RX6 ∈ BIG := bg1 4 (by decide +kernel)
set_option maxRecDepth 100000 in
theorem ini_RX8 : Cond.initialized RX8 ∈ BIG := bg1 5 (by decide +kernel)
set_option maxRecDepth 100000 in
theorem ini_RX0 : Cond.initialized RX0 ∈ BIG := bg1 6 (by decide +kernel)
set_option maxRecDepth 100000 in
theorem ini_RX1 : Cond.initialized RX1 ∈ BIG := bg1 7 (by decide +kernel)
set_option maxRecDepth 100000 in
theorem ini_RX5 : Cond.initialized RX5 ∈ BIG := bg1 8 (by decide +kernel)
set_option maxRecDepth 100000 in
theorem ini_RX4 : Cond.initialized RX4 ∈ BIG := bg1 9 (by decide +kernel)
set_option maxRecDepth 100000 in
theorem ini_RX9 : Cond.initialized RX9 ∈ BIG := bg1 10 (by decide +kernel)
set_option maxRecDepth 100000 in
theorem ini_RX2 : Cond.initialized RX2 ∈ BIG := bg1 11 (by decide +kernel)
set_option maxRecDepth 100000 in
theorem ini_RJ0 : Cond.initialized RJ0 ∈ BIG := bg1 17 (by decide +kernel)
set_option maxRecDepth 100000 in
theorem ini_RJ1 : Cond.initialized RJ1 ∈ BIG := bg1 18 (by decide +kernel)
set_option maxRecDepth 100000 in
theorem ini_RJ3 : Cond.initialized RJ3 ∈ BIG := bg1 19 (by decide +kernel)
set_option maxRecDepth 100000 in
theorem ini_RJ2 : Cond.initialized RJ2 ∈ BIG := bg1 20 (by decide +kernel)
set_option maxRecDepth 100000 in
theorem ini_RJ9 : Cond.initialized RJ9 ∈ BIG := bg1 21 (by decide +kernel)
set_option maxRecDepth 100000 in
theorem ini_RJ10 : Cond.initialized RJ10 ∈ BIG := bg1 22 (by decide +kernel)
set_option maxRecDepth 100000 in
theorem ini_RJ5 : Cond.initialized RJ5 ∈ BIG := bg1 23 (by decide +kernel)
set_option maxRecDepth 100000 in
theorem ini_RJ4 : Cond.initialized RJ4 ∈ BIG := bg1 24 (by decide +kernel)
set_option maxRecDepth 100000 in
theorem ini_RJ8 : Cond.initialized RJ8 ∈ BIG := bg1 25 (by decide +kernel)
set_option maxRecDepth 100000 in
theorem ini_RJ7 : Cond.initialized RJ7 ∈ BIG := bg1 26 (by decide +kernel)
set_option maxRecDepth 100000 in
theorem ini_RJxd2413 : Cond.initialized RJxd2413 ∈ BIG := bg1 27 (by decide +kernel)
set_option maxRecDepth 100000 in
theorem ini_RJ6 : Cond.initialized RJ6 ∈ BIG := bg1 28 (by decide +kernel)
set_option maxRecDepth 100000 in
theorem clk_RL_9 : Cond.classLink RL 9 RX10 ∈ BIG := bg1 31 (by decide +kernel)
set_option maxRecDepth 100000 in
theorem ins_RX10 : Cond.instantiable RX10 8 ∈ BIG := bg1 32 (by decide +kernel)
set_option maxRecDepth 100000 in
theorem ml_RL_218 : Cond.methodLink RL 218 yX10_init ∈ BIG := bg1 33 (by decide +kernel)
set_option maxRecDepth 100000 in
theorem ml_RX10_3 : Cond.methodLink RX10 3 Lib.objectInit ∈ BIG := bg1 36 (by decide +kernel)
set_option maxRecDepth 100000 in
theorem clk_RX10_9 : Cond.classLink RX10 9 RX3 ∈ BIG := bg1 39 (by decide +kernel)
set_option maxRecDepth 100000 in
theorem ins_RX3 : Cond.instantiable RX3 2 ∈ BIG := bg1 40 (by decide +kernel)
set_option maxRecDepth 100000 in
theorem ml_RX10_11 : Cond.methodLink RX10 11 yX3_init ∈ BIG := bg1 41 (by decide +kernel)
set_option maxRecDepth 100000 in
theorem ml_RX3_3 : Cond.methodLink RX3 3 Lib.objectInit ∈ BIG := bg1 44 (by decide +kernel)
set_option maxRecDepth 100000 in
theorem fl_RX3_9 : Cond.fieldLink RX3 9 "PointsLedger$InputBuffer" "bytes" "[I" ∈ BIG := bg1 45 (by decide +kernel)
set_option maxRecDepth 100000 in
theorem fl_RX3_15 : Cond.fieldLink RX3 15 "PointsLedger$InputBuffer" "length" "I" ∈ BIG := bg1 46 (by decide +kernel)
set_option maxRecDepth 100000 in
theorem clk_RX10_16 : Cond.classLink RX10 16 RX7 ∈ BIG := bg1 53 (by decide +kernel)
set_option maxRecDepth 100000 in
theorem ins_RX7 : Cond.instantiable RX7 14 ∈ BIG := bg1 54 (by decide +kernel)
set_option maxRecDepth 100000 in
theorem ml_RX10_18 : Cond.methodLink RX10 18 yX7_init ∈ BIG := bg1 55 (by decide +kernel)
set_option maxRecDepth 100000 in
theorem ml_RX7_3 : Cond.methodLink RX7 3 Lib.objectInit ∈ BIG := bg1 58 (by decide +kernel)
set_option maxRecDepth 100000 in
theorem clk_RX7_9 : Cond.classLink RX7 9 RX6 ∈ BIG := bg1 59 (by decide +kernel)
set_option maxRecDepth 100000 in
theorem ins_RX6 : Cond.instantiable RX6 1 ∈ BIG := bg1 60 (by decide +kernel)
set_option maxRecDepth 100000 in
theorem ml_RX7_11 : Cond.methodLink RX7 11 yX6_init ∈ BIG := bg1 61 (by decide +kernel)
set_option maxRecDepth 100000 in
theorem ml_RX6_1 : Cond.methodLink RX6 1 Lib.objectInit ∈ BIG := bg1 64 (by decide +kernel)
set_option maxRecDepth 100000 in
theorem fl_RX6_7 : Cond.fieldLink RX6 7 "PointsLedger$Row" "cells" "[I" ∈ BIG := bg1 65 (by decide +kernel)
set_option maxRecDepth 100000 in
theorem ml_RX7_50 : Cond.methodLink RX7 50 yX7_clear ∈ BIG := bg1 69 (by decide +kernel)
set_option maxRecDepth 100000 in
theorem ml_RX7_56 : Cond.methodLink RX7 56 yX6_fill ∈ BIG := bg1 73 (by decide +kernel)
set_option maxRecDepth 100000 in
theorem ml_RX7_53 : Cond.methodLink RX7 53 yX7_finish ∈ BIG := bg1 77 (by decide +kernel)
set_option maxRecDepth 100000 in
theorem ml_RX7_69 : Cond.methodLink RX7 69 yX6_at ∈ BIG := bg1 81 (by decide +kernel)
set_option maxRecDepth 100000 in
theorem ml_RX7_73 : Cond.methodLink RX7 73 yX6_put ∈ BIG := bg1 85 (by decide +kernel)
set_option maxRecDepth 100000 in
theorem fl_RX7_14 : Cond.fieldLink RX7 14 "PointsLedger$Setup" "counts" "LPointsLedger$Row;" ∈ BIG := bg1 89 (by decide +kernel)
set_option maxRecDepth 100000 in
theorem fl_RX7_20 : Cond.fieldLink RX7 20 "PointsLedger$Setup" "names" "LPointsLedger$Row;" ∈ BIG := bg1 90 (by decide +kernel)
set_option maxRecDepth 100000 in
theorem fl_RX7_23 : Cond.fieldLink RX7 23 "PointsLedger$Setup" "thresholds" "LPointsLedger$Row;" ∈ BIG := bg1 91 (by decide +kernel)
set_option maxRecDepth 100000 in
theorem fl_RX7_26 : Cond.fieldLink RX7 26 "PointsLedger$Setup" "bonuses" "LPointsLedger$Row;" ∈ BIG := bg1 92 (by decide +kernel)
set_option maxRecDepth 100000 in
theorem fl_RX7_29 : Cond.fieldLink RX7 29 "PointsLedger$Setup" "rates" "LPointsLedger$Row;" ∈ BIG := bg1 93 (by decide +kernel)
set_option maxRecDepth 100000 in
theorem fl_RX7_32 : Cond.fieldLink RX7 32 "PointsLedger$Setup" "caps" "LPointsLedger$Row;" ∈ BIG := bg1 94 (by decide +kernel)
set_option maxRecDepth 100000 in
theorem fl_RX7_35 : Cond.fieldLink RX7 35 "PointsLedger$Setup" "promoCategories" "LPointsLedger$Row;" ∈ BIG := bg1 95 (by decide +kernel)
set_option maxRecDepth 100000 in
theorem fl_RX7_38 : Cond.fieldLink RX7 38 "PointsLedger$Setup" "promoFirstDays" "LPointsLedger$Row;" ∈ BIG := bg1 96 (by decide +kernel)
set_option maxRecDepth 100000 in
theorem fl_RX7_41 : Cond.fieldLink RX7 41 "PointsLedger$Setup" "promoLastDays" "LPointsLedger$Row;" ∈ BIG := bg1 97 (by decide +kernel)
set_option maxRecDepth 100000 in
theorem fl_RX7_44 : Cond.fieldLink RX7 44 "PointsLedger$Setup" "promoExtras" "LPointsLedger$Row;" ∈ BIG := bg1 98 (by decide +kernel)
set_option maxRecDepth 100000 in
theorem fl_RX7_47 : Cond.fieldLink RX7 47 "PointsLedger$Setup" "shares" "LPointsLedger$Row;" ∈ BIG := bg1 99 (by decide +kernel)
set_option maxRecDepth 100000 in
theorem fl_RX7_59 : Cond.fieldLink RX7 59 "PointsLedger$Setup" "life" "I" ∈ BIG := bg1 100 (by decide +kernel)
set_option maxRecDepth 100000 in
theorem fl_RX7_63 : Cond.fieldLink RX7 63 "PointsLedger$Setup" "window" "I" ∈ BIG := bg1 101 (by decide +kernel)
set_option maxRecDepth 100000 in
theorem fl_RX7_66 : Cond.fieldLink RX7 66 "PointsLedger$Setup" "grace" "I" ∈ BIG := bg1 102 (by decide +kernel)
set_option maxRecDepth 100000 in
theorem clk_RX10_26 : Cond.classLink RX10 26 RX8 ∈ BIG := bg1 132 (by decide +kernel)
set_option maxRecDepth 100000 in
theorem ins_RX8 : Cond.instantiable RX8 6 ∈ BIG := bg1 133 (by decide +kernel)
set_option maxRecDepth 100000 in
theorem ml_RX10_28 : Cond.methodLink RX10 28 yX8_init ∈ BIG := bg1 134 (by decide +kernel)
set_option maxRecDepth 100000 in
theorem ml_RX8_3 : Cond.methodLink RX8 3 Lib.objectInit ∈ BIG := bg1 137 (by decide +kernel)
set_option maxRecDepth 100000 in
theorem fl_RX8_9 : Cond.fieldLink RX8 9 "PointsLedger$SetupReader" "text" "LPointsLedger$InputBuffer;" ∈ BIG := bg1 138 (by decide +kernel)
set_option maxRecDepth 100000 in
theorem fl_RX8_15 : Cond.fieldLink RX8 15 "PointsLedger$SetupReader" "draft" "LPointsLedger$Setup;" ∈ BIG := bg1 139 (by decide +kernel)
set_option maxRecDepth 100000 in
theorem fl_RX8_24 : Cond.fieldLink RX8 24 "PointsLedger$SetupReader" "position" "I" ∈ BIG := bg1 140 (by decide +kernel)
set_option maxRecDepth 100000 in
theorem fl_RX8_49 : Cond.fieldLink RX8 49 "PointsLedger$SetupReader" "start" "I" ∈ BIG := bg1 141 (by decide +kernel)
set_option maxRecDepth 100000 in
theorem fl_RX8_43 : Cond.fieldLink RX8 43 "PointsLedger$SetupReader" "token" "I" ∈ BIG := bg1 142 (by decide +kernel)
set_option maxRecDepth 100000 in
theorem fl_RX8_28 : Cond.fieldLink RX8 28 "PointsLedger$SetupReader" "error" "I" ∈ BIG := bg1 143 (by decide +kernel)
set_option maxRecDepth 100000 in
theorem clk_RX10_35 : Cond.classLink RX10 35 RX0 ∈ BIG := bg1 157 (by decide +kernel)
set_option maxRecDepth 100000 in
theorem ins_RX0 : Cond.instantiable RX0 17 ∈ BIG := bg1 158 (by decide +kernel)
set_option maxRecDepth 100000 in
theorem ml_RX10_37 : Cond.methodLink RX10 37 yX0_init ∈ BIG := bg1 159 (by decide +kernel)
set_option maxRecDepth 100000 in
theorem ml_RX0_3 : Cond.methodLink RX0 3 Lib.objectInit ∈ BIG := bg1 162 (by decide +kernel)
set_option maxRecDepth 100000 in
theorem clk_RX0_15 : Cond.classLink RX0 15 RX1 ∈ BIG := bg1 163 (by decide +kernel)
set_option maxRecDepth 100000 in
theorem ins_RX1 : Cond.instantiable RX1 5 ∈ BIG := bg1 164 (by decide +kernel)
set_option maxRecDepth 100000 in
theorem ml_RX0_17 : Cond.methodLink RX0 17 yX1_init ∈ BIG := bg1 165 (by decide +kernel)
set_option maxRecDepth 100000 in
theorem ml_RX1_3 : Cond.methodLink RX1 3 Lib.objectInit ∈ BIG := bg1 168 (by decide +kernel)
set_option maxRecDepth 100000 in
theorem clk_RX1_9 : Cond.classLink RX1 9 RX6 ∈ BIG := bg1 169 (by decide +kernel)
set_option maxRecDepth 100000 in
theorem ml_RX1_11 : Cond.methodLink RX1 11 yX6_init ∈ BIG := bg1 170 (by decide +kernel)
set_option maxRecDepth 100000 in
theorem fl_RX1_14 : Cond.fieldLink RX1 14 "PointsLedger$Cohorts" "lists" "LPointsLedger$Row;" ∈ BIG := bg1 171 (by decide +kernel)
set_option maxRecDepth 100000 in
theorem fl_RX1_20 : Cond.fieldLink RX1 20 "PointsLedger$Cohorts" "days" "LPointsLedger$Row;" ∈ BIG := bg1 172 (by decide +kernel)
set_option maxRecDepth 100000 in
theorem fl_RX1_23 : Cond.fieldLink RX1 23 "PointsLedger$Cohorts" "contributors" "LPointsLedger$Row;" ∈ BIG := bg1 173 (by decide +kernel)
set_option maxRecDepth 100000 in
theorem fl_RX1_26 : Cond.fieldLink RX1 26 "PointsLedger$Cohorts" "points" "LPointsLedger$Row;" ∈ BIG := bg1 174 (by decide +kernel)
set_option maxRecDepth 100000 in
theorem fl_RX1_29 : Cond.fieldLink RX1 29 "PointsLedger$Cohorts" "size" "I" ∈ BIG := bg1 175 (by decide +kernel)
set_option maxRecDepth 100000 in
theorem clk_RX0_22 : Cond.classLink RX0 22 RX5 ∈ BIG := bg1 187 (by decide +kernel)
set_option maxRecDepth 100000 in
theorem ins_RX5 : Cond.instantiable RX5 2 ∈ BIG := bg1 188 (by decide +kernel)
set_option maxRecDepth 100000 in
theorem ml_RX0_24 : Cond.methodLink RX0 24 yX5_init ∈ BIG := bg1 189 (by decide +kernel)
set_option maxRecDepth 100000 in
theorem ml_RX5_3 : Cond.methodLink RX5 3 Lib.objectInit ∈ BIG := bg1 192 (by decide +kernel)
set_option maxRecDepth 100000 in
theorem clk_RX5_9 : Cond.classLink RX5 9 RX6 ∈ BIG := bg1 193 (by decide +kernel)
set_option maxRecDepth 100000 in
theorem ml_RX5_11 : Cond.methodLink RX5 11 yX6_init ∈ BIG := bg1 194 (by decide +kernel)
set_option maxRecDepth 100000 in
theorem fl_RX5_14 : Cond.fieldLink RX5 14 "PointsLedger$Purchases" "parts" "LPointsLedger$Row;" ∈ BIG := bg1 195 (by decide +kernel)
set_option maxRecDepth 100000 in
theorem fl_RX5_20 : Cond.fieldLink RX5 20 "PointsLedger$Purchases" "count" "I" ∈ BIG := bg1 196 (by decide +kernel)
set_option maxRecDepth 100000 in
theorem clk_RX0_29 : Cond.classLink RX0 29 RX4 ∈ BIG := bg1 202 (by decide +kernel)
set_option maxRecDepth 100000 in
theorem ins_RX4 : Cond.instantiable RX4 3 ∈ BIG := bg1 203 (by decide +kernel)
set_option maxRecDepth 100000 in
theorem ml_RX0_31 : Cond.methodLink RX0 31 yX4_init ∈ BIG := bg1 204 (by decide +kernel)
set_option maxRecDepth 100000 in
theorem ml_RX4_3 : Cond.methodLink RX4 3 Lib.objectInit ∈ BIG := bg1 207 (by decide +kernel)
set_option maxRecDepth 100000 in
theorem clk_RX4_9 : Cond.classLink RX4 9 RX6 ∈ BIG := bg1 208 (by decide +kernel)
set_option maxRecDepth 100000 in
theorem ml_RX4_11 : Cond.methodLink RX4 11 yX6_init ∈ BIG := bg1 209 (by decide +kernel)
set_option maxRecDepth 100000 in
theorem fl_RX4_14 : Cond.fieldLink RX4 14 "PointsLedger$LogBook" "parts" "LPointsLedger$Row;" ∈ BIG := bg1 210 (by decide +kernel)
set_option maxRecDepth 100000 in
theorem fl_RX4_20 : Cond.fieldLink RX4 20 "PointsLedger$LogBook" "next" "I" ∈ BIG := bg1 211 (by decide +kernel)
set_option maxRecDepth 100000 in
theorem fl_RX4_24 : Cond.fieldLink RX4 24 "PointsLedger$LogBook" "size" "I" ∈ BIG := bg1 212 (by decide +kernel)
set_option maxRecDepth 100000 in
theorem clk_RX0_36 : Cond.classLink RX0 36 RX6 ∈ BIG := bg1 220 (by decide +kernel)
set_option maxRecDepth 100000 in
theorem ml_RX0_38 : Cond.methodLink RX0 38 yX6_init ∈ BIG := bg1 221 (by decide +kernel)
set_option maxRecDepth 100000 in
theorem clk_RX0_72 : Cond.classLink RX0 72 RX9 ∈ BIG := bg1 222 (by decide +kernel)
set_option maxRecDepth 100000 in
theorem ins_RX9 : Cond.instantiable RX9 2 ∈ BIG := bg1 223 (by decide +kernel)
set_option maxRecDepth 100000 in
theorem ml_RX9_3 : Cond.methodLink RX9 3 Lib.objectInit ∈ BIG := bg1 227 (by decide +kernel)
set_option maxRecDepth 100000 in
theorem fl_RX9_9 : Cond.fieldLink RX9 9 "PointsLedger$Standing" "tier" "I" ∈ BIG := bg1 228 (by decide +kernel)
set_option maxRecDepth 100000 in
theorem fl_RX9_15 : Cond.fieldLink RX9 15 "PointsLedger$Standing" "since" "I" ∈ BIG := bg1 229 (by decide +kernel)
set_option maxRecDepth 100000 in
theorem ml_RX0_79 : Cond.methodLink RX0 79 yX0_reset ∈ BIG := bg1 235 (by decide +kernel)
set_option maxRecDepth 100000 in
theorem ml_RX0_82 : Cond.methodLink RX0 82 yX1_clear ∈ BIG := bg1 239 (by decide +kernel)
set_option maxRecDepth 100000 in
theorem ml_RX0_85 : Cond.methodLink RX0 85 yX5_clear ∈ BIG := bg2 3 (by decide +kernel)
set_option maxRecDepth 100000 in
theorem ml_RX0_86 : Cond.methodLink RX0 86 yX4_clear ∈ BIG := bg2 7 (by decide +kernel)
set_option maxRecDepth 100000 in
theorem ml_RX0_87 : Cond.methodLink RX0 87 yX6_fill ∈ BIG := bg2 11 (by decide +kernel)
set_option maxRecDepth 100000 in
theorem ml_RX0_90 : Cond.methodLink RX0 90 yX7_firstShareOf ∈ BIG := bg2 12 (by decide +kernel)
set_option maxRecDepth 100000 in
theorem ml_RX0_96 : Cond.methodLink RX0 96 yX6_put ∈ BIG := bg2 16 (by decide +kernel)
set_option maxRecDepth 100000 in
theorem fl_RX0_9 : Cond.fieldLink RX0 9 "PointsLedger$Books" "setup" "LPointsLedger$Setup;" ∈ BIG := bg2 17 (by decide +kernel)
set_option maxRecDepth 100000 in
theorem fl_RX0_18 : Cond.fieldLink RX0 18 "PointsLedger$Books" "cohorts" "LPointsLedger$Cohorts;" ∈ BIG := bg2 18 (by decide +kernel)
set_option maxRecDepth 100000 in
theorem fl_RX0_25 : Cond.fieldLink RX0 25 "PointsLedger$Books" "purchases" "LPointsLedger$Purchases;" ∈ BIG := bg2 19 (by decide +kernel)
set_option maxRecDepth 100000 in
theorem fl_RX0_32 : Cond.fieldLink RX0 32 "PointsLedger$Books" "diary" "LPointsLedger$LogBook;" ∈ BIG := bg2 20 (by decide +kernel)
set_option maxRecDepth 100000 in
theorem fl_RX0_41 : Cond.fieldLink RX0 41 "PointsLedger$Books" "tiers" "LPointsLedger$Row;" ∈ BIG := bg2 21 (by decide +kernel)
set_option maxRecDepth 100000 in
theorem fl_RX0_45 : Cond.fieldLink RX0 45 "PointsLedger$Books" "belowSince" "LPointsLedger$Row;" ∈ BIG := bg2 22 (by decide +kernel)
set_option maxRecDepth 100000 in
theorem fl_RX0_48 : Cond.fieldLink RX0 48 "PointsLedger$Books" "debts" "LPointsLedger$Row;" ∈ BIG := bg2 23 (by decide +kernel)
set_option maxRecDepth 100000 in
theorem fl_RX0_51 : Cond.fieldLink RX0 51 "PointsLedger$Books" "homes" "LPointsLedger$Row;" ∈ BIG := bg2 24 (by decide +kernel)
set_option maxRecDepth 100000 in
theorem fl_RX0_54 : Cond.fieldLink RX0 54 "PointsLedger$Books" "qualifying" "LPointsLedger$Row;" ∈ BIG := bg2 25 (by decide +kernel)
set_option maxRecDepth 100000 in
theorem fl_RX0_57 : Cond.fieldLink RX0 57 "PointsLedger$Books" "shares" "LPointsLedger$Row;" ∈ BIG := bg2 26 (by decide +kernel)
set_option maxRecDepth 100000 in
theorem fl_RX0_60 : Cond.fieldLink RX0 60 "PointsLedger$Books" "redeemed" "LPointsLedger$Row;" ∈ BIG := bg2 27 (by decide +kernel)
set_option maxRecDepth 100000 in
theorem fl_RX0_63 : Cond.fieldLink RX0 63 "PointsLedger$Books" "totals" "LPointsLedger$Row;" ∈ BIG := bg2 28 (by decide +kernel)
set_option maxRecDepth 100000 in
theorem fl_RX0_66 : Cond.fieldLink RX0 66 "PointsLedger$Books" "losses" "LPointsLedger$Row;" ∈ BIG := bg2 29 (by decide +kernel)
set_option maxRecDepth 100000 in
theorem fl_RX0_69 : Cond.fieldLink RX0 69 "PointsLedger$Books" "balances" "LPointsLedger$Row;" ∈ BIG := bg2 30 (by decide +kernel)
set_option maxRecDepth 100000 in
theorem fl_RX0_75 : Cond.fieldLink RX0 75 "PointsLedger$Books" "standing" "LPointsLedger$Standing;" ∈ BIG := bg2 31 (by decide +kernel)
set_option maxRecDepth 100000 in
theorem fl_RX0_100 : Cond.fieldLink RX0 100 "PointsLedger$Books" "day" "I" ∈ BIG := bg2 32 (by decide +kernel)
set_option maxRecDepth 100000 in
theorem fl_RX0_104 : Cond.fieldLink RX0 104 "PointsLedger$Books" "windowStart" "I" ∈ BIG := bg2 33 (by decide +kernel)
set_option maxRecDepth 100000 in
theorem clk_RX10_47 : Cond.classLink RX10 47 RX2 ∈ BIG := bg2 69 (by decide +kernel)
set_option maxRecDepth 100000 in
theorem ins_RX2 : Cond.instantiable RX2 3 ∈ BIG := bg2 70 (by decide +kernel)
set_option maxRecDepth 100000 in
theorem ml_RX10_49 : Cond.methodLink RX10 49 yX2_init ∈ BIG := bg2 71 (by decide +kernel)
set_option maxRecDepth 100000 in
theorem ml_RX2_3 : Cond.methodLink RX2 3 Lib.objectInit ∈ BIG := bg2 74 (by decide +kernel)
set_option maxRecDepth 100000 in
theorem clk_RX2_9 : Cond.classLink RX2 9 RX0 ∈ BIG := bg2 75 (by decide +kernel)
set_option maxRecDepth 100000 in
theorem ml_RX2_17 : Cond.methodLink RX2 17 yX0_init ∈ BIG := bg2 77 (by decide +kernel)
set_option maxRecDepth 100000 in
theorem fl_RX2_11 : Cond.fieldLink RX2 11 "PointsLedger$History" "kept" "[LPointsLedger$Books;" ∈ BIG := bg2 78 (by decide +kernel)
set_option maxRecDepth 100000 in
theorem fl_RX2_20 : Cond.fieldLink RX2 20 "PointsLedger$History" "newest" "I" ∈ BIG := bg2 79 (by decide +kernel)
set_option maxRecDepth 100000 in
theorem fl_RX2_24 : Cond.fieldLink RX2 24 "PointsLedger$History" "count" "I" ∈ BIG := bg2 80 (by decide +kernel)
set_option maxRecDepth 100000 in
theorem fl_RX10_12 : Cond.fieldLink RX10 12 "PointsLedger" "input" "LPointsLedger$InputBuffer;" ∈ BIG := bg2 88 (by decide +kernel)
set_option maxRecDepth 100000 in
theorem fl_RX10_19 : Cond.fieldLink RX10 19 "PointsLedger" "setup" "LPointsLedger$Setup;" ∈ BIG := bg2 89 (by decide +kernel)
set_option maxRecDepth 100000 in
theorem fl_RX10_23 : Cond.fieldLink RX10 23 "PointsLedger" "draft" "LPointsLedger$Setup;" ∈ BIG := bg2 90 (by decide +kernel)
set_option maxRecDepth 100000 in
theorem fl_RX10_31 : Cond.fieldLink RX10 31 "PointsLedger" "reader" "LPointsLedger$SetupReader;" ∈ BIG := bg2 91 (by decide +kernel)
set_option maxRecDepth 100000 in
theorem fl_RX10_40 : Cond.fieldLink RX10 40 "PointsLedger" "books" "LPointsLedger$Books;" ∈ BIG := bg2 92 (by decide +kernel)
set_option maxRecDepth 100000 in
theorem fl_RX10_44 : Cond.fieldLink RX10 44 "PointsLedger" "copy" "LPointsLedger$Books;" ∈ BIG := bg2 93 (by decide +kernel)
set_option maxRecDepth 100000 in
theorem fl_RX10_50 : Cond.fieldLink RX10 50 "PointsLedger" "history" "LPointsLedger$History;" ∈ BIG := bg2 94 (by decide +kernel)
set_option maxRecDepth 100000 in
theorem fl_RX10_54 : Cond.fieldLink RX10 54 "PointsLedger" "copyKept" "Z" ∈ BIG := bg2 95 (by decide +kernel)
set_option maxRecDepth 100000 in
theorem ml_RL_221 : Cond.methodLink RL 221 yX10_errorPosition ∈ BIG := bg2 113 (by decide +kernel)
set_option maxRecDepth 100000 in
theorem ml_RX10_84 : Cond.methodLink RX10 84 yX8_read ∈ BIG := bg2 117 (by decide +kernel)
set_option maxRecDepth 100000 in
theorem ml_RX8_19 : Cond.methodLink RX8 19 yX7_clear ∈ BIG := bg2 121 (by decide +kernel)
set_option maxRecDepth 100000 in
theorem ml_RX8_31 : Cond.methodLink RX8 31 yX3_length ∈ BIG := bg2 122 (by decide +kernel)
set_option maxRecDepth 100000 in
theorem ml_RX8_37 : Cond.methodLink RX8 37 yX8_readStatement ∈ BIG := bg2 126 (by decide +kernel)
set_option maxRecDepth 100000 in
theorem ml_RX8_40 : Cond.methodLink RX8 40 yX8_readToken ∈ BIG := bg2 130 (by decide +kernel)
set_option maxRecDepth 100000 in
theorem ml_RX8_52 : Cond.methodLink RX8 52 yX3_byteAt ∈ BIG := bg2 134 (by decide +kernel)
set_option maxRecDepth 100000 in
theorem ml_RX8_56 : Cond.methodLink RX8 56 yX3_tokenAt ∈ BIG := bg2 138 (by decide +kernel)
set_option maxRecDepth 100000 in
theorem ml_RX8_59 : Cond.methodLink RX8 59 yX8_keyword ∈ BIG := bg2 142 (by decide +kernel)
set_option maxRecDepth 100000 in
theorem ml_RX8_142 : Cond.methodLink RX8 142 yX8_wordOf ∈ BIG := bg2 146 (by decide +kernel)
set_option maxRecDepth 100000 in
theorem ml_RX8_146 : Cond.methodLink RX8 146 yX3_spells ∈ BIG := bg2 157 (by decide +kernel)
set_option maxRecDepth 100000 in
theorem ml_RX3_19 : Cond.methodLink RX3 19 yJ0_length_8abf5 ∈ BIG := bg2 161 (by decide +kernel)
set_option maxRecDepth 100000 in
theorem ml_RJ0_335 : Cond.methodLink RJ0 335 yJ0_coder_7d493 ∈ BIG := bg2 165 (by decide +kernel)
set_option maxRecDepth 100000 in
theorem fl_RJ0_38 : Cond.fieldLink RJ0 38 "java/lang/String" "COMPACT_STRINGS" "Z" ∈ BIG := bg2 169 (by decide +kernel)
set_option maxRecDepth 100000 in
theorem ml_RX3_24 : Cond.methodLink RX3 24 yJ0_charAt_5068e ∈ BIG := bg2 171 (by decide +kernel)
set_option maxRecDepth 100000 in
theorem ml_RJ0_492 : Cond.methodLink RJ0 492 yJ0_isLatin1_aae02 ∈ BIG := bg2 175 (by decide +kernel)
set_option maxRecDepth 100000 in
theorem ml_RJ0_495 : Cond.methodLink RJ0 495 yJ1_charAt_3b067 ∈ BIG := bg2 179 (by decide +kernel)
set_option maxRecDepth 100000 in
theorem ml_RJ1_9 : Cond.methodLink RJ1 9 yJ0_checkIndex_df160 ∈ BIG := bg2 182 (by decide +kernel)
set_option maxRecDepth 100000 in
theorem fl_RJ0_1053 : Cond.fieldLink RJ0 1053 "jdk/internal/util/Preconditions" "SIOOBE_FORMATTER" "Ljava/util/function/BiFunction;" ∈ BIG := bg2 185 (by decide +kernel)
set_option maxRecDepth 100000 in
theorem ml_RJ0_1059 : Cond.methodLink RJ0 1059 yJ3_checkIndex_8e157 ∈ BIG := bg2 187 (by decide +kernel)
set_option maxRecDepth 100000 in
theorem ml_RJ0_498 : Cond.methodLink RJ0 498 yJ2_charAt_3b067 ∈ BIG := bg2 190 (by decide +kernel)
set_option maxRecDepth 100000 in
theorem ml_RJ2_67 : Cond.methodLink RJ2 67 yJ2_checkIndex_2214a ∈ BIG := bg2 193 (by decide +kernel)
set_option maxRecDepth 100000 in
theorem ml_RJ2_48 : Cond.methodLink RJ2 48 yJ2_length_9d52b ∈ BIG := bg2 196 (by decide +kernel)
set_option maxRecDepth 100000 in
theorem ml_RJ2_414 : Cond.methodLink RJ2 414 yJ0_checkIndex_df160 ∈ BIG := bg2 199 (by decide +kernel)
set_option maxRecDepth 100000 in
theorem ml_RJ2_71 : Cond.methodLink RJ2 71 yJ2_getChar_3b067 ∈ BIG := bg2 200 (by decide +kernel)
set_option maxRecDepth 100000 in
theorem fl_RJ2_44 : Cond.fieldLink RJ2 44 "java/lang/StringUTF16" "$assertionsDisabled" "Z" ∈ BIG := bg2 203 (by decide +kernel)
set_option maxRecDepth 100000 in
theorem fl_RJ2_59 : Cond.fieldLink RJ2 59 "java/lang/StringUTF16" "HI_BYTE_SHIFT" "I" ∈ BIG := bg2 205 (by decide +kernel)
set_option maxRecDepth 100000 in
theorem fl_RJ2_63 : Cond.fieldLink RJ2 63 "java/lang/StringUTF16" "LO_BYTE_SHIFT" "I" ∈ BIG := bg2 207 (by decide +kernel)
set_option maxRecDepth 100000 in
theorem ml_RX8_62 : Cond.methodLink RX8 62 yX7_count ∈ BIG := bg2 209 (by decide +kernel)
set_option maxRecDepth 100000 in
theorem ml_RX8_65 : Cond.methodLink RX8 65 yX8_mostOf ∈ BIG := bg2 213 (by decide +kernel)
set_option maxRecDepth 100000 in
theorem ml_RX8_68 : Cond.methodLink RX8 68 yX8_refuse ∈ BIG := bg2 216 (by decide +kernel)
set_option maxRecDepth 100000 in
theorem ml_RX8_71 : Cond.methodLink RX8 71 yX8_readTier ∈ BIG := bg2 220 (by decide +kernel)
set_option maxRecDepth 100000 in
theorem ml_RX8_90 : Cond.methodLink RX8 90 yX8_readNewName ∈ BIG := bg2 224 (by decide +kernel)
set_option maxRecDepth 100000 in
theorem ml_RX8_132 : Cond.methodLink RX8 132 yX3_nameCode ∈ BIG := bg2 228 (by decide +kernel)
set_option maxRecDepth 100000 in
theorem ml_RX3_28 : Cond.methodLink RX3 28 yX3_tokenAt ∈ BIG := bg2 232 (by decide +kernel)
set_option maxRecDepth 100000 in
theorem ml_RX3_32 : Cond.methodLink RX3 32 yX3_byteAt ∈ BIG := bg2 233 (by decide +kernel)
set_option maxRecDepth 100000 in
theorem ml_RX8_135 : Cond.methodLink RX8 135 yX7_isTaken ∈ BIG := bg2 234 (by decide +kernel)
set_option maxRecDepth 100000 in
theorem ml_RX7_81 : Cond.methodLink RX7 81 yX6_contains ∈ BIG := bg2 238 (by decide +kernel)
set_option maxRecDepth 100000 in
theorem ml_RX8_93 : Cond.methodLink RX8 93 yX8_readNumber ∈ BIG := bg3 2 (by decide +kernel)
set_option maxRecDepth 100000 in
theorem ml_RX8_97 : Cond.methodLink RX8 97 yX7_thresholdOf ∈ BIG := bg3 6 (by decide +kernel)
set_option maxRecDepth 100000 in
theorem cw_RX8_100 : Cond.constant RX8 100 (1000000) ∈ BIG := bg3 10 (by decide +kernel)
set_option maxRecDepth 100000 in
theorem ml_RX8_101 : Cond.methodLink RX8 101 yX7_addTier ∈ BIG := bg3 11 (by decide +kernel)
set_option maxRecDepth 100000 in
theorem ml_RX7_85 : Cond.methodLink RX7 85 yX7_define ∈ BIG := bg3 15 (by decide +kernel)
set_option maxRecDepth 100000 in
theorem ml_RX8_74 : Cond.methodLink RX8 74 yX8_readCategory ∈ BIG := bg3 19 (by decide +kernel)
set_option maxRecDepth 100000 in
theorem cw_RX8_105 : Cond.constant RX8 105 (100000) ∈ BIG := bg3 23 (by decide +kernel)
set_option maxRecDepth 100000 in
theorem ml_RX8_106 : Cond.methodLink RX8 106 yX7_addCategory ∈ BIG := bg3 24 (by decide +kernel)
set_option maxRecDepth 100000 in
theorem ml_RX8_77 : Cond.methodLink RX8 77 yX8_readPromo ∈ BIG := bg3 28 (by decide +kernel)
set_option maxRecDepth 100000 in
theorem ml_RX8_109 : Cond.methodLink RX8 109 yX8_readCategoryName ∈ BIG := bg3 32 (by decide +kernel)
set_option maxRecDepth 100000 in
theorem ml_RX8_139 : Cond.methodLink RX8 139 yX7_numberOf ∈ BIG := bg3 36 (by decide +kernel)
set_option maxRecDepth 100000 in
theorem ml_RX8_112 : Cond.methodLink RX8 112 yX7_addPromo ∈ BIG := bg3 40 (by decide +kernel)
set_option maxRecDepth 100000 in
theorem ml_RX8_80 : Cond.methodLink RX8 80 yX8_readMember ∈ BIG := bg3 44 (by decide +kernel)
set_option maxRecDepth 100000 in
theorem ml_RX8_116 : Cond.methodLink RX8 116 yX7_addMember ∈ BIG := bg3 48 (by decide +kernel)
set_option maxRecDepth 100000 in
theorem ml_RX8_83 : Cond.methodLink RX8 83 yX8_readHouse ∈ BIG := bg3 52 (by decide +kernel)
set_option maxRecDepth 100000 in
theorem ml_RX8_119 : Cond.methodLink RX8 119 yX7_addHouse ∈ BIG := bg3 56 (by decide +kernel)
set_option maxRecDepth 100000 in
theorem ml_RX8_86 : Cond.methodLink RX8 86 yX8_readPeriod ∈ BIG := bg3 60 (by decide +kernel)
set_option maxRecDepth 100000 in
theorem ml_RX8_123 : Cond.methodLink RX8 123 yX7_fixLife ∈ BIG := bg3 64 (by decide +kernel)
set_option maxRecDepth 100000 in
theorem ml_RX8_126 : Cond.methodLink RX8 126 yX7_fixWindow ∈ BIG := bg3 68 (by decide +kernel)
set_option maxRecDepth 100000 in
theorem ml_RX8_129 : Cond.methodLink RX8 129 yX7_fixGrace ∈ BIG := bg3 72 (by decide +kernel)
set_option maxRecDepth 100000 in
theorem ml_RX8_46 : Cond.methodLink RX8 46 yX7_finish ∈ BIG := bg3 76 (by decide +kernel)
set_option maxRecDepth 100000 in
theorem ml_RL_255 : Cond.methodLink RL 255 yX10_purchase ∈ BIG := bg3 78 (by decide +kernel)
set_option maxRecDepth 100000 in
theorem ml_RX10_116 : Cond.methodLink RX10 116 yX10_needMember ∈ BIG := bg3 82 (by decide +kernel)
set_option maxRecDepth 100000 in
theorem ml_RX10_101 : Cond.methodLink RX10 101 yX7_count ∈ BIG := bg3 86 (by decide +kernel)
set_option maxRecDepth 100000 in
theorem ml_RX10_119 : Cond.methodLink RX10 119 yX10_needCategory ∈ BIG := bg3 155 (by decide +kernel)
set_option maxRecDepth 100000 in
theorem cw_RX10_122 : Cond.constant RX10 122 (100000) ∈ BIG := bg3 160 (by decide +kernel)
set_option maxRecDepth 100000 in
theorem ml_RX10_77 : Cond.methodLink RX10 77 yX10_needBetween ∈ BIG := bg3 161 (by decide +kernel)
set_option maxRecDepth 100000 in
theorem ml_RX10_123 : Cond.methodLink RX10 123 yX2_keep ∈ BIG := bg3 180 (by decide +kernel)
set_option maxRecDepth 100000 in
theorem ml_RX2_27 : Cond.methodLink RX2 27 yX2_newestSlot ∈ BIG := bg3 184 (by decide +kernel)
set_option maxRecDepth 100000 in
theorem ml_RX2_31 : Cond.methodLink RX2 31 yX0_copyFrom ∈ BIG := bg3 188 (by decide +kernel)
set_option maxRecDepth 100000 in
theorem ml_RX0_107 : Cond.methodLink RX0 107 yX1_copyFrom ∈ BIG := bg3 192 (by decide +kernel)
set_option maxRecDepth 100000 in
theorem ml_RX1_33 : Cond.methodLink RX1 33 yX6_copyFirst ∈ BIG := bg3 196 (by decide +kernel)
set_option maxRecDepth 100000 in
theorem ml_RX6_23 : Cond.methodLink RX6 23 yJ9_min_7cf53 ∈ BIG := bg3 200 (by decide +kernel)
set_option maxRecDepth 100000 in
theorem ml_RX6_26 : Cond.methodLink RX6 26 arraycopyName ∈ BIG := bg3 203 (by decide +kernel)
set_option maxRecDepth 100000 in
theorem ml_RX0_111 : Cond.methodLink RX0 111 yX5_copyFrom ∈ BIG := bg3 206 (by decide +kernel)
set_option maxRecDepth 100000 in
theorem ml_RX5_24 : Cond.methodLink RX5 24 yX6_copyFirst ∈ BIG := bg3 210 (by decide +kernel)
set_option maxRecDepth 100000 in
theorem ml_RX0_114 : Cond.methodLink RX0 114 yX4_copyFrom ∈ BIG := bg3 211 (by decide +kernel)
set_option maxRecDepth 100000 in
theorem ml_RX4_27 : Cond.methodLink RX4 27 yX6_copyAll ∈ BIG := bg3 215 (by decide +kernel)
set_option maxRecDepth 100000 in
theorem ml_RX6_19 : Cond.methodLink RX6 19 yX6_copyFirst ∈ BIG := bg3 219 (by decide +kernel)
set_option maxRecDepth 100000 in
theorem ml_RX0_117 : Cond.methodLink RX0 117 yX6_copyAll ∈ BIG := bg3 220 (by decide +kernel)
set_option maxRecDepth 100000 in
theorem ml_RX2_35 : Cond.methodLink RX2 35 yJ9_min_7cf53 ∈ BIG := bg3 221 (by decide +kernel)
set_option maxRecDepth 100000 in
theorem ml_RX10_127 : Cond.methodLink RX10 127 yX0_recordPurchase ∈ BIG := bg3 222 (by decide +kernel)
set_option maxRecDepth 100000 in
theorem ml_RX0_154 : Cond.methodLink RX0 154 yX7_baseOf ∈ BIG := bg3 226 (by decide +kernel)
set_option maxRecDepth 100000 in
theorem ml_RX7_89 : Cond.methodLink RX7 89 yJ9_min_7cf53 ∈ BIG := bg3 230 (by decide +kernel)
set_option maxRecDepth 100000 in
theorem ml_RX0_157 : Cond.methodLink RX0 157 yX0_worth ∈ BIG := bg3 231 (by decide +kernel)
set_option maxRecDepth 100000 in
theorem ml_RX0_121 : Cond.methodLink RX0 121 yX6_at ∈ BIG := bg3 235 (by decide +kernel)
set_option maxRecDepth 100000 in
theorem ml_RX0_148 : Cond.methodLink RX0 148 yX7_bonusOf ∈ BIG := bg3 236 (by decide +kernel)
set_option maxRecDepth 100000 in
theorem ml_RX0_151 : Cond.methodLink RX0 151 yX7_extrasOn ∈ BIG := bg4 0 (by decide +kernel)
set_option maxRecDepth 100000 in
theorem ml_RX0_162 : Cond.methodLink RX0 162 yX5_add ∈ BIG := bg4 4 (by decide +kernel)
set_option maxRecDepth 100000 in
theorem ml_RX5_32 : Cond.methodLink RX5 32 yX6_put ∈ BIG := bg4 8 (by decide +kernel)
set_option maxRecDepth 100000 in
theorem ml_RX0_166 : Cond.methodLink RX0 166 yX6_increase ∈ BIG := bg4 9 (by decide +kernel)
set_option maxRecDepth 100000 in
theorem ml_RX0_169 : Cond.methodLink RX0 169 yX7_life ∈ BIG := bg4 13 (by decide +kernel)
set_option maxRecDepth 100000 in
theorem ml_RX0_173 : Cond.methodLink RX0 173 yX1_put ∈ BIG := bg4 20 (by decide +kernel)
set_option maxRecDepth 100000 in
theorem ml_RX1_49 : Cond.methodLink RX1 49 yX1_isBefore ∈ BIG := bg4 24 (by decide +kernel)
set_option maxRecDepth 100000 in
theorem ml_RX1_37 : Cond.methodLink RX1 37 yX6_at ∈ BIG := bg4 28 (by decide +kernel)
set_option maxRecDepth 100000 in
theorem ml_RX1_53 : Cond.methodLink RX1 53 yX6_increase ∈ BIG := bg4 29 (by decide +kernel)
set_option maxRecDepth 100000 in
theorem ml_RX1_57 : Cond.methodLink RX1 57 yX1_shift ∈ BIG := bg4 30 (by decide +kernel)
set_option maxRecDepth 100000 in
theorem ml_RX1_63 : Cond.methodLink RX1 63 yX6_move ∈ BIG := bg4 34 (by decide +kernel)
set_option maxRecDepth 100000 in
theorem ml_RX1_60 : Cond.methodLink RX1 60 yX6_put ∈ BIG := bg4 38 (by decide +kernel)
set_option maxRecDepth 100000 in
theorem ml_RX0_176 : Cond.methodLink RX0 176 yX0_credit ∈ BIG := bg4 39 (by decide +kernel)
set_option maxRecDepth 100000 in
theorem ml_RX0_184 : Cond.methodLink RX0 184 yJ9_min_7cf53 ∈ BIG := bg4 43 (by decide +kernel)
set_option maxRecDepth 100000 in
theorem ml_RX0_179 : Cond.methodLink RX0 179 yX4_add ∈ BIG := bg4 44 (by decide +kernel)
set_option maxRecDepth 100000 in
theorem ml_RX4_35 : Cond.methodLink RX4 35 yX6_put ∈ BIG := bg4 48 (by decide +kernel)
set_option maxRecDepth 100000 in
theorem ml_RX4_39 : Cond.methodLink RX4 39 yJ9_min_7cf53 ∈ BIG := bg4 49 (by decide +kernel)
set_option maxRecDepth 100000 in
theorem ml_RX0_181 : Cond.methodLink RX0 181 yX0_checkTier ∈ BIG := bg4 50 (by decide +kernel)
set_option maxRecDepth 100000 in
theorem ml_RX0_238 : Cond.methodLink RX0 238 yX9_start ∈ BIG := bg4 54 (by decide +kernel)
set_option maxRecDepth 100000 in
theorem ml_RX0_241 : Cond.methodLink RX0 241 yX7_tierFor ∈ BIG := bg4 58 (by decide +kernel)
set_option maxRecDepth 100000 in
theorem ml_RX0_244 : Cond.methodLink RX0 244 yX7_grace ∈ BIG := bg4 62 (by decide +kernel)
set_option maxRecDepth 100000 in
theorem ml_RX0_247 : Cond.methodLink RX0 247 yX9_check ∈ BIG := bg4 66 (by decide +kernel)
set_option maxRecDepth 100000 in
theorem ml_RX0_251 : Cond.methodLink RX0 251 yX9_presentTier ∈ BIG := bg4 70 (by decide +kernel)
set_option maxRecDepth 100000 in
theorem ml_RX0_254 : Cond.methodLink RX0 254 yX9_belowDay ∈ BIG := bg4 74 (by decide +kernel)
set_option maxRecDepth 100000 in
theorem ml_RL_286 : Cond.methodLink RL 286 yX10_setShare ∈ BIG := bg4 78 (by decide +kernel)
set_option maxRecDepth 100000 in
theorem ml_RX10_175 : Cond.methodLink RX10 175 yX10_needHousehold ∈ BIG := bg4 82 (by decide +kernel)
set_option maxRecDepth 100000 in
theorem ml_RX10_197 : Cond.methodLink RX10 197 yX0_replaceShare ∈ BIG := bg4 87 (by decide +kernel)
set_option maxRecDepth 100000 in
theorem ml_RL_295 : Cond.methodLink RL 295 yX10_advance ∈ BIG := bg4 91 (by decide +kernel)
set_option maxRecDepth 100000 in
theorem ml_RX10_200 : Cond.methodLink RX10 200 yX0_day ∈ BIG := bg4 95 (by decide +kernel)
set_option maxRecDepth 100000 in
theorem ml_RX10_203 : Cond.methodLink RX10 203 yX0_passDays ∈ BIG := bg4 99 (by decide +kernel)
set_option maxRecDepth 100000 in
theorem ml_RX0_220 : Cond.methodLink RX0 220 yX0_expire ∈ BIG := bg4 103 (by decide +kernel)
set_option maxRecDepth 100000 in
theorem ml_RX0_226 : Cond.methodLink RX0 226 yX1_expire ∈ BIG := bg4 107 (by decide +kernel)
set_option maxRecDepth 100000 in
theorem ml_RX0_145 : Cond.methodLink RX0 145 yX6_sumFrom ∈ BIG := bg4 111 (by decide +kernel)
set_option maxRecDepth 100000 in
theorem ml_RX6_13 : Cond.methodLink RX6 13 yJ9_max_7cf53 ∈ BIG := bg4 115 (by decide +kernel)
set_option maxRecDepth 100000 in
theorem ml_RX0_223 : Cond.methodLink RX0 223 yX0_shrinkWindow ∈ BIG := bg4 118 (by decide +kernel)
set_option maxRecDepth 100000 in
theorem ml_RX0_229 : Cond.methodLink RX0 229 yX7_window ∈ BIG := bg4 122 (by decide +kernel)
set_option maxRecDepth 100000 in
theorem ml_RX0_232 : Cond.methodLink RX0 232 yX5_firstAfter ∈ BIG := bg4 126 (by decide +kernel)
set_option maxRecDepth 100000 in
theorem ml_RX5_36 : Cond.methodLink RX5 36 yX5_part ∈ BIG := bg4 130 (by decide +kernel)
set_option maxRecDepth 100000 in
theorem ml_RX5_28 : Cond.methodLink RX5 28 yX6_at ∈ BIG := bg4 134 (by decide +kernel)
set_option maxRecDepth 100000 in
theorem ml_RX0_134 : Cond.methodLink RX0 134 yX7_count ∈ BIG := bg4 135 (by decide +kernel)
set_option maxRecDepth 100000 in
theorem ml_RX0_235 : Cond.methodLink RX0 235 yX5_basesOf ∈ BIG := bg4 136 (by decide +kernel)
set_option maxRecDepth 100000 in
theorem ml_RL_161 : Cond.methodLink RL 161 yX10_setup ∈ BIG := bg4 140 (by decide +kernel)
set_option maxRecDepth 100000 in
theorem ml_RX10_206 : Cond.methodLink RX10 206 yX7_life ∈ BIG := bg4 144 (by decide +kernel)
set_option maxRecDepth 100000 in
theorem ml_RX10_209 : Cond.methodLink RX10 209 yX7_window ∈ BIG := bg4 145 (by decide +kernel)
set_option maxRecDepth 100000 in
theorem ml_RX10_212 : Cond.methodLink RX10 212 yX7_grace ∈ BIG := bg4 146 (by decide +kernel)
set_option maxRecDepth 100000 in
theorem ml_RL_219 : Cond.methodLink RL 219 yX10_threshold ∈ BIG := bg4 147 (by decide +kernel)
set_option maxRecDepth 100000 in
theorem ml_RX10_220 : Cond.methodLink RX10 220 yX7_thresholdOf ∈ BIG := bg4 152 (by decide +kernel)
set_option maxRecDepth 100000 in
theorem ml_RL_152 : Cond.methodLink RL 152 yX10_today ∈ BIG := bg4 153 (by decide +kernel)
set_option maxRecDepth 100000 in
theorem ml_RL_200 : Cond.methodLink RL 200 yX10_balance ∈ BIG := bg4 157 (by decide +kernel)
set_option maxRecDepth 100000 in
theorem ml_RX10_161 : Cond.methodLink RX10 161 yX0_cohorts ∈ BIG := bg4 161 (by decide +kernel)
set_option maxRecDepth 100000 in
theorem ml_RX10_165 : Cond.methodLink RX10 165 yX1_sum ∈ BIG := bg4 165 (by decide +kernel)
set_option maxRecDepth 100000 in
theorem ml_RX1_41 : Cond.methodLink RX1 41 yX1_isIn ∈ BIG := bg4 169 (by decide +kernel)
set_option maxRecDepth 100000 in
theorem ml_RL_164 : Cond.methodLink RL 164 yX10_debt ∈ BIG := bg4 173 (by decide +kernel)
set_option maxRecDepth 100000 in
theorem ml_RX10_226 : Cond.methodLink RX10 226 yX0_debtOf ∈ BIG := bg4 177 (by decide +kernel)
set_option maxRecDepth 100000 in
theorem ml_RL_209 : Cond.methodLink RL 209 yX10_available ∈ BIG := bg4 181 (by decide +kernel)
set_option maxRecDepth 100000 in
theorem ml_RX10_151 : Cond.methodLink RX10 151 yX0_redeemable ∈ BIG := bg4 185 (by decide +kernel)
set_option maxRecDepth 100000 in
theorem ml_RX0_127 : Cond.methodLink RX0 127 yX1_sum ∈ BIG := bg4 189 (by decide +kernel)
set_option maxRecDepth 100000 in
theorem ml_RX0_131 : Cond.methodLink RX0 131 yX0_poolOf ∈ BIG := bg4 190 (by decide +kernel)
set_option maxRecDepth 100000 in
theorem ml_RL_173 : Cond.methodLink RL 173 yX10_household ∈ BIG := bg4 194 (by decide +kernel)
set_option maxRecDepth 100000 in
theorem ml_RX10_178 : Cond.methodLink RX10 178 yX0_homeOf ∈ BIG := bg4 198 (by decide +kernel)
set_option maxRecDepth 100000 in
theorem ml_RL_273 : Cond.methodLink RL 273 yX10_members ∈ BIG := bg4 202 (by decide +kernel)
set_option maxRecDepth 100000 in
theorem ml_RX10_237 : Cond.methodLink RX10 237 yX0_memberBits ∈ BIG := bg4 206 (by decide +kernel)
set_option maxRecDepth 100000 in
theorem ml_RL_212 : Cond.methodLink RL 212 yX10_poolBalance ∈ BIG := bg4 210 (by decide +kernel)
set_option maxRecDepth 100000 in
theorem ml_RX10_240 : Cond.methodLink RX10 240 yX10_poolList ∈ BIG := bg4 214 (by decide +kernel)
set_option maxRecDepth 100000 in
theorem ml_RL_206 : Cond.methodLink RL 206 yX10_contributed ∈ BIG := bg4 215 (by decide +kernel)
set_option maxRecDepth 100000 in
theorem ml_RX10_243 : Cond.methodLink RX10 243 yX0_poolOf ∈ BIG := bg4 219 (by decide +kernel)
set_option maxRecDepth 100000 in
theorem ml_RL_158 : Cond.methodLink RL 158 yX10_total ∈ BIG := bg4 220 (by decide +kernel)
set_option maxRecDepth 100000 in
theorem ml_RX10_246 : Cond.methodLink RX10 246 yX0_totalOf ∈ BIG := bg4 224 (by decide +kernel)
set_option maxRecDepth 100000 in
theorem ml_RL_167 : Cond.methodLink RL 167 yX10_tier ∈ BIG := bg4 228 (by decide +kernel)
set_option maxRecDepth 100000 in
theorem ml_RX10_249 : Cond.methodLink RX10 249 yX0_tierOf ∈ BIG := bg4 232 (by decide +kernel)
set_option maxRecDepth 100000 in
theorem ml_RL_289 : Cond.methodLink RL 289 yX10_tierAfter ∈ BIG := bg4 236 (by decide +kernel)
set_option maxRecDepth 100000 in
theorem ml_RX10_263 : Cond.methodLink RX10 263 yX0_futureTier ∈ BIG := bg5 0 (by decide +kernel)
set_option maxRecDepth 100000 in
theorem ml_RL_252 : Cond.methodLink RL 252 yX10_wouldEarn ∈ BIG := bg5 4 (by decide +kernel)
set_option maxRecDepth 100000 in
theorem ml_RX10_266 : Cond.methodLink RX10 266 yX0_worth ∈ BIG := bg5 8 (by decide +kernel)
set_option maxRecDepth 100000 in
theorem ml_RL_197 : Cond.methodLink RL 197 yX10_purchaseCount ∈ BIG := bg5 9 (by decide +kernel)
set_option maxRecDepth 100000 in
theorem ml_RX10_134 : Cond.methodLink RX10 134 yX0_purchases ∈ BIG := bg5 13 (by decide +kernel)
set_option maxRecDepth 100000 in
theorem ml_RX10_279 : Cond.methodLink RX10 279 yX5_count ∈ BIG := bg5 17 (by decide +kernel)
set_option maxRecDepth 100000 in
theorem ml_RL_258 : Cond.methodLink RL 258 yX10_purchasePart ∈ BIG := bg5 21 (by decide +kernel)
set_option maxRecDepth 100000 in
theorem ml_RX10_131 : Cond.methodLink RX10 131 yX10_needKeptPurchase ∈ BIG := bg5 25 (by decide +kernel)
set_option maxRecDepth 100000 in
theorem ml_RX10_330 : Cond.methodLink RX10 330 yX5_isKept ∈ BIG := bg5 29 (by decide +kernel)
set_option maxRecDepth 100000 in
theorem ml_RX10_138 : Cond.methodLink RX10 138 yX5_part ∈ BIG := bg5 49 (by decide +kernel)
set_option maxRecDepth 100000 in
theorem ml_RL_292 : Cond.methodLink RL 292 yX10_expiringWithin ∈ BIG := bg5 50 (by decide +kernel)
set_option maxRecDepth 100000 in
theorem ml_RX10_281 : Cond.methodLink RX10 281 yX1_sumUntil ∈ BIG := bg5 54 (by decide +kernel)
set_option maxRecDepth 100000 in
theorem ml_RL_306 : Cond.methodLink RL 306 yX10_undo ∈ BIG := bg5 58 (by decide +kernel)
set_option maxRecDepth 100000 in
theorem ml_RX10_312 : Cond.methodLink RX10 312 yX2_count ∈ BIG := bg5 62 (by decide +kernel)
set_option maxRecDepth 100000 in
theorem ml_RX10_315 : Cond.methodLink RX10 315 yX2_giveBack ∈ BIG := bg5 82 (by decide +kernel)
set_option maxRecDepth 100000 in
theorem ml_RL_249 : Cond.methodLink RL 249 yX10_undoCount ∈ BIG := bg5 86 (by decide +kernel)
set_option maxRecDepth 100000 in
theorem ml_RL_298 : Cond.methodLink RL 298 yX10_save ∈ BIG := bg5 90 (by decide +kernel)
set_option maxRecDepth 100000 in
theorem ml_RX10_318 : Cond.methodLink RX10 318 yX0_copyFrom ∈ BIG := bg5 94 (by decide +kernel)
set_option maxRecDepth 100000 in
theorem ml_RL_313 : Cond.methodLink RL 313 yX10_restore ∈ BIG := bg5 95 (by decide +kernel)
set_option maxRecDepth 100000 in
theorem ml_RX10_98 : Cond.methodLink RX10 98 yX2_forget ∈ BIG := bg5 100 (by decide +kernel)
set_option maxRecDepth 100000 in
theorem ml_RL_41 : Cond.methodLink RL 41 yL_cell ∈ BIG := bg5 104 (by decide +kernel)
set_option maxRecDepth 100000 in
theorem ml_RL_45 : Cond.methodLink RL 45 yL_in ∈ BIG := bg5 107 (by decide +kernel)
set_option maxRecDepth 100000 in
theorem cw_RL_7 : Cond.constant RL 7 (2147483647) ∈ BIG := bg5 110 (by decide +kernel)
set_option maxRecDepth 100000 in
theorem ml_RL_241 : Cond.methodLink RL 241 yL_send ∈ BIG := bg5 111 (by decide +kernel)
set_option maxRecDepth 100000 in
theorem ml_RL_16 : Cond.methodLink RL 16 yX10_truncate ∈ BIG := bg5 114 (by decide +kernel)
set_option maxRecDepth 100000 in
theorem ml_RX10_62 : Cond.methodLink RX10 62 yX3_length ∈ BIG := bg5 118 (by decide +kernel)
set_option maxRecDepth 100000 in
theorem ml_RX10_81 : Cond.methodLink RX10 81 yX3_shorten ∈ BIG := bg5 119 (by decide +kernel)
set_option maxRecDepth 100000 in
theorem ml_RL_20 : Cond.methodLink RL 20 yJ0_length_8abf5 ∈ BIG := bg5 123 (by decide +kernel)
set_option maxRecDepth 100000 in
theorem ml_RL_26 : Cond.methodLink RL 26 yJ0_charAt_5068e ∈ BIG := bg5 124 (by decide +kernel)
set_option maxRecDepth 100000 in
theorem ml_RL_30 : Cond.methodLink RL 30 yL_appended ∈ BIG := bg5 125 (by decide +kernel)
set_option maxRecDepth 100000 in
theorem ml_RL_8 : Cond.methodLink RL 8 yX10_append ∈ BIG := bg5 129 (by decide +kernel)
set_option maxRecDepth 100000 in
theorem ml_RX10_58 : Cond.methodLink RX10 58 yX3_bytesIn ∈ BIG := bg5 133 (by decide +kernel)
set_option maxRecDepth 100000 in
theorem ml_RX10_73 : Cond.methodLink RX10 73 yX3_addBytes ∈ BIG := bg5 137 (by decide +kernel)
set_option maxRecDepth 100000 in
theorem ml_RL_224 : Cond.methodLink RL 224 yL_loaded ∈ BIG := bg5 141 (by decide +kernel)
set_option maxRecDepth 100000 in
theorem ml_RL_36 : Cond.methodLink RL 36 yX10_load ∈ BIG := bg5 145 (by decide +kernel)
set_option maxRecDepth 100000 in
theorem ml_RX10_92 : Cond.methodLink RX10 92 yX7_copyFrom ∈ BIG := bg5 150 (by decide +kernel)
set_option maxRecDepth 100000 in
theorem ml_RX7_77 : Cond.methodLink RX7 77 yX6_copyAll ∈ BIG := bg5 154 (by decide +kernel)
set_option maxRecDepth 100000 in
theorem ml_RX10_95 : Cond.methodLink RX10 95 yX0_reset ∈ BIG := bg5 155 (by decide +kernel)
set_option maxRecDepth 100000 in
theorem ml_RL_81 : Cond.methodLink RL 81 yL_tiers ∈ BIG := bg5 156 (by decide +kernel)
set_option maxRecDepth 100000 in
theorem ml_RL_97 : Cond.methodLink RL 97 yL_categories ∈ BIG := bg5 159 (by decide +kernel)
set_option maxRecDepth 100000 in
theorem ml_RL_108 : Cond.methodLink RL 108 yL_members ∈ BIG := bg5 162 (by decide +kernel)
set_option maxRecDepth 100000 in
theorem ml_RL_228 : Cond.methodLink RL 228 yL_config ∈ BIG := bg5 165 (by decide +kernel)
set_option maxRecDepth 100000 in
theorem clk_RL_53 : Cond.classLink RL 53 RJ4 ∈ BIG := bg5 168 (by decide +kernel)
set_option maxRecDepth 100000 in
theorem ins_RJ4 : Cond.instantiable RJ4 4 ∈ BIG := bg5 169 (by decide +kernel)
set_option maxRecDepth 100000 in
theorem ml_RL_55 : Cond.methodLink RL 55 yJ4_init_da8c8 ∈ BIG := bg5 170 (by decide +kernel)
set_option maxRecDepth 100000 in
theorem ml_RJ4_1 : Cond.methodLink RJ4 1 yJ5_init_d00df ∈ BIG := bg5 173 (by decide +kernel)
set_option maxRecDepth 100000 in
theorem ml_RJ5_3 : Cond.methodLink RJ5 3 Lib.objectInit ∈ BIG := bg5 176 (by decide +kernel)
set_option maxRecDepth 100000 in
theorem fl_RJ5_18 : Cond.fieldLink RJ5 18 "java/lang/String" "COMPACT_STRINGS" "Z" ∈ BIG := bg5 177 (by decide +kernel)
set_option maxRecDepth 100000 in
theorem ml_RJ5_26 : Cond.methodLink RJ5 26 yJ2_newBytesFor_77867 ∈ BIG := bg5 178 (by decide +kernel)
set_option maxRecDepth 100000 in
theorem ml_RJ2_11 : Cond.methodLink RJ2 11 yJ2_newBytesLength_0f7a4 ∈ BIG := bg5 181 (by decide +kernel)
set_option maxRecDepth 100000 in
theorem cw_RJ2_20 : Cond.constant RJ2 20 (1073741823) ∈ BIG := bg5 184 (by decide +kernel)
set_option maxRecDepth 100000 in
theorem fl_RJ5_15 : Cond.fieldLink RJ5 15 "java/lang/AbstractStringBuilder" "value" "[B" ∈ BIG := bg5 185 (by decide +kernel)
set_option maxRecDepth 100000 in
theorem fl_RJ5_22 : Cond.fieldLink RJ5 22 "java/lang/AbstractStringBuilder" "coder" "B" ∈ BIG := bg5 186 (by decide +kernel)
set_option maxRecDepth 100000 in
theorem fl_RJ0_1048 : Cond.fieldLink RJ0 1048 "java/lang/AbstractStringBuilder" "maybeLatin1" "Z" ∈ BIG := bg5 187 (by decide +kernel)
set_option maxRecDepth 100000 in
theorem fl_RJ5_79 : Cond.fieldLink RJ5 79 "java/lang/AbstractStringBuilder" "count" "I" ∈ BIG := bg5 188 (by decide +kernel)
set_option maxRecDepth 100000 in
theorem ml_RL_58 : Cond.methodLink RL 58 yJ4_append_15ec4 ∈ BIG := bg5 199 (by decide +kernel)
set_option maxRecDepth 100000 in
theorem ml_RJ4_29 : Cond.methodLink RJ4 29 yJ5_append_cf1ce ∈ BIG := bg5 203 (by decide +kernel)
set_option maxRecDepth 100000 in
theorem ml_RJ5_204 : Cond.methodLink RJ5 204 yJ5_appendNull_278bc ∈ BIG := bg5 206 (by decide +kernel)
set_option maxRecDepth 100000 in
theorem ml_RJ5_100 : Cond.methodLink RJ5 100 yJ5_ensureCapacityInternal_d00df ∈ BIG := bg5 210 (by decide +kernel)
set_option maxRecDepth 100000 in
theorem ml_RJ5_104 : Cond.methodLink RJ5 104 yJ5_newCapacity_0f7a4 ∈ BIG := bg5 214 (by decide +kernel)
set_option maxRecDepth 100000 in
theorem ml_RJ5_114 : Cond.methodLink RJ5 114 yJ8_newLength_cabcc ∈ BIG := bg5 218 (by decide +kernel)
set_option maxRecDepth 100000 in
theorem ml_RJ8_194 : Cond.methodLink RJ8 194 yJ9_max_7cf53 ∈ BIG := bg5 221 (by decide +kernel)
set_option maxRecDepth 100000 in
theorem cw_RJ8_200 : Cond.constant RJ8 200 (2147483639) ∈ BIG := bg5 222 (by decide +kernel)
set_option maxRecDepth 100000 in
theorem ml_RJ8_201 : Cond.methodLink RJ8 201 yJ8_hugeLength_7cf53 ∈ BIG := bg5 223 (by decide +kernel)
set_option maxRecDepth 100000 in
theorem cw_RJ5_39 : Cond.constant RJ5 39 (2147483647) ∈ BIG := bg5 226 (by decide +kernel)
set_option maxRecDepth 100000 in
theorem ml_RJ5_108 : Cond.methodLink RJ5 108 yJ7_copyOf_9075b ∈ BIG := bg5 227 (by decide +kernel)
set_option maxRecDepth 100000 in
theorem ml_RJ7_304 : Cond.methodLink RJ7 304 yJ9_min_7cf53 ∈ BIG := bg5 237 (by decide +kernel)
set_option maxRecDepth 100000 in
theorem ml_RJ7_150 : Cond.methodLink RJ7 150 arraycopyName ∈ BIG := bg5 238 (by decide +kernel)
set_option maxRecDepth 100000 in
theorem ml_RJ5_83 : Cond.methodLink RJ5 83 yJ5_isLatin1_aae02 ∈ BIG := bg5 239 (by decide +kernel)
set_option maxRecDepth 100000 in
theorem ml_RJ5_226 : Cond.methodLink RJ5 226 yJ2_putCharsAt_cd4e5 ∈ BIG := bg6 4 (by decide +kernel)
set_option maxRecDepth 100000 in
theorem ml_RJ2_96 : Cond.methodLink RJ2 96 yJ2_checkBoundsBeginEnd_d044e ∈ BIG := bg6 7 (by decide +kernel)
set_option maxRecDepth 100000 in
theorem ml_RJ2_241 : Cond.methodLink RJ2 241 yJ0_checkBoundsBeginEnd_23922 ∈ BIG := bg6 10 (by decide +kernel)
set_option maxRecDepth 100000 in
theorem ml_RJ0_1062 : Cond.methodLink RJ0 1062 yJ3_checkFromToIndex_8c36e ∈ BIG := bg6 13 (by decide +kernel)
set_option maxRecDepth 100000 in
theorem ml_RJ2_111 : Cond.methodLink RJ2 111 yJ2_putChar_b72d1 ∈ BIG := bg6 16 (by decide +kernel)
set_option maxRecDepth 100000 in
theorem ml_RJ5_32 : Cond.methodLink RJ5 32 yJ0_length_8abf5 ∈ BIG := bg6 19 (by decide +kernel)
set_option maxRecDepth 100000 in
theorem ml_RJ5_208 : Cond.methodLink RJ5 208 yJ5_putStringAt_47b60 ∈ BIG := bg6 20 (by decide +kernel)
set_option maxRecDepth 100000 in
theorem ml_RJ5_397 : Cond.methodLink RJ5 397 yJ5_inflateIfNeededFor_a7421 ∈ BIG := bg6 24 (by decide +kernel)
set_option maxRecDepth 100000 in
theorem ml_RJ5_40 : Cond.methodLink RJ5 40 yJ0_coder_7d493 ∈ BIG := bg6 28 (by decide +kernel)
set_option maxRecDepth 100000 in
theorem ml_RJ5_195 : Cond.methodLink RJ5 195 yJ5_inflate_da8c8 ∈ BIG := bg6 29 (by decide +kernel)
set_option maxRecDepth 100000 in
theorem ml_RJ5_125 : Cond.methodLink RJ5 125 yJ1_inflate_0e8fd ∈ BIG := bg6 33 (by decide +kernel)
set_option maxRecDepth 100000 in
theorem ml_RJ1_240 : Cond.methodLink RJ1 240 yJ2_inflate_0e8fd ∈ BIG := bg6 36 (by decide +kernel)
set_option maxRecDepth 100000 in
theorem ml_RJ2_173 : Cond.methodLink RJ2 173 yJ2_checkBoundsOffCount_d044e ∈ BIG := bg6 39 (by decide +kernel)
set_option maxRecDepth 100000 in
theorem ml_RJ2_419 : Cond.methodLink RJ2 419 yJ0_checkBoundsOffCount_cabcc ∈ BIG := bg6 42 (by decide +kernel)
set_option maxRecDepth 100000 in
theorem ml_RJ0_1065 : Cond.methodLink RJ0 1065 yJ3_checkFromIndexSize_8c36e ∈ BIG := bg6 45 (by decide +kernel)
set_option maxRecDepth 100000 in
theorem ml_RJ5_399 : Cond.methodLink RJ5 399 yJ0_getBytes_840e7 ∈ BIG := bg6 48 (by decide +kernel)
set_option maxRecDepth 100000 in
theorem ml_RJ0_212 : Cond.methodLink RJ0 212 arraycopyName ∈ BIG := bg6 52 (by decide +kernel)
set_option maxRecDepth 100000 in
theorem ml_RJ0_106 : Cond.methodLink RJ0 106 yJ1_inflate_0e8fd ∈ BIG := bg6 53 (by decide +kernel)
set_option maxRecDepth 100000 in
theorem ml_RL_61 : Cond.methodLink RL 61 yL_life ∈ BIG := bg6 54 (by decide +kernel)
set_option maxRecDepth 100000 in
theorem ml_RL_64 : Cond.methodLink RL 64 yJ4_append_bf812 ∈ BIG := bg6 57 (by decide +kernel)
set_option maxRecDepth 100000 in
theorem ml_RJ4_53 : Cond.methodLink RJ4 53 yJ5_append_c97b9 ∈ BIG := bg6 61 (by decide +kernel)
set_option maxRecDepth 100000 in
theorem ml_RJ5_245 : Cond.methodLink RJ5 245 yJ6_stringSize_0f7a4 ∈ BIG := bg6 64 (by decide +kernel)
set_option maxRecDepth 100000 in
theorem ml_RJ5_248 : Cond.methodLink RJ5 248 yJ6_getChars_ba4f3 ∈ BIG := bg6 67 (by decide +kernel)
set_option maxRecDepth 100000 in
theorem fl_RJ6_83 : Cond.fieldLink RJ6 83 "java/lang/Integer" "DigitOnes" "[B" ∈ BIG := bg6 70 (by decide +kernel)
set_option maxRecDepth 100000 in
theorem fl_RJ6_87 : Cond.fieldLink RJ6 87 "java/lang/Integer" "DigitTens" "[B" ∈ BIG := bg6 72 (by decide +kernel)
set_option maxRecDepth 100000 in
theorem ml_RJ5_251 : Cond.methodLink RJ5 251 yJ2_getChars_46870 ∈ BIG := bg6 74 (by decide +kernel)
set_option maxRecDepth 100000 in
theorem ml_RJ2_393 : Cond.methodLink RJ2 393 yJ2_getChars_ba4f3 ∈ BIG := bg6 77 (by decide +kernel)
set_option maxRecDepth 100000 in
theorem fl_RJ2_403 : Cond.fieldLink RJ2 403 "java/lang/Integer" "DigitOnes" "[B" ∈ BIG := bg6 80 (by decide +kernel)
set_option maxRecDepth 100000 in
theorem fl_RJ2_407 : Cond.fieldLink RJ2 407 "java/lang/Integer" "DigitTens" "[B" ∈ BIG := bg6 81 (by decide +kernel)
set_option maxRecDepth 100000 in
theorem ml_RL_69 : Cond.methodLink RL 69 yL_window ∈ BIG := bg6 83 (by decide +kernel)
set_option maxRecDepth 100000 in
theorem ml_RL_74 : Cond.methodLink RL 74 yL_grace ∈ BIG := bg6 87 (by decide +kernel)
set_option maxRecDepth 100000 in
theorem ml_RL_77 : Cond.methodLink RL 77 yJ4_toString_0e30d ∈ BIG := bg6 90 (by decide +kernel)
set_option maxRecDepth 100000 in
theorem clk_RJ4_18 : Cond.classLink RJ4 18 RJ0 ∈ BIG := bg6 94 (by decide +kernel)
set_option maxRecDepth 100000 in
theorem ins_RJ0 : Cond.instantiable RJ0 4 ∈ BIG := bg6 95 (by decide +kernel)
set_option maxRecDepth 100000 in
theorem ml_RJ4_137 : Cond.methodLink RJ4 137 yJ0_init_81219 ∈ BIG := bg6 96 (by decide +kernel)
set_option maxRecDepth 100000 in
theorem ml_RJ0_489 : Cond.methodLink RJ0 489 yJ0_init_db425 ∈ BIG := bg6 99 (by decide +kernel)
set_option maxRecDepth 100000 in
theorem ml_RJ0_1 : Cond.methodLink RJ0 1 Lib.objectInit ∈ BIG := bg6 102 (by decide +kernel)
set_option maxRecDepth 100000 in
theorem ml_RJ0_552 : Cond.methodLink RJ0 552 yJ5_getValue_6d5f1 ∈ BIG := bg6 103 (by decide +kernel)
set_option maxRecDepth 100000 in
theorem ml_RJ0_549 : Cond.methodLink RJ0 549 yJ5_length_8abf5 ∈ BIG := bg6 108 (by decide +kernel)
set_option maxRecDepth 100000 in
theorem ml_RJ4_343 : Cond.methodLink RJ4 343 yJ5_length_8abf5 ∈ BIG := bg6 114 (by decide +kernel)
set_option maxRecDepth 100000 in
theorem ml_RJ0_1047 : Cond.methodLink RJ0 1047 yJ5_isLatin1_aae02 ∈ BIG := bg6 116 (by decide +kernel)
set_option maxRecDepth 100000 in
theorem ml_RJ0_54 : Cond.methodLink RJ0 54 yJ7_copyOfRange_39247 ∈ BIG := bg6 117 (by decide +kernel)
set_option maxRecDepth 100000 in
theorem ml_RJ7_339 : Cond.methodLink RJ7 339 yJ7_copyOfRangeByte_39247 ∈ BIG := bg6 120 (by decide +kernel)
set_option maxRecDepth 100000 in
theorem ml_RJ7_343 : Cond.methodLink RJ7 343 yJ7_checkLength_df160 ∈ BIG := bg6 123 (by decide +kernel)
set_option maxRecDepth 100000 in
theorem clk_RJ7_45 : Cond.classLink RJ7 45 RJ4 ∈ BIG := bg6 127 (by decide +kernel)
set_option maxRecDepth 100000 in
theorem ml_RJ7_47 : Cond.methodLink RJ7 47 yJ4_init_da8c8 ∈ BIG := bg6 128 (by decide +kernel)
set_option maxRecDepth 100000 in
theorem ml_RJ7_54 : Cond.methodLink RJ7 54 yJ4_append_bf812 ∈ BIG := bg6 129 (by decide +kernel)
set_option maxRecDepth 100000 in
theorem ml_RJ7_50 : Cond.methodLink RJ7 50 yJ4_append_15ec4 ∈ BIG := bg6 131 (by decide +kernel)
set_option maxRecDepth 100000 in
theorem ml_RJ7_61 : Cond.methodLink RJ7 61 yJ4_toString_0e30d ∈ BIG := bg6 132 (by decide +kernel)
set_option maxRecDepth 100000 in
theorem ml_RJ0_1051 : Cond.methodLink RJ0 1051 yJ2_compress_39247 ∈ BIG := bg6 134 (by decide +kernel)
set_option maxRecDepth 100000 in
theorem ml_RJ2_123 : Cond.methodLink RJ2 123 yJ2_compress_5af95 ∈ BIG := bg6 137 (by decide +kernel)
set_option maxRecDepth 100000 in
theorem ml_RJ2_126 : Cond.methodLink RJ2 126 yJ7_copyOfRange_39247 ∈ BIG := bg6 140 (by decide +kernel)
set_option maxRecDepth 100000 in
theorem ml_RJ0_47 : Cond.methodLink RJ0 47 yJ2_coderFromArrayLen_85cad ∈ BIG := bg6 141 (by decide +kernel)
set_option maxRecDepth 100000 in
theorem fl_RJ0_9 : Cond.fieldLink RJ0 9 "java/lang/String" "value" "[B" ∈ BIG := bg6 144 (by decide +kernel)
set_option maxRecDepth 100000 in
theorem fl_RJ0_15 : Cond.fieldLink RJ0 15 "java/lang/String" "coder" "B" ∈ BIG := bg6 145 (by decide +kernel)
set_option maxRecDepth 100000 in
theorem ml_RL_86 : Cond.methodLink RL 86 yJ4_append_cf468 ∈ BIG := bg6 156 (by decide +kernel)
set_option maxRecDepth 100000 in
theorem ml_RJ4_50 : Cond.methodLink RJ4 50 yJ5_append_3fe6f ∈ BIG := bg6 160 (by decide +kernel)
set_option maxRecDepth 100000 in
theorem ml_RJ5_191 : Cond.methodLink RJ5 191 yJ1_canEncode_fc78d ∈ BIG := bg6 163 (by decide +kernel)
set_option maxRecDepth 100000 in
theorem ml_RJ5_197 : Cond.methodLink RJ5 197 yJ2_putCharSB_b72d1 ∈ BIG := bg6 166 (by decide +kernel)
set_option maxRecDepth 100000 in
theorem ml_RL_91 : Cond.methodLink RL 91 yL_threshold ∈ BIG := bg6 170 (by decide +kernel)
set_option maxRecDepth 100000 in
theorem ml_RL_94 : Cond.methodLink RL 94 yL_bonus ∈ BIG := bg6 173 (by decide +kernel)
set_option maxRecDepth 100000 in
theorem ml_RL_102 : Cond.methodLink RL 102 yL_rate ∈ BIG := bg6 177 (by decide +kernel)
set_option maxRecDepth 100000 in
theorem ml_RL_105 : Cond.methodLink RL 105 yL_cap ∈ BIG := bg6 180 (by decide +kernel)
set_option maxRecDepth 100000 in
theorem ml_RL_113 : Cond.methodLink RL 113 yL_name ∈ BIG := bg6 184 (by decide +kernel)
set_option maxRecDepth 100000 in
theorem ml_RL_49 : Cond.methodLink RL 49 yL_from ∈ BIG := bg6 189 (by decide +kernel)
set_option maxRecDepth 100000 in
theorem ml_RL_119 : Cond.methodLink RL 119 yL_to ∈ BIG := bg6 192 (by decide +kernel)
set_option maxRecDepth 100000 in
theorem ml_RL_122 : Cond.methodLink RL 122 yL_extra ∈ BIG := bg6 195 (by decide +kernel)
set_option maxRecDepth 100000 in
theorem ml_RL_127 : Cond.methodLink RL 127 yL_share ∈ BIG := bg6 199 (by decide +kernel)
set_option maxRecDepth 100000 in
theorem ml_RL_261 : Cond.methodLink RL 261 yL_refunded ∈ BIG := bg6 202 (by decide +kernel)
set_option maxRecDepth 100000 in
theorem ml_RL_132 : Cond.methodLink RL 132 yX10_refund ∈ BIG := bg6 206 (by decide +kernel)
set_option maxRecDepth 100000 in
theorem ml_RX10_145 : Cond.methodLink RX10 145 yX0_takeBack ∈ BIG := bg6 211 (by decide +kernel)
set_option maxRecDepth 100000 in
theorem ml_RX0_189 : Cond.methodLink RX0 189 yX5_part ∈ BIG := bg6 215 (by decide +kernel)
set_option maxRecDepth 100000 in
theorem ml_RX0_192 : Cond.methodLink RX0 192 yX1_takeFromAll ∈ BIG := bg6 216 (by decide +kernel)
set_option maxRecDepth 100000 in
theorem ml_RX1_45 : Cond.methodLink RX1 45 yX1_first ∈ BIG := bg6 220 (by decide +kernel)
set_option maxRecDepth 100000 in
theorem ml_RX1_73 : Cond.methodLink RX1 73 yX1_take ∈ BIG := bg6 224 (by decide +kernel)
set_option maxRecDepth 100000 in
theorem ml_RX1_67 : Cond.methodLink RX1 67 yJ9_min_7cf53 ∈ BIG := bg6 228 (by decide +kernel)
set_option maxRecDepth 100000 in
theorem ml_RX0_196 : Cond.methodLink RX0 196 yX5_markRefunded ∈ BIG := bg6 229 (by decide +kernel)
set_option maxRecDepth 100000 in
theorem ml_RL_265 : Cond.methodLink RL 265 yL_redeemed ∈ BIG := bg6 233 (by decide +kernel)
set_option maxRecDepth 100000 in
theorem ml_RL_137 : Cond.methodLink RL 137 yX10_redeem ∈ BIG := bg6 236 (by decide +kernel)
set_option maxRecDepth 100000 in
theorem ml_RX10_148 : Cond.methodLink RX10 148 yX10_needAtLeastOne ∈ BIG := bg7 0 (by decide +kernel)
set_option maxRecDepth 100000 in
theorem ml_RX10_156 : Cond.methodLink RX10 156 yX0_spend ∈ BIG := bg7 5 (by decide +kernel)
set_option maxRecDepth 100000 in
theorem ml_RX0_199 : Cond.methodLink RX0 199 yX0_spendFrom ∈ BIG := bg7 9 (by decide +kernel)
set_option maxRecDepth 100000 in
theorem ml_RX0_202 : Cond.methodLink RX0 202 yX1_size ∈ BIG := bg7 13 (by decide +kernel)
set_option maxRecDepth 100000 in
theorem ml_RX0_205 : Cond.methodLink RX0 205 yX1_first ∈ BIG := bg7 17 (by decide +kernel)
set_option maxRecDepth 100000 in
theorem ml_RX0_208 : Cond.methodLink RX0 208 yX1_dayOf ∈ BIG := bg7 18 (by decide +kernel)
set_option maxRecDepth 100000 in
theorem ml_RX0_211 : Cond.methodLink RX0 211 yX7_partOfLife ∈ BIG := bg7 22 (by decide +kernel)
set_option maxRecDepth 100000 in
theorem ml_RX0_214 : Cond.methodLink RX0 214 yX1_take ∈ BIG := bg7 26 (by decide +kernel)
set_option maxRecDepth 100000 in
theorem ml_RL_269 : Cond.methodLink RL 269 yL_transferred ∈ BIG := bg7 27 (by decide +kernel)
set_option maxRecDepth 100000 in
theorem ml_RL_140 : Cond.methodLink RL 140 yX10_transfer ∈ BIG := bg7 30 (by decide +kernel)
set_option maxRecDepth 100000 in
theorem ml_RX10_172 : Cond.methodLink RX10 172 yX0_give ∈ BIG := bg7 36 (by decide +kernel)
set_option maxRecDepth 100000 in
theorem ml_RL_280 : Cond.methodLink RL 280 yL_joined ∈ BIG := bg7 40 (by decide +kernel)
set_option maxRecDepth 100000 in
theorem ml_RL_144 : Cond.methodLink RL 144 yX10_join ∈ BIG := bg7 43 (by decide +kernel)
set_option maxRecDepth 100000 in
theorem ml_RX10_183 : Cond.methodLink RX10 183 yX0_peopleIn ∈ BIG := bg7 48 (by decide +kernel)
set_option maxRecDepth 100000 in
theorem ml_RX0_137 : Cond.methodLink RX0 137 yX0_memberBits ∈ BIG := bg7 52 (by decide +kernel)
set_option maxRecDepth 100000 in
theorem ml_RX0_140 : Cond.methodLink RX0 140 yJ6_bitCount_0f7a4 ∈ BIG := bg7 53 (by decide +kernel)
set_option maxRecDepth 100000 in
theorem cw_RJ6_265 : Cond.constant RJ6 265 (1431655765) ∈ BIG := bg7 56 (by decide +kernel)
set_option maxRecDepth 100000 in
theorem cw_RJ6_266 : Cond.constant RJ6 266 (858993459) ∈ BIG := bg7 57 (by decide +kernel)
set_option maxRecDepth 100000 in
theorem cw_RJ6_267 : Cond.constant RJ6 267 (252645135) ∈ BIG := bg7 58 (by decide +kernel)
set_option maxRecDepth 100000 in
theorem ml_RX10_188 : Cond.methodLink RX10 188 yX0_enter ∈ BIG := bg7 60 (by decide +kernel)
set_option maxRecDepth 100000 in
theorem ml_RL_283 : Cond.methodLink RL 283 yL_left ∈ BIG := bg7 64 (by decide +kernel)
set_option maxRecDepth 100000 in
theorem ml_RL_147 : Cond.methodLink RL 147 yX10_leave ∈ BIG := bg7 67 (by decide +kernel)
set_option maxRecDepth 100000 in
theorem ml_RX10_194 : Cond.methodLink RX10 194 yX0_moveOut ∈ BIG := bg7 72 (by decide +kernel)
set_option maxRecDepth 100000 in
theorem ml_RX0_217 : Cond.methodLink RX0 217 yX1_pointsOf ∈ BIG := bg7 76 (by decide +kernel)
set_option maxRecDepth 100000 in
theorem ml_RL_245 : Cond.methodLink RL 245 yL_all ∈ BIG := bg7 80 (by decide +kernel)
set_option maxRecDepth 100000 in
theorem cw_RL_150 : Cond.constantLong RL 150 (31) ∈ BIG := bg7 83 (by decide +kernel)
set_option maxRecDepth 100000 in
theorem ml_RL_155 : Cond.methodLink RL 155 yX10_totalBreakage ∈ BIG := bg7 84 (by decide +kernel)
set_option maxRecDepth 100000 in
theorem ml_RX10_292 : Cond.methodLink RX10 292 yX0_breakageOf ∈ BIG := bg7 88 (by decide +kernel)
set_option maxRecDepth 100000 in
theorem ml_RX0_257 : Cond.methodLink RX0 257 yX1_isIn ∈ BIG := bg7 92 (by decide +kernel)
set_option maxRecDepth 100000 in
theorem ml_RX0_261 : Cond.methodLink RX0 261 yX0_estimate ∈ BIG := bg7 93 (by decide +kernel)
set_option maxRecDepth 100000 in
theorem ml_RL_170 : Cond.methodLink RL 170 yX10_belowSince ∈ BIG := bg7 97 (by decide +kernel)
set_option maxRecDepth 100000 in
theorem ml_RX10_258 : Cond.methodLink RX10 258 yX0_belowDay ∈ BIG := bg7 101 (by decide +kernel)
set_option maxRecDepth 100000 in
theorem ml_RL_176 : Cond.methodLink RL 176 yX10_cohortCount ∈ BIG := bg7 105 (by decide +kernel)
set_option maxRecDepth 100000 in
theorem ml_RX10_229 : Cond.methodLink RX10 229 yX1_number ∈ BIG := bg7 109 (by decide +kernel)
set_option maxRecDepth 100000 in
theorem ml_RL_179 : Cond.methodLink RL 179 yX10_cohort ∈ BIG := bg7 113 (by decide +kernel)
set_option maxRecDepth 100000 in
theorem ml_RX10_232 : Cond.methodLink RX10 232 yX10_needCohort ∈ BIG := bg7 117 (by decide +kernel)
set_option maxRecDepth 100000 in
theorem ml_RX10_235 : Cond.methodLink RX10 235 yX1_part ∈ BIG := bg7 122 (by decide +kernel)
set_option maxRecDepth 100000 in
theorem ml_RL_182 : Cond.methodLink RL 182 yX10_qualifying ∈ BIG := bg7 126 (by decide +kernel)
set_option maxRecDepth 100000 in
theorem ml_RX10_252 : Cond.methodLink RX10 252 yX0_qualifyingSum ∈ BIG := bg7 130 (by decide +kernel)
set_option maxRecDepth 100000 in
theorem ml_RL_185 : Cond.methodLink RL 185 yX10_poolCohortCount ∈ BIG := bg7 134 (by decide +kernel)
set_option maxRecDepth 100000 in
theorem ml_RL_188 : Cond.methodLink RL 188 yX10_poolCohort ∈ BIG := bg7 138 (by decide +kernel)
set_option maxRecDepth 100000 in
theorem ml_RL_191 : Cond.methodLink RL 191 yX10_logSize ∈ BIG := bg7 142 (by decide +kernel)
set_option maxRecDepth 100000 in
theorem ml_RX10_300 : Cond.methodLink RX10 300 yX0_diary ∈ BIG := bg7 146 (by decide +kernel)
set_option maxRecDepth 100000 in
theorem ml_RX10_304 : Cond.methodLink RX10 304 yX4_size ∈ BIG := bg7 150 (by decide +kernel)
set_option maxRecDepth 100000 in
theorem ml_RL_194 : Cond.methodLink RL 194 yX10_log ∈ BIG := bg7 154 (by decide +kernel)
set_option maxRecDepth 100000 in
theorem ml_RX10_311 : Cond.methodLink RX10 311 yX4_part ∈ BIG := bg7 159 (by decide +kernel)
set_option maxRecDepth 100000 in
theorem ml_RX4_31 : Cond.methodLink RX4 31 yX6_at ∈ BIG := bg7 163 (by decide +kernel)
set_option maxRecDepth 100000 in
theorem ml_RL_309 : Cond.methodLink RL 309 yL_isSound ∈ BIG := bg7 164 (by decide +kernel)
set_option maxRecDepth 100000 in
theorem ml_RL_203 : Cond.methodLink RL 203 yX10_earnedTier ∈ BIG := bg7 167 (by decide +kernel)
set_option maxRecDepth 100000 in
theorem ml_RX10_255 : Cond.methodLink RX10 255 yX7_tierFor ∈ BIG := bg7 171 (by decide +kernel)
set_option maxRecDepth 100000 in
theorem ml_RL_215 : Cond.methodLink RL 215 yX10_redeemedWith ∈ BIG := bg7 172 (by decide +kernel)
set_option maxRecDepth 100000 in
theorem ml_RX10_289 : Cond.methodLink RX10 289 yX0_redeemedIn ∈ BIG := bg7 176 (by decide +kernel)
set_option maxRecDepth 100000 in
theorem ml_RL_275 : Cond.methodLink RL 275 yJ6_bitCount_0f7a4 ∈ BIG := bg7 180 (by decide +kernel)
set_option maxRecDepth 100000 in
theorem ml_RL_301 : Cond.methodLink RL 301 yJ9_min_7cf53 ∈ BIG := bg7 181 (by decide +kernel)
set_option maxRecDepth 100000 in
theorem ml_RL_238 : Cond.methodLink RL 238 yJ0_substring_b52d3 ∈ BIG := bg7 182 (by decide +kernel)
set_option maxRecDepth 100000 in
theorem ml_RJ0_505 : Cond.methodLink RJ0 505 yJ0_length_8abf5 ∈ BIG := bg7 186 (by decide +kernel)
set_option maxRecDepth 100000 in
theorem ml_RJ0_681 : Cond.methodLink RJ0 681 yJ0_substring_37a41 ∈ BIG := bg7 187 (by decide +kernel)
set_option maxRecDepth 100000 in
theorem ml_RJ0_521 : Cond.methodLink RJ0 521 yJ0_checkBoundsBeginEnd_23922 ∈ BIG := bg7 191 (by decide +kernel)
set_option maxRecDepth 100000 in
theorem ml_RJ0_685 : Cond.methodLink RJ0 685 yJ1_newString_b4f7a ∈ BIG := bg7 192 (by decide +kernel)
set_option maxRecDepth 100000 in
theorem clk_RJ1_1 : Cond.classLink RJ1 1 RJ0 ∈ BIG := bg7 196 (by decide +kernel)
set_option maxRecDepth 100000 in
theorem ml_RJ1_232 : Cond.methodLink RJ1 232 yJ7_copyOfRange_39247 ∈ BIG := bg7 197 (by decide +kernel)
set_option maxRecDepth 100000 in
theorem ml_RJ1_112 : Cond.methodLink RJ1 112 yJ0_init_031fb ∈ BIG := bg7 198 (by decide +kernel)
set_option maxRecDepth 100000 in
theorem ml_RJ0_689 : Cond.methodLink RJ0 689 yJ2_newString_b4f7a ∈ BIG := bg7 201 (by decide +kernel)
set_option maxRecDepth 100000 in
theorem fl_RJ2_251 : Cond.fieldLink RJ2 251 "java/lang/String" "COMPACT_STRINGS" "Z" ∈ BIG := bg7 205 (by decide +kernel)
set_option maxRecDepth 100000 in
theorem ml_RJ2_257 : Cond.methodLink RJ2 257 yJ2_compress_39247 ∈ BIG := bg7 206 (by decide +kernel)
set_option maxRecDepth 100000 in
theorem ml_RJ2_259 : Cond.methodLink RJ2 259 yJ2_coderFromArrayLen_85cad ∈ BIG := bg7 207 (by decide +kernel)
set_option maxRecDepth 100000 in
theorem clk_RJ2_3 : Cond.classLink RJ2 3 RJ0 ∈ BIG := bg7 208 (by decide +kernel)
set_option maxRecDepth 100000 in
theorem ml_RJ2_263 : Cond.methodLink RJ2 263 yJ0_init_031fb ∈ BIG := bg7 209 (by decide +kernel)
set_option maxRecDepth 100000 in
theorem ml_RL_232 : Cond.methodLink RL 232 yJ0_substring_37a41 ∈ BIG := bg7 210 (by decide +kernel)
set_option maxRecDepth 100000 in
theorem mi_yX10_init : jMi yX10_init cX10_init 1 0 := ⟨⟨bg1 35 (by decide +kernel), ini_RX10, by decide +kernel⟩, bg1 34 (by decide +kernel), rfl⟩
set_option maxRecDepth 100000 in
theorem mi_yX3_init : jMi yX3_init cX3_init 1 0 := ⟨⟨bg1 43 (by decide +kernel), ini_RX3, by decide +kernel⟩, bg1 42 (by decide +kernel), rfl⟩
set_option maxRecDepth 100000 in
theorem mi_yX7_init : jMi yX7_init cX7_init 1 0 := ⟨⟨bg1 57 (by decide +kernel), ini_RX7, by decide +kernel⟩, bg1 56 (by decide +kernel), rfl⟩
set_option maxRecDepth 100000 in
theorem mi_yX6_init : jMi yX6_init cX6_init 2 1 := ⟨⟨bg1 63 (by decide +kernel), ini_RX6, by decide +kernel⟩, bg1 62 (by decide +kernel), rfl⟩
set_option maxRecDepth 100000 in
theorem mi_yX7_clear : jMv yX7_clear cX7_clear 1 (none : Option FieldType) 0 := ⟨⟨bg1 72 (by decide +kernel), ini_RX7, by decide +kernel⟩, bg1 70 (by decide +kernel), bg1 71 (by decide +kernel)⟩
set_option maxRecDepth 100000 in
theorem mi_yX6_fill : jMv yX6_fill cX6_fill 3 (none : Option FieldType) 1 := ⟨⟨bg1 76 (by decide +kernel), ini_RX6, by decide +kernel⟩, bg1 74 (by decide +kernel), bg1 75 (by decide +kernel)⟩
set_option maxRecDepth 100000 in
theorem mi_yX7_finish : jMv yX7_finish cX7_finish 1 (none : Option FieldType) 0 := ⟨⟨bg1 80 (by decide +kernel), ini_RX7, by decide +kernel⟩, bg1 78 (by decide +kernel), bg1 79 (by decide +kernel)⟩
set_option maxRecDepth 100000 in
theorem mi_yX6_at : jMv yX6_at cX6_at 2 (some FieldType.int) 1 := ⟨⟨bg1 84 (by decide +kernel), ini_RX6, by decide +kernel⟩, bg1 82 (by decide +kernel), bg1 83 (by decide +kernel)⟩
set_option maxRecDepth 100000 in
theorem mi_yX6_put : jMv yX6_put cX6_put 3 (none : Option FieldType) 2 := ⟨⟨bg1 88 (by decide +kernel), ini_RX6, by decide +kernel⟩, bg1 86 (by decide +kernel), bg1 87 (by decide +kernel)⟩
set_option maxRecDepth 100000 in
theorem mi_yX8_init : jMi yX8_init cX8_init 3 2 := ⟨⟨bg1 136 (by decide +kernel), ini_RX8, by decide +kernel⟩, bg1 135 (by decide +kernel), rfl⟩
set_option maxRecDepth 100000 in
theorem mi_yX0_init : jMi yX0_init cX0_init 2 1 := ⟨⟨bg1 161 (by decide +kernel), ini_RX0, by decide +kernel⟩, bg1 160 (by decide +kernel), rfl⟩
set_option maxRecDepth 100000 in
theorem mi_yX1_init : jMi yX1_init cX1_init 1 0 := ⟨⟨bg1 167 (by decide +kernel), ini_RX1, by decide +kernel⟩, bg1 166 (by decide +kernel), rfl⟩
set_option maxRecDepth 100000 in
theorem mi_yX5_init : jMi yX5_init cX5_init 1 0 := ⟨⟨bg1 191 (by decide +kernel), ini_RX5, by decide +kernel⟩, bg1 190 (by decide +kernel), rfl⟩
set_option maxRecDepth 100000 in
theorem mi_yX4_init : jMi yX4_init cX4_init 1 0 := ⟨⟨bg1 206 (by decide +kernel), ini_RX4, by decide +kernel⟩, bg1 205 (by decide +kernel), rfl⟩
set_option maxRecDepth 100000 in
theorem mi_yX9_init : jMi yX9_init cX9_init 1 0 := ⟨⟨bg1 226 (by decide +kernel), ini_RX9, by decide +kernel⟩, bg1 225 (by decide +kernel), rfl⟩
set_option maxRecDepth 100000 in
theorem mi_yX0_reset : jMv yX0_reset cX0_reset 2 (none : Option FieldType) 0 := ⟨⟨bg1 238 (by decide +kernel), ini_RX0, by decide +kernel⟩, bg1 236 (by decide +kernel), bg1 237 (by decide +kernel)⟩
set_option maxRecDepth 100000 in
theorem mi_yX1_clear : jMv yX1_clear cX1_clear 1 (none : Option FieldType) 0 := ⟨⟨bg2 2 (by decide +kernel), ini_RX1, by decide +kernel⟩, bg2 0 (by decide +kernel), bg2 1 (by decide +kernel)⟩
set_option maxRecDepth 100000 in
theorem mi_yX5_clear : jMv yX5_clear cX5_clear 1 (none : Option FieldType) 0 := ⟨⟨bg2 6 (by decide +kernel), ini_RX5, by decide +kernel⟩, bg2 4 (by decide +kernel), bg2 5 (by decide +kernel)⟩
set_option maxRecDepth 100000 in
theorem mi_yX4_clear : jMv yX4_clear cX4_clear 1 (none : Option FieldType) 0 := ⟨⟨bg2 10 (by decide +kernel), ini_RX4, by decide +kernel⟩, bg2 8 (by decide +kernel), bg2 9 (by decide +kernel)⟩
set_option maxRecDepth 100000 in
theorem mi_yX7_firstShareOf : jMv yX7_firstShareOf cX7_firstShareOf 2 (some FieldType.int) 1 := ⟨⟨bg2 15 (by decide +kernel), ini_RX7, by decide +kernel⟩, bg2 13 (by decide +kernel), bg2 14 (by decide +kernel)⟩
set_option maxRecDepth 100000 in
theorem mi_yX2_init : jMi yX2_init cX2_init 3 1 := ⟨⟨bg2 73 (by decide +kernel), ini_RX2, by decide +kernel⟩, bg2 72 (by decide +kernel), rfl⟩
set_option maxRecDepth 100000 in
theorem mi_yX10_errorPosition : jMv yX10_errorPosition cX10_errorPosition 1 (some FieldType.int) 0 := ⟨⟨bg2 116 (by decide +kernel), ini_RX10, by decide +kernel⟩, bg2 114 (by decide +kernel), bg2 115 (by decide +kernel)⟩
set_option maxRecDepth 100000 in
theorem mi_yX8_read : jMv yX8_read cX8_read 2 (some FieldType.int) 0 := ⟨⟨bg2 120 (by decide +kernel), ini_RX8, by decide +kernel⟩, bg2 118 (by decide +kernel), bg2 119 (by decide +kernel)⟩
set_option maxRecDepth 100000 in
theorem mi_yX3_length : jMv yX3_length cX3_length 1 (some FieldType.int) 0 := ⟨⟨bg2 125 (by decide +kernel), ini_RX3, by decide +kernel⟩, bg2 123 (by decide +kernel), bg2 124 (by decide +kernel)⟩
set_option maxRecDepth 100000 in
theorem mi_yX8_readStatement : jMv yX8_readStatement cX8_readStatement 2 (none : Option FieldType) 0 := ⟨⟨bg2 129 (by decide +kernel), ini_RX8, by decide +kernel⟩, bg2 128 (by decide +kernel), bg 0 (by decide +kernel)⟩
set_option maxRecDepth 100000 in
theorem mi_yX8_readToken : jMv yX8_readToken cX8_readToken 2 (none : Option FieldType) 0 := ⟨⟨bg2 133 (by decide +kernel), ini_RX8, by decide +kernel⟩, bg2 132 (by decide +kernel), bg 1 (by decide +kernel)⟩
set_option maxRecDepth 100000 in
theorem mi_yX3_byteAt : jMv yX3_byteAt cX3_byteAt 2 (some FieldType.int) 1 := ⟨⟨bg2 137 (by decide +kernel), ini_RX3, by decide +kernel⟩, bg2 135 (by decide +kernel), bg2 136 (by decide +kernel)⟩
set_option maxRecDepth 100000 in
theorem mi_yX3_tokenAt : jMv yX3_tokenAt cX3_tokenAt 3 (some FieldType.int) 1 := ⟨⟨bg2 141 (by decide +kernel), ini_RX3, by decide +kernel⟩, bg2 139 (by decide +kernel), bg2 140 (by decide +kernel)⟩
set_option maxRecDepth 100000 in
theorem mi_yX8_keyword : jMv yX8_keyword cX8_keyword 2 (some FieldType.int) 0 := ⟨⟨bg2 145 (by decide +kernel), ini_RX8, by decide +kernel⟩, bg2 144 (by decide +kernel), bg 2 (by decide +kernel)⟩
set_option maxRecDepth 100000 in
theorem mi_yX8_wordOf : jMs yX8_wordOf cX8_wordOf 1 (some (FieldType.object "java/lang/String")) 1 := ⟨⟨bg2 148 (by decide +kernel), ini_RX8, by decide +kernel⟩, bg2 147 (by decide +kernel)⟩
set_option maxRecDepth 100000 in
theorem mi_yX3_spells : jMv yX3_spells cX3_spells 5 (some FieldType.boolean) 3 := ⟨⟨bg2 160 (by decide +kernel), ini_RX3, by decide +kernel⟩, bg2 158 (by decide +kernel), bg2 159 (by decide +kernel)⟩
set_option maxRecDepth 100000 in
theorem mi_yJ0_length_8abf5 : jMv yJ0_length_8abf5 cJ0_length_8abf5 1 (some FieldType.int) 0 := ⟨⟨bg2 164 (by decide +kernel), ini_RJ0, by decide +kernel⟩, bg2 162 (by decide +kernel), bg2 163 (by decide +kernel)⟩
set_option maxRecDepth 100000 in
theorem mi_yJ0_coder_7d493 : jMv yJ0_coder_7d493 cJ0_coder_7d493 1 (some FieldType.byte) 0 := ⟨⟨bg2 168 (by decide +kernel), ini_RJ0, by decide +kernel⟩, bg2 166 (by decide +kernel), bg2 167 (by decide +kernel)⟩
set_option maxRecDepth 100000 in
theorem mi_yJ0_charAt_5068e : jMv yJ0_charAt_5068e cJ0_charAt_5068e 2 (some FieldType.char) 1 := ⟨⟨bg2 174 (by decide +kernel), ini_RJ0, by decide +kernel⟩, bg2 172 (by decide +kernel), bg2 173 (by decide +kernel)⟩
set_option maxRecDepth 100000 in
theorem mi_yJ0_isLatin1_aae02 : jMv yJ0_isLatin1_aae02 cJ0_isLatin1_aae02 1 (some FieldType.boolean) 0 := ⟨⟨bg2 178 (by decide +kernel), ini_RJ0, by decide +kernel⟩, bg2 176 (by decide +kernel), bg2 177 (by decide +kernel)⟩
set_option maxRecDepth 100000 in
theorem mi_yJ1_charAt_3b067 : jMs yJ1_charAt_3b067 cJ1_charAt_3b067 2 (some FieldType.char) 2 := ⟨⟨bg2 181 (by decide +kernel), ini_RJ1, by decide +kernel⟩, bg2 180 (by decide +kernel)⟩
set_option maxRecDepth 100000 in
theorem mi_yJ0_checkIndex_df160 : jMs yJ0_checkIndex_df160 cJ0_checkIndex_df160 2 (none : Option FieldType) 2 := ⟨⟨bg2 184 (by decide +kernel), ini_RJ0, by decide +kernel⟩, bg2 183 (by decide +kernel)⟩
set_option maxRecDepth 100000 in
theorem mi_yJ3_checkIndex_8e157 : jMs yJ3_checkIndex_8e157 cJ3_checkIndex_8e157 3 (some FieldType.int) 3 := ⟨⟨bg2 189 (by decide +kernel), ini_RJ3, by decide +kernel⟩, bg2 188 (by decide +kernel)⟩
set_option maxRecDepth 100000 in
theorem mi_yJ2_charAt_3b067 : jMs yJ2_charAt_3b067 cJ2_charAt_3b067 2 (some FieldType.char) 2 := ⟨⟨bg2 192 (by decide +kernel), ini_RJ2, by decide +kernel⟩, bg2 191 (by decide +kernel)⟩
set_option maxRecDepth 100000 in
theorem mi_yJ2_checkIndex_2214a : jMs yJ2_checkIndex_2214a cJ2_checkIndex_2214a 2 (none : Option FieldType) 2 := ⟨⟨bg2 195 (by decide +kernel), ini_RJ2, by decide +kernel⟩, bg2 194 (by decide +kernel)⟩
set_option maxRecDepth 100000 in
theorem mi_yJ2_length_9d52b : jMs yJ2_length_9d52b cJ2_length_9d52b 1 (some FieldType.int) 1 := ⟨⟨bg2 198 (by decide +kernel), ini_RJ2, by decide +kernel⟩, bg2 197 (by decide +kernel)⟩
set_option maxRecDepth 100000 in
theorem mi_yJ2_getChar_3b067 : jMs yJ2_getChar_3b067 cJ2_getChar_3b067 2 (some FieldType.char) 2 := ⟨⟨bg2 202 (by decide +kernel), ini_RJ2, by decide +kernel⟩, bg2 201 (by decide +kernel)⟩
set_option maxRecDepth 100000 in
theorem mi_yX7_count : jMv yX7_count cX7_count 2 (some FieldType.int) 1 := ⟨⟨bg2 212 (by decide +kernel), ini_RX7, by decide +kernel⟩, bg2 210 (by decide +kernel), bg2 211 (by decide +kernel)⟩
set_option maxRecDepth 100000 in
theorem mi_yX8_mostOf : jMs yX8_mostOf cX8_mostOf 1 (some FieldType.int) 1 := ⟨⟨bg2 215 (by decide +kernel), ini_RX8, by decide +kernel⟩, bg2 214 (by decide +kernel)⟩
set_option maxRecDepth 100000 in
theorem mi_yX8_refuse : jMv yX8_refuse cX8_refuse 1 (none : Option FieldType) 0 := ⟨⟨bg2 219 (by decide +kernel), ini_RX8, by decide +kernel⟩, bg2 218 (by decide +kernel), bg 3 (by decide +kernel)⟩
set_option maxRecDepth 100000 in
theorem mi_yX8_readTier : jMv yX8_readTier cX8_readTier 5 (none : Option FieldType) 0 := ⟨⟨bg2 223 (by decide +kernel), ini_RX8, by decide +kernel⟩, bg2 222 (by decide +kernel), bg 4 (by decide +kernel)⟩
set_option maxRecDepth 100000 in
theorem mi_yX8_readNewName : jMv yX8_readNewName cX8_readNewName 2 (some FieldType.int) 0 := ⟨⟨bg2 227 (by decide +kernel), ini_RX8, by decide +kernel⟩, bg2 226 (by decide +kernel), bg 5 (by decide +kernel)⟩
set_option maxRecDepth 100000 in
theorem mi_yX3_nameCode : jMv yX3_nameCode cX3_nameCode 5 (some FieldType.int) 2 := ⟨⟨bg2 231 (by decide +kernel), ini_RX3, by decide +kernel⟩, bg2 229 (by decide +kernel), bg2 230 (by decide +kernel)⟩
set_option maxRecDepth 100000 in
theorem mi_yX7_isTaken : jMv yX7_isTaken cX7_isTaken 2 (some FieldType.boolean) 1 := ⟨⟨bg2 237 (by decide +kernel), ini_RX7, by decide +kernel⟩, bg2 235 (by decide +kernel), bg2 236 (by decide +kernel)⟩
set_option maxRecDepth 100000 in
theorem mi_yX6_contains : jMv yX6_contains cX6_contains 3 (some FieldType.boolean) 1 := ⟨⟨bg3 1 (by decide +kernel), ini_RX6, by decide +kernel⟩, bg2 239 (by decide +kernel), bg3 0 (by decide +kernel)⟩
set_option maxRecDepth 100000 in
theorem mi_yX8_readNumber : jMv yX8_readNumber cX8_readNumber 5 (some FieldType.int) 2 := ⟨⟨bg3 5 (by decide +kernel), ini_RX8, by decide +kernel⟩, bg3 4 (by decide +kernel), bg 6 (by decide +kernel)⟩
set_option maxRecDepth 100000 in
theorem mi_yX7_thresholdOf : jMv yX7_thresholdOf cX7_thresholdOf 2 (some FieldType.int) 1 := ⟨⟨bg3 9 (by decide +kernel), ini_RX7, by decide +kernel⟩, bg3 7 (by decide +kernel), bg3 8 (by decide +kernel)⟩
set_option maxRecDepth 100000 in
theorem mi_yX7_addTier : jMv yX7_addTier cX7_addTier 5 (none : Option FieldType) 3 := ⟨⟨bg3 14 (by decide +kernel), ini_RX7, by decide +kernel⟩, bg3 12 (by decide +kernel), bg3 13 (by decide +kernel)⟩
set_option maxRecDepth 100000 in
theorem mi_yX7_define : jMv yX7_define cX7_define 4 (some FieldType.int) 2 := ⟨⟨bg3 18 (by decide +kernel), ini_RX7, by decide +kernel⟩, bg3 17 (by decide +kernel), bg 7 (by decide +kernel)⟩
set_option maxRecDepth 100000 in
theorem mi_yX8_readCategory : jMv yX8_readCategory cX8_readCategory 4 (none : Option FieldType) 0 := ⟨⟨bg3 22 (by decide +kernel), ini_RX8, by decide +kernel⟩, bg3 21 (by decide +kernel), bg 8 (by decide +kernel)⟩
set_option maxRecDepth 100000 in
theorem mi_yX7_addCategory : jMv yX7_addCategory cX7_addCategory 5 (none : Option FieldType) 3 := ⟨⟨bg3 27 (by decide +kernel), ini_RX7, by decide +kernel⟩, bg3 25 (by decide +kernel), bg3 26 (by decide +kernel)⟩
set_option maxRecDepth 100000 in
theorem mi_yX8_readPromo : jMv yX8_readPromo cX8_readPromo 5 (none : Option FieldType) 0 := ⟨⟨bg3 31 (by decide +kernel), ini_RX8, by decide +kernel⟩, bg3 30 (by decide +kernel), bg 9 (by decide +kernel)⟩
set_option maxRecDepth 100000 in
theorem mi_yX8_readCategoryName : jMv yX8_readCategoryName cX8_readCategoryName 2 (some FieldType.int) 0 := ⟨⟨bg3 35 (by decide +kernel), ini_RX8, by decide +kernel⟩, bg3 34 (by decide +kernel), bg 10 (by decide +kernel)⟩
set_option maxRecDepth 100000 in
theorem mi_yX7_numberOf : jMv yX7_numberOf cX7_numberOf 4 (some FieldType.int) 2 := ⟨⟨bg3 39 (by decide +kernel), ini_RX7, by decide +kernel⟩, bg3 37 (by decide +kernel), bg3 38 (by decide +kernel)⟩
set_option maxRecDepth 100000 in
theorem mi_yX7_addPromo : jMv yX7_addPromo cX7_addPromo 6 (none : Option FieldType) 4 := ⟨⟨bg3 43 (by decide +kernel), ini_RX7, by decide +kernel⟩, bg3 41 (by decide +kernel), bg3 42 (by decide +kernel)⟩
set_option maxRecDepth 100000 in
theorem mi_yX8_readMember : jMv yX8_readMember cX8_readMember 2 (none : Option FieldType) 0 := ⟨⟨bg3 47 (by decide +kernel), ini_RX8, by decide +kernel⟩, bg3 46 (by decide +kernel), bg 11 (by decide +kernel)⟩
set_option maxRecDepth 100000 in
theorem mi_yX7_addMember : jMv yX7_addMember cX7_addMember 2 (none : Option FieldType) 1 := ⟨⟨bg3 51 (by decide +kernel), ini_RX7, by decide +kernel⟩, bg3 49 (by decide +kernel), bg3 50 (by decide +kernel)⟩
set_option maxRecDepth 100000 in
theorem mi_yX8_readHouse : jMv yX8_readHouse cX8_readHouse 3 (none : Option FieldType) 0 := ⟨⟨bg3 55 (by decide +kernel), ini_RX8, by decide +kernel⟩, bg3 54 (by decide +kernel), bg 12 (by decide +kernel)⟩
set_option maxRecDepth 100000 in
theorem mi_yX7_addHouse : jMv yX7_addHouse cX7_addHouse 3 (none : Option FieldType) 2 := ⟨⟨bg3 59 (by decide +kernel), ini_RX7, by decide +kernel⟩, bg3 57 (by decide +kernel), bg3 58 (by decide +kernel)⟩
set_option maxRecDepth 100000 in
theorem mi_yX8_readPeriod : jMv yX8_readPeriod cX8_readPeriod 3 (none : Option FieldType) 1 := ⟨⟨bg3 63 (by decide +kernel), ini_RX8, by decide +kernel⟩, bg3 62 (by decide +kernel), bg 13 (by decide +kernel)⟩
set_option maxRecDepth 100000 in
theorem mi_yX7_fixLife : jMv yX7_fixLife cX7_fixLife 2 (none : Option FieldType) 1 := ⟨⟨bg3 67 (by decide +kernel), ini_RX7, by decide +kernel⟩, bg3 65 (by decide +kernel), bg3 66 (by decide +kernel)⟩
set_option maxRecDepth 100000 in
theorem mi_yX7_fixWindow : jMv yX7_fixWindow cX7_fixWindow 2 (none : Option FieldType) 1 := ⟨⟨bg3 71 (by decide +kernel), ini_RX7, by decide +kernel⟩, bg3 69 (by decide +kernel), bg3 70 (by decide +kernel)⟩
set_option maxRecDepth 100000 in
theorem mi_yX7_fixGrace : jMv yX7_fixGrace cX7_fixGrace 2 (none : Option FieldType) 1 := ⟨⟨bg3 75 (by decide +kernel), ini_RX7, by decide +kernel⟩, bg3 73 (by decide +kernel), bg3 74 (by decide +kernel)⟩
set_option maxRecDepth 100000 in
theorem mi_yX10_purchase : jMv yX10_purchase cX10_purchase 4 (some FieldType.int) 3 := ⟨⟨bg3 81 (by decide +kernel), ini_RX10, by decide +kernel⟩, bg3 79 (by decide +kernel), bg3 80 (by decide +kernel)⟩
set_option maxRecDepth 100000 in
theorem mi_yX10_needMember : jMv yX10_needMember cX10_needMember 2 (none : Option FieldType) 1 := ⟨⟨bg3 85 (by decide +kernel), ini_RX10, by decide +kernel⟩, bg3 84 (by decide +kernel), bg 14 (by decide +kernel)⟩
set_option maxRecDepth 100000 in
theorem mi_yX10_needCategory : jMv yX10_needCategory cX10_needCategory 2 (none : Option FieldType) 1 := ⟨⟨bg3 158 (by decide +kernel), ini_RX10, by decide +kernel⟩, bg3 157 (by decide +kernel), bg 16 (by decide +kernel)⟩
set_option maxRecDepth 100000 in
theorem mi_yX10_needBetween : jMs yX10_needBetween cX10_needBetween 3 (none : Option FieldType) 3 := ⟨⟨bg3 163 (by decide +kernel), ini_RX10, by decide +kernel⟩, bg3 162 (by decide +kernel)⟩
set_option maxRecDepth 100000 in
theorem mi_yX2_keep : jMv yX2_keep cX2_keep 3 (none : Option FieldType) 1 := ⟨⟨bg3 183 (by decide +kernel), ini_RX2, by decide +kernel⟩, bg3 181 (by decide +kernel), bg3 182 (by decide +kernel)⟩
set_option maxRecDepth 100000 in
theorem mi_yX2_newestSlot : jMv yX2_newestSlot cX2_newestSlot 1 (some (FieldType.object "PointsLedger$Books")) 0 := ⟨⟨bg3 187 (by decide +kernel), ini_RX2, by decide +kernel⟩, bg3 186 (by decide +kernel), bg 17 (by decide +kernel)⟩
set_option maxRecDepth 100000 in
theorem mi_yX0_copyFrom : jMv yX0_copyFrom cX0_copyFrom 2 (none : Option FieldType) 1 := ⟨⟨bg3 191 (by decide +kernel), ini_RX0, by decide +kernel⟩, bg3 189 (by decide +kernel), bg3 190 (by decide +kernel)⟩
set_option maxRecDepth 100000 in
theorem mi_yX1_copyFrom : jMv yX1_copyFrom cX1_copyFrom 2 (none : Option FieldType) 1 := ⟨⟨bg3 195 (by decide +kernel), ini_RX1, by decide +kernel⟩, bg3 193 (by decide +kernel), bg3 194 (by decide +kernel)⟩
set_option maxRecDepth 100000 in
theorem mi_yX6_copyFirst : jMv yX6_copyFirst cX6_copyFirst 4 (none : Option FieldType) 2 := ⟨⟨bg3 199 (by decide +kernel), ini_RX6, by decide +kernel⟩, bg3 197 (by decide +kernel), bg3 198 (by decide +kernel)⟩
set_option maxRecDepth 100000 in
theorem mi_yJ9_min_7cf53 : jMs yJ9_min_7cf53 cJ9_min_7cf53 2 (some FieldType.int) 2 := ⟨⟨bg3 202 (by decide +kernel), ini_RJ9, by decide +kernel⟩, bg3 201 (by decide +kernel)⟩
set_option maxRecDepth 100000 in
theorem mi_yX5_copyFrom : jMv yX5_copyFrom cX5_copyFrom 2 (none : Option FieldType) 1 := ⟨⟨bg3 209 (by decide +kernel), ini_RX5, by decide +kernel⟩, bg3 207 (by decide +kernel), bg3 208 (by decide +kernel)⟩
set_option maxRecDepth 100000 in
theorem mi_yX4_copyFrom : jMv yX4_copyFrom cX4_copyFrom 2 (none : Option FieldType) 1 := ⟨⟨bg3 214 (by decide +kernel), ini_RX4, by decide +kernel⟩, bg3 212 (by decide +kernel), bg3 213 (by decide +kernel)⟩
set_option maxRecDepth 100000 in
theorem mi_yX6_copyAll : jMv yX6_copyAll cX6_copyAll 2 (none : Option FieldType) 1 := ⟨⟨bg3 218 (by decide +kernel), ini_RX6, by decide +kernel⟩, bg3 216 (by decide +kernel), bg3 217 (by decide +kernel)⟩
set_option maxRecDepth 100000 in
theorem mi_yX0_recordPurchase : jMv yX0_recordPurchase cX0_recordPurchase 9 (some FieldType.int) 3 := ⟨⟨bg3 225 (by decide +kernel), ini_RX0, by decide +kernel⟩, bg3 223 (by decide +kernel), bg3 224 (by decide +kernel)⟩
set_option maxRecDepth 100000 in
theorem mi_yX7_baseOf : jMv yX7_baseOf cX7_baseOf 5 (some FieldType.int) 2 := ⟨⟨bg3 229 (by decide +kernel), ini_RX7, by decide +kernel⟩, bg3 227 (by decide +kernel), bg3 228 (by decide +kernel)⟩
set_option maxRecDepth 100000 in
theorem mi_yX0_worth : jMv yX0_worth cX0_worth 5 (some FieldType.int) 3 := ⟨⟨bg3 234 (by decide +kernel), ini_RX0, by decide +kernel⟩, bg3 232 (by decide +kernel), bg3 233 (by decide +kernel)⟩
set_option maxRecDepth 100000 in
theorem mi_yX7_bonusOf : jMv yX7_bonusOf cX7_bonusOf 2 (some FieldType.int) 1 := ⟨⟨bg3 239 (by decide +kernel), ini_RX7, by decide +kernel⟩, bg3 237 (by decide +kernel), bg3 238 (by decide +kernel)⟩
set_option maxRecDepth 100000 in
theorem mi_yX7_extrasOn : jMv yX7_extrasOn cX7_extrasOn 5 (some FieldType.int) 2 := ⟨⟨bg4 3 (by decide +kernel), ini_RX7, by decide +kernel⟩, bg4 1 (by decide +kernel), bg4 2 (by decide +kernel)⟩
set_option maxRecDepth 100000 in
theorem mi_yX5_add : jMv yX5_add cX5_add 8 (none : Option FieldType) 6 := ⟨⟨bg4 7 (by decide +kernel), ini_RX5, by decide +kernel⟩, bg4 5 (by decide +kernel), bg4 6 (by decide +kernel)⟩
set_option maxRecDepth 100000 in
theorem mi_yX6_increase : jMv yX6_increase cX6_increase 3 (none : Option FieldType) 2 := ⟨⟨bg4 12 (by decide +kernel), ini_RX6, by decide +kernel⟩, bg4 10 (by decide +kernel), bg4 11 (by decide +kernel)⟩
set_option maxRecDepth 100000 in
theorem mi_yX7_life : jMv yX7_life cX7_life 1 (some FieldType.int) 0 := ⟨⟨bg4 16 (by decide +kernel), ini_RX7, by decide +kernel⟩, bg4 14 (by decide +kernel), bg4 15 (by decide +kernel)⟩
set_option maxRecDepth 100000 in
theorem mi_yX10_poolList : jMs yX10_poolList cX10_poolList 1 (some FieldType.int) 1 := ⟨⟨bg4 19 (by decide +kernel), ini_RX10, by decide +kernel⟩, bg4 18 (by decide +kernel)⟩
set_option maxRecDepth 100000 in
theorem mi_yX1_put : jMv yX1_put cX1_put 7 (none : Option FieldType) 4 := ⟨⟨bg4 23 (by decide +kernel), ini_RX1, by decide +kernel⟩, bg4 21 (by decide +kernel), bg4 22 (by decide +kernel)⟩
set_option maxRecDepth 100000 in
theorem mi_yX1_isBefore : jMv yX1_isBefore cX1_isBefore 5 (some FieldType.boolean) 4 := ⟨⟨bg4 27 (by decide +kernel), ini_RX1, by decide +kernel⟩, bg4 26 (by decide +kernel), bg 18 (by decide +kernel)⟩
set_option maxRecDepth 100000 in
theorem mi_yX1_shift : jMv yX1_shift cX1_shift 3 (none : Option FieldType) 2 := ⟨⟨bg4 33 (by decide +kernel), ini_RX1, by decide +kernel⟩, bg4 32 (by decide +kernel), bg 19 (by decide +kernel)⟩
set_option maxRecDepth 100000 in
theorem mi_yX6_move : jMv yX6_move cX6_move 5 (none : Option FieldType) 3 := ⟨⟨bg4 37 (by decide +kernel), ini_RX6, by decide +kernel⟩, bg4 35 (by decide +kernel), bg4 36 (by decide +kernel)⟩
set_option maxRecDepth 100000 in
theorem mi_yX0_credit : jMv yX0_credit cX0_credit 5 (some FieldType.int) 3 := ⟨⟨bg4 42 (by decide +kernel), ini_RX0, by decide +kernel⟩, bg4 41 (by decide +kernel), bg 20 (by decide +kernel)⟩
set_option maxRecDepth 100000 in
theorem mi_yX4_add : jMv yX4_add cX4_add 6 (none : Option FieldType) 4 := ⟨⟨bg4 47 (by decide +kernel), ini_RX4, by decide +kernel⟩, bg4 45 (by decide +kernel), bg4 46 (by decide +kernel)⟩
set_option maxRecDepth 100000 in
theorem mi_yX0_checkTier : jMv yX0_checkTier cX0_checkTier 3 (none : Option FieldType) 1 := ⟨⟨bg4 53 (by decide +kernel), ini_RX0, by decide +kernel⟩, bg4 52 (by decide +kernel), bg 21 (by decide +kernel)⟩
set_option maxRecDepth 100000 in
theorem mi_yX9_start : jMv yX9_start cX9_start 3 (none : Option FieldType) 2 := ⟨⟨bg4 57 (by decide +kernel), ini_RX9, by decide +kernel⟩, bg4 55 (by decide +kernel), bg4 56 (by decide +kernel)⟩
set_option maxRecDepth 100000 in
theorem mi_yX7_tierFor : jMv yX7_tierFor cX7_tierFor 4 (some FieldType.int) 1 := ⟨⟨bg4 61 (by decide +kernel), ini_RX7, by decide +kernel⟩, bg4 59 (by decide +kernel), bg4 60 (by decide +kernel)⟩
set_option maxRecDepth 100000 in
theorem mi_yX7_grace : jMv yX7_grace cX7_grace 1 (some FieldType.int) 0 := ⟨⟨bg4 65 (by decide +kernel), ini_RX7, by decide +kernel⟩, bg4 63 (by decide +kernel), bg4 64 (by decide +kernel)⟩
set_option maxRecDepth 100000 in
theorem mi_yX9_check : jMv yX9_check cX9_check 4 (none : Option FieldType) 3 := ⟨⟨bg4 69 (by decide +kernel), ini_RX9, by decide +kernel⟩, bg4 67 (by decide +kernel), bg4 68 (by decide +kernel)⟩
set_option maxRecDepth 100000 in
theorem mi_yX9_presentTier : jMv yX9_presentTier cX9_presentTier 1 (some FieldType.int) 0 := ⟨⟨bg4 73 (by decide +kernel), ini_RX9, by decide +kernel⟩, bg4 71 (by decide +kernel), bg4 72 (by decide +kernel)⟩
set_option maxRecDepth 100000 in
theorem mi_yX9_belowDay : jMv yX9_belowDay cX9_belowDay 1 (some FieldType.int) 0 := ⟨⟨bg4 77 (by decide +kernel), ini_RX9, by decide +kernel⟩, bg4 75 (by decide +kernel), bg4 76 (by decide +kernel)⟩
set_option maxRecDepth 100000 in
theorem mi_yX10_setShare : jMv yX10_setShare cX10_setShare 3 (some FieldType.int) 2 := ⟨⟨bg4 81 (by decide +kernel), ini_RX10, by decide +kernel⟩, bg4 79 (by decide +kernel), bg4 80 (by decide +kernel)⟩
set_option maxRecDepth 100000 in
theorem mi_yX10_needHousehold : jMv yX10_needHousehold cX10_needHousehold 2 (none : Option FieldType) 1 := ⟨⟨bg4 85 (by decide +kernel), ini_RX10, by decide +kernel⟩, bg4 84 (by decide +kernel), bg 22 (by decide +kernel)⟩
set_option maxRecDepth 100000 in
theorem mi_yX0_replaceShare : jMv yX0_replaceShare cX0_replaceShare 4 (some FieldType.int) 2 := ⟨⟨bg4 90 (by decide +kernel), ini_RX0, by decide +kernel⟩, bg4 88 (by decide +kernel), bg4 89 (by decide +kernel)⟩
set_option maxRecDepth 100000 in
theorem mi_yX10_advance : jMv yX10_advance cX10_advance 2 (some FieldType.int) 1 := ⟨⟨bg4 94 (by decide +kernel), ini_RX10, by decide +kernel⟩, bg4 92 (by decide +kernel), bg4 93 (by decide +kernel)⟩
set_option maxRecDepth 100000 in
theorem mi_yX0_day : jMv yX0_day cX0_day 1 (some FieldType.int) 0 := ⟨⟨bg4 98 (by decide +kernel), ini_RX0, by decide +kernel⟩, bg4 96 (by decide +kernel), bg4 97 (by decide +kernel)⟩
set_option maxRecDepth 100000 in
theorem mi_yX0_passDays : jMv yX0_passDays cX0_passDays 5 (some FieldType.int) 1 := ⟨⟨bg4 102 (by decide +kernel), ini_RX0, by decide +kernel⟩, bg4 100 (by decide +kernel), bg4 101 (by decide +kernel)⟩
set_option maxRecDepth 100000 in
theorem mi_yX0_expire : jMv yX0_expire cX0_expire 3 (some FieldType.int) 0 := ⟨⟨bg4 106 (by decide +kernel), ini_RX0, by decide +kernel⟩, bg4 105 (by decide +kernel), bg 23 (by decide +kernel)⟩
set_option maxRecDepth 100000 in
theorem mi_yX1_expire : jMv yX1_expire cX1_expire 5 (none : Option FieldType) 2 := ⟨⟨bg4 110 (by decide +kernel), ini_RX1, by decide +kernel⟩, bg4 108 (by decide +kernel), bg4 109 (by decide +kernel)⟩
set_option maxRecDepth 100000 in
theorem mi_yX6_sumFrom : jMv yX6_sumFrom cX6_sumFrom 4 (some FieldType.int) 1 := ⟨⟨bg4 114 (by decide +kernel), ini_RX6, by decide +kernel⟩, bg4 112 (by decide +kernel), bg4 113 (by decide +kernel)⟩
set_option maxRecDepth 100000 in
theorem mi_yJ9_max_7cf53 : jMs yJ9_max_7cf53 cJ9_max_7cf53 2 (some FieldType.int) 2 := ⟨⟨bg4 117 (by decide +kernel), ini_RJ9, by decide +kernel⟩, bg4 116 (by decide +kernel)⟩
set_option maxRecDepth 100000 in
theorem mi_yX0_shrinkWindow : jMv yX0_shrinkWindow cX0_shrinkWindow 3 (none : Option FieldType) 0 := ⟨⟨bg4 121 (by decide +kernel), ini_RX0, by decide +kernel⟩, bg4 120 (by decide +kernel), bg 24 (by decide +kernel)⟩
set_option maxRecDepth 100000 in
theorem mi_yX7_window : jMv yX7_window cX7_window 1 (some FieldType.int) 0 := ⟨⟨bg4 125 (by decide +kernel), ini_RX7, by decide +kernel⟩, bg4 123 (by decide +kernel), bg4 124 (by decide +kernel)⟩
set_option maxRecDepth 100000 in
theorem mi_yX5_firstAfter : jMv yX5_firstAfter cX5_firstAfter 4 (some FieldType.int) 2 := ⟨⟨bg4 129 (by decide +kernel), ini_RX5, by decide +kernel⟩, bg4 127 (by decide +kernel), bg4 128 (by decide +kernel)⟩
set_option maxRecDepth 100000 in
theorem mi_yX5_part : jMv yX5_part cX5_part 3 (some FieldType.int) 2 := ⟨⟨bg4 133 (by decide +kernel), ini_RX5, by decide +kernel⟩, bg4 131 (by decide +kernel), bg4 132 (by decide +kernel)⟩
set_option maxRecDepth 100000 in
theorem mi_yX5_basesOf : jMv yX5_basesOf cX5_basesOf 6 (some FieldType.int) 3 := ⟨⟨bg4 139 (by decide +kernel), ini_RX5, by decide +kernel⟩, bg4 137 (by decide +kernel), bg4 138 (by decide +kernel)⟩
set_option maxRecDepth 100000 in
theorem mi_yX10_setup : jMv yX10_setup cX10_setup 2 (some FieldType.int) 1 := ⟨⟨bg4 143 (by decide +kernel), ini_RX10, by decide +kernel⟩, bg4 141 (by decide +kernel), bg4 142 (by decide +kernel)⟩
set_option maxRecDepth 100000 in
theorem mi_yX10_threshold : jMv yX10_threshold cX10_threshold 2 (some FieldType.int) 1 := ⟨⟨bg4 150 (by decide +kernel), ini_RX10, by decide +kernel⟩, bg4 148 (by decide +kernel), bg4 149 (by decide +kernel)⟩
set_option maxRecDepth 100000 in
theorem mi_yX10_today : jMv yX10_today cX10_today 1 (some FieldType.int) 0 := ⟨⟨bg4 156 (by decide +kernel), ini_RX10, by decide +kernel⟩, bg4 154 (by decide +kernel), bg4 155 (by decide +kernel)⟩
set_option maxRecDepth 100000 in
theorem mi_yX10_balance : jMv yX10_balance cX10_balance 2 (some FieldType.int) 1 := ⟨⟨bg4 160 (by decide +kernel), ini_RX10, by decide +kernel⟩, bg4 158 (by decide +kernel), bg4 159 (by decide +kernel)⟩
set_option maxRecDepth 100000 in
theorem mi_yX0_cohorts : jMv yX0_cohorts cX0_cohorts 1 (some (FieldType.object "PointsLedger$Cohorts")) 0 := ⟨⟨bg4 164 (by decide +kernel), ini_RX0, by decide +kernel⟩, bg4 162 (by decide +kernel), bg4 163 (by decide +kernel)⟩
set_option maxRecDepth 100000 in
theorem mi_yX1_sum : jMv yX1_sum cX1_sum 5 (some FieldType.int) 2 := ⟨⟨bg4 168 (by decide +kernel), ini_RX1, by decide +kernel⟩, bg4 166 (by decide +kernel), bg4 167 (by decide +kernel)⟩
set_option maxRecDepth 100000 in
theorem mi_yX1_isIn : jMv yX1_isIn cX1_isIn 3 (some FieldType.boolean) 2 := ⟨⟨bg4 172 (by decide +kernel), ini_RX1, by decide +kernel⟩, bg4 170 (by decide +kernel), bg4 171 (by decide +kernel)⟩
set_option maxRecDepth 100000 in
theorem mi_yX10_debt : jMv yX10_debt cX10_debt 2 (some FieldType.int) 1 := ⟨⟨bg4 176 (by decide +kernel), ini_RX10, by decide +kernel⟩, bg4 174 (by decide +kernel), bg4 175 (by decide +kernel)⟩
set_option maxRecDepth 100000 in
theorem mi_yX0_debtOf : jMv yX0_debtOf cX0_debtOf 2 (some FieldType.int) 1 := ⟨⟨bg4 180 (by decide +kernel), ini_RX0, by decide +kernel⟩, bg4 178 (by decide +kernel), bg4 179 (by decide +kernel)⟩
set_option maxRecDepth 100000 in
theorem mi_yX10_available : jMv yX10_available cX10_available 2 (some FieldType.int) 1 := ⟨⟨bg4 184 (by decide +kernel), ini_RX10, by decide +kernel⟩, bg4 182 (by decide +kernel), bg4 183 (by decide +kernel)⟩
set_option maxRecDepth 100000 in
theorem mi_yX0_redeemable : jMv yX0_redeemable cX0_redeemable 2 (some FieldType.int) 1 := ⟨⟨bg4 188 (by decide +kernel), ini_RX0, by decide +kernel⟩, bg4 186 (by decide +kernel), bg4 187 (by decide +kernel)⟩
set_option maxRecDepth 100000 in
theorem mi_yX0_poolOf : jMv yX0_poolOf cX0_poolOf 2 (some FieldType.int) 1 := ⟨⟨bg4 193 (by decide +kernel), ini_RX0, by decide +kernel⟩, bg4 191 (by decide +kernel), bg4 192 (by decide +kernel)⟩
set_option maxRecDepth 100000 in
theorem mi_yX10_household : jMv yX10_household cX10_household 2 (some FieldType.int) 1 := ⟨⟨bg4 197 (by decide +kernel), ini_RX10, by decide +kernel⟩, bg4 195 (by decide +kernel), bg4 196 (by decide +kernel)⟩
set_option maxRecDepth 100000 in
theorem mi_yX0_homeOf : jMv yX0_homeOf cX0_homeOf 2 (some FieldType.int) 1 := ⟨⟨bg4 201 (by decide +kernel), ini_RX0, by decide +kernel⟩, bg4 199 (by decide +kernel), bg4 200 (by decide +kernel)⟩
set_option maxRecDepth 100000 in
theorem mi_yX10_members : jMv yX10_members cX10_members 2 (some FieldType.int) 1 := ⟨⟨bg4 205 (by decide +kernel), ini_RX10, by decide +kernel⟩, bg4 203 (by decide +kernel), bg4 204 (by decide +kernel)⟩
set_option maxRecDepth 100000 in
theorem mi_yX0_memberBits : jMv yX0_memberBits cX0_memberBits 4 (some FieldType.int) 1 := ⟨⟨bg4 209 (by decide +kernel), ini_RX0, by decide +kernel⟩, bg4 207 (by decide +kernel), bg4 208 (by decide +kernel)⟩
set_option maxRecDepth 100000 in
theorem mi_yX10_poolBalance : jMv yX10_poolBalance cX10_poolBalance 2 (some FieldType.int) 1 := ⟨⟨bg4 213 (by decide +kernel), ini_RX10, by decide +kernel⟩, bg4 211 (by decide +kernel), bg4 212 (by decide +kernel)⟩
set_option maxRecDepth 100000 in
theorem mi_yX10_contributed : jMv yX10_contributed cX10_contributed 2 (some FieldType.int) 1 := ⟨⟨bg4 218 (by decide +kernel), ini_RX10, by decide +kernel⟩, bg4 216 (by decide +kernel), bg4 217 (by decide +kernel)⟩
set_option maxRecDepth 100000 in
theorem mi_yX10_total : jMv yX10_total cX10_total 2 (some FieldType.int) 1 := ⟨⟨bg4 223 (by decide +kernel), ini_RX10, by decide +kernel⟩, bg4 221 (by decide +kernel), bg4 222 (by decide +kernel)⟩
set_option maxRecDepth 100000 in
theorem mi_yX0_totalOf : jMv yX0_totalOf cX0_totalOf 2 (some FieldType.int) 1 := ⟨⟨bg4 227 (by decide +kernel), ini_RX0, by decide +kernel⟩, bg4 225 (by decide +kernel), bg4 226 (by decide +kernel)⟩
set_option maxRecDepth 100000 in
theorem mi_yX10_tier : jMv yX10_tier cX10_tier 2 (some FieldType.int) 1 := ⟨⟨bg4 231 (by decide +kernel), ini_RX10, by decide +kernel⟩, bg4 229 (by decide +kernel), bg4 230 (by decide +kernel)⟩
set_option maxRecDepth 100000 in
theorem mi_yX0_tierOf : jMv yX0_tierOf cX0_tierOf 2 (some FieldType.int) 1 := ⟨⟨bg4 235 (by decide +kernel), ini_RX0, by decide +kernel⟩, bg4 233 (by decide +kernel), bg4 234 (by decide +kernel)⟩
set_option maxRecDepth 100000 in
theorem mi_yX10_tierAfter : jMv yX10_tierAfter cX10_tierAfter 3 (some FieldType.int) 2 := ⟨⟨bg4 239 (by decide +kernel), ini_RX10, by decide +kernel⟩, bg4 237 (by decide +kernel), bg4 238 (by decide +kernel)⟩
set_option maxRecDepth 100000 in
theorem mi_yX0_futureTier : jMv yX0_futureTier cX0_futureTier 7 (some FieldType.int) 2 := ⟨⟨bg5 3 (by decide +kernel), ini_RX0, by decide +kernel⟩, bg5 1 (by decide +kernel), bg5 2 (by decide +kernel)⟩
set_option maxRecDepth 100000 in
theorem mi_yX10_wouldEarn : jMv yX10_wouldEarn cX10_wouldEarn 4 (some FieldType.int) 3 := ⟨⟨bg5 7 (by decide +kernel), ini_RX10, by decide +kernel⟩, bg5 5 (by decide +kernel), bg5 6 (by decide +kernel)⟩
set_option maxRecDepth 100000 in
theorem mi_yX10_purchaseCount : jMv yX10_purchaseCount cX10_purchaseCount 1 (some FieldType.int) 0 := ⟨⟨bg5 12 (by decide +kernel), ini_RX10, by decide +kernel⟩, bg5 10 (by decide +kernel), bg5 11 (by decide +kernel)⟩
set_option maxRecDepth 100000 in
theorem mi_yX0_purchases : jMv yX0_purchases cX0_purchases 1 (some (FieldType.object "PointsLedger$Purchases")) 0 := ⟨⟨bg5 16 (by decide +kernel), ini_RX0, by decide +kernel⟩, bg5 14 (by decide +kernel), bg5 15 (by decide +kernel)⟩
set_option maxRecDepth 100000 in
theorem mi_yX5_count : jMv yX5_count cX5_count 1 (some FieldType.int) 0 := ⟨⟨bg5 20 (by decide +kernel), ini_RX5, by decide +kernel⟩, bg5 18 (by decide +kernel), bg5 19 (by decide +kernel)⟩
set_option maxRecDepth 100000 in
theorem mi_yX10_purchasePart : jMv yX10_purchasePart cX10_purchasePart 3 (some FieldType.int) 2 := ⟨⟨bg5 24 (by decide +kernel), ini_RX10, by decide +kernel⟩, bg5 22 (by decide +kernel), bg5 23 (by decide +kernel)⟩
set_option maxRecDepth 100000 in
theorem mi_yX10_needKeptPurchase : jMv yX10_needKeptPurchase cX10_needKeptPurchase 2 (none : Option FieldType) 1 := ⟨⟨bg5 28 (by decide +kernel), ini_RX10, by decide +kernel⟩, bg5 27 (by decide +kernel), bg 25 (by decide +kernel)⟩
set_option maxRecDepth 100000 in
theorem mi_yX5_isKept : jMv yX5_isKept cX5_isKept 2 (some FieldType.boolean) 1 := ⟨⟨bg5 32 (by decide +kernel), ini_RX5, by decide +kernel⟩, bg5 30 (by decide +kernel), bg5 31 (by decide +kernel)⟩
set_option maxRecDepth 100000 in
theorem mi_yX10_expiringWithin : jMv yX10_expiringWithin cX10_expiringWithin 3 (some FieldType.int) 2 := ⟨⟨bg5 53 (by decide +kernel), ini_RX10, by decide +kernel⟩, bg5 51 (by decide +kernel), bg5 52 (by decide +kernel)⟩
set_option maxRecDepth 100000 in
theorem mi_yX1_sumUntil : jMv yX1_sumUntil cX1_sumUntil 5 (some FieldType.int) 2 := ⟨⟨bg5 57 (by decide +kernel), ini_RX1, by decide +kernel⟩, bg5 55 (by decide +kernel), bg5 56 (by decide +kernel)⟩
set_option maxRecDepth 100000 in
theorem mi_yX10_undo : jMv yX10_undo cX10_undo 1 (some FieldType.int) 0 := ⟨⟨bg5 61 (by decide +kernel), ini_RX10, by decide +kernel⟩, bg5 59 (by decide +kernel), bg5 60 (by decide +kernel)⟩
set_option maxRecDepth 100000 in
theorem mi_yX2_count : jMv yX2_count cX2_count 1 (some FieldType.int) 0 := ⟨⟨bg5 65 (by decide +kernel), ini_RX2, by decide +kernel⟩, bg5 63 (by decide +kernel), bg5 64 (by decide +kernel)⟩
set_option maxRecDepth 100000 in
theorem mi_yX2_giveBack : jMv yX2_giveBack cX2_giveBack 3 (none : Option FieldType) 1 := ⟨⟨bg5 85 (by decide +kernel), ini_RX2, by decide +kernel⟩, bg5 83 (by decide +kernel), bg5 84 (by decide +kernel)⟩
set_option maxRecDepth 100000 in
theorem mi_yX10_undoCount : jMv yX10_undoCount cX10_undoCount 1 (some FieldType.int) 0 := ⟨⟨bg5 89 (by decide +kernel), ini_RX10, by decide +kernel⟩, bg5 87 (by decide +kernel), bg5 88 (by decide +kernel)⟩
set_option maxRecDepth 100000 in
theorem mi_yX10_save : jMv yX10_save cX10_save 1 (some FieldType.int) 0 := ⟨⟨bg5 93 (by decide +kernel), ini_RX10, by decide +kernel⟩, bg5 91 (by decide +kernel), bg5 92 (by decide +kernel)⟩
set_option maxRecDepth 100000 in
theorem mi_yX10_restore : jMv yX10_restore cX10_restore 1 (some FieldType.int) 0 := ⟨⟨bg5 98 (by decide +kernel), ini_RX10, by decide +kernel⟩, bg5 96 (by decide +kernel), bg5 97 (by decide +kernel)⟩
set_option maxRecDepth 100000 in
theorem mi_yX2_forget : jMv yX2_forget cX2_forget 1 (none : Option FieldType) 0 := ⟨⟨bg5 103 (by decide +kernel), ini_RX2, by decide +kernel⟩, bg5 101 (by decide +kernel), bg5 102 (by decide +kernel)⟩
set_option maxRecDepth 100000 in
theorem mi_yL_cell : jMs yL_cell cL_cell 2 (some FieldType.int) 2 := ⟨⟨bg5 106 (by decide +kernel), ini_RL, by decide +kernel⟩, bg5 105 (by decide +kernel)⟩
set_option maxRecDepth 100000 in
theorem mi_yL_in : jMs yL_in cL_in 2 (some FieldType.int) 2 := ⟨⟨bg5 109 (by decide +kernel), ini_RL, by decide +kernel⟩, bg5 108 (by decide +kernel)⟩
set_option maxRecDepth 100000 in
theorem mi_yL_send : jMs yL_send cL_send 6 (some FieldType.boolean) 2 := ⟨⟨bg5 113 (by decide +kernel), ini_RL, by decide +kernel⟩, bg5 112 (by decide +kernel)⟩
set_option maxRecDepth 100000 in
theorem mi_yX10_truncate : jMv yX10_truncate cX10_truncate 2 (some FieldType.int) 1 := ⟨⟨bg5 117 (by decide +kernel), ini_RX10, by decide +kernel⟩, bg5 115 (by decide +kernel), bg5 116 (by decide +kernel)⟩
set_option maxRecDepth 100000 in
theorem mi_yX3_shorten : jMv yX3_shorten cX3_shorten 2 (none : Option FieldType) 1 := ⟨⟨bg5 122 (by decide +kernel), ini_RX3, by decide +kernel⟩, bg5 120 (by decide +kernel), bg5 121 (by decide +kernel)⟩
set_option maxRecDepth 100000 in
theorem mi_yX10_append : jMv yX10_append cX10_append 7 (some FieldType.int) 5 := ⟨⟨bg5 132 (by decide +kernel), ini_RX10, by decide +kernel⟩, bg5 130 (by decide +kernel), bg5 131 (by decide +kernel)⟩
set_option maxRecDepth 100000 in
theorem mi_yX3_bytesIn : jMs yX3_bytesIn cX3_bytesIn 3 (some FieldType.int) 1 := ⟨⟨bg5 135 (by decide +kernel), ini_RX3, by decide +kernel⟩, bg5 134 (by decide +kernel)⟩
set_option maxRecDepth 100000 in
theorem mi_yX3_addBytes : jMv yX3_addBytes cX3_addBytes 4 (none : Option FieldType) 1 := ⟨⟨bg5 140 (by decide +kernel), ini_RX3, by decide +kernel⟩, bg5 138 (by decide +kernel), bg5 139 (by decide +kernel)⟩
set_option maxRecDepth 100000 in
theorem mi_yX10_load : jMv yX10_load cX10_load 1 (some FieldType.int) 0 := ⟨⟨bg5 148 (by decide +kernel), ini_RX10, by decide +kernel⟩, bg5 146 (by decide +kernel), bg5 147 (by decide +kernel)⟩
set_option maxRecDepth 100000 in
theorem mi_yX7_copyFrom : jMv yX7_copyFrom cX7_copyFrom 2 (none : Option FieldType) 1 := ⟨⟨bg5 153 (by decide +kernel), ini_RX7, by decide +kernel⟩, bg5 151 (by decide +kernel), bg5 152 (by decide +kernel)⟩
set_option maxRecDepth 100000 in
theorem mi_yL_tiers : jMs yL_tiers cL_tiers 1 (some FieldType.int) 1 := ⟨⟨bg5 158 (by decide +kernel), ini_RL, by decide +kernel⟩, bg5 157 (by decide +kernel)⟩
set_option maxRecDepth 100000 in
theorem mi_yL_categories : jMs yL_categories cL_categories 1 (some FieldType.int) 1 := ⟨⟨bg5 161 (by decide +kernel), ini_RL, by decide +kernel⟩, bg5 160 (by decide +kernel)⟩
set_option maxRecDepth 100000 in
theorem mi_yL_members : jMs yL_members cL_members 1 (some FieldType.int) 1 := ⟨⟨bg5 164 (by decide +kernel), ini_RL, by decide +kernel⟩, bg5 163 (by decide +kernel)⟩
set_option maxRecDepth 100000 in
theorem mi_yL_config : jMs yL_config cL_config 3 (some (FieldType.object "java/lang/String")) 1 := ⟨⟨bg5 167 (by decide +kernel), ini_RL, by decide +kernel⟩, bg5 166 (by decide +kernel)⟩
set_option maxRecDepth 100000 in
theorem mi_yJ4_init_da8c8 : jMi yJ4_init_da8c8 cJ4_init_da8c8 1 0 := ⟨⟨bg5 172 (by decide +kernel), ini_RJ4, by decide +kernel⟩, bg5 171 (by decide +kernel), rfl⟩
set_option maxRecDepth 100000 in
theorem mi_yJ5_init_d00df : jMi yJ5_init_d00df cJ5_init_d00df 2 1 := ⟨⟨bg5 175 (by decide +kernel), ini_RJ5, by decide +kernel⟩, bg5 174 (by decide +kernel), rfl⟩
set_option maxRecDepth 100000 in
theorem mi_yJ2_newBytesFor_77867 : jMs yJ2_newBytesFor_77867 cJ2_newBytesFor_77867 1 (some (FieldType.array FieldType.byte)) 1 := ⟨⟨bg5 180 (by decide +kernel), ini_RJ2, by decide +kernel⟩, bg5 179 (by decide +kernel)⟩
set_option maxRecDepth 100000 in
theorem mi_yJ2_newBytesLength_0f7a4 : jMs yJ2_newBytesLength_0f7a4 cJ2_newBytesLength_0f7a4 1 (some FieldType.int) 1 := ⟨⟨bg5 183 (by decide +kernel), ini_RJ2, by decide +kernel⟩, bg5 182 (by decide +kernel)⟩
set_option maxRecDepth 100000 in
theorem mi_yJ4_append_15ec4 : jMv yJ4_append_15ec4 cJ4_append_15ec4 2 (some (FieldType.object "java/lang/StringBuilder")) 1 := ⟨⟨bg5 202 (by decide +kernel), ini_RJ4, by decide +kernel⟩, bg5 200 (by decide +kernel), bg5 201 (by decide +kernel)⟩
set_option maxRecDepth 100000 in
theorem mi_yJ8_newLength_cabcc : jMs yJ8_newLength_cabcc cJ8_newLength_cabcc 4 (some FieldType.int) 3 := ⟨⟨bg5 220 (by decide +kernel), ini_RJ8, by decide +kernel⟩, bg5 219 (by decide +kernel)⟩
set_option maxRecDepth 100000 in
theorem mi_yJ8_hugeLength_7cf53 : jMs yJ8_hugeLength_7cf53 cJ8_hugeLength_7cf53 3 (some FieldType.int) 2 := ⟨⟨bg5 225 (by decide +kernel), ini_RJ8, by decide +kernel⟩, bg5 224 (by decide +kernel)⟩
set_option maxRecDepth 100000 in
theorem mi_yJ7_copyOf_9075b : jMs yJ7_copyOf_9075b cJ7_copyOf_9075b 3 (some (FieldType.array FieldType.byte)) 2 := ⟨⟨bg5 229 (by decide +kernel), ini_RJ7, by decide +kernel⟩, bg5 228 (by decide +kernel)⟩
set_option maxRecDepth 100000 in
theorem mi_yJ2_putCharsAt_cd4e5 : jMs yJ2_putCharsAt_cd4e5 cJ2_putCharsAt_cd4e5 7 (some FieldType.int) 6 := ⟨⟨bg6 6 (by decide +kernel), ini_RJ2, by decide +kernel⟩, bg6 5 (by decide +kernel)⟩
set_option maxRecDepth 100000 in
theorem mi_yJ2_checkBoundsBeginEnd_d044e : jMs yJ2_checkBoundsBeginEnd_d044e cJ2_checkBoundsBeginEnd_d044e 3 (none : Option FieldType) 3 := ⟨⟨bg6 9 (by decide +kernel), ini_RJ2, by decide +kernel⟩, bg6 8 (by decide +kernel)⟩
set_option maxRecDepth 100000 in
theorem mi_yJ0_checkBoundsBeginEnd_23922 : jMs yJ0_checkBoundsBeginEnd_23922 cJ0_checkBoundsBeginEnd_23922 3 (none : Option FieldType) 3 := ⟨⟨bg6 12 (by decide +kernel), ini_RJ0, by decide +kernel⟩, bg6 11 (by decide +kernel)⟩
set_option maxRecDepth 100000 in
theorem mi_yJ3_checkFromToIndex_8c36e : jMs yJ3_checkFromToIndex_8c36e cJ3_checkFromToIndex_8c36e 4 (some FieldType.int) 4 := ⟨⟨bg6 15 (by decide +kernel), ini_RJ3, by decide +kernel⟩, bg6 14 (by decide +kernel)⟩
set_option maxRecDepth 100000 in
theorem mi_yJ2_putChar_b72d1 : jMs yJ2_putChar_b72d1 cJ2_putChar_b72d1 3 (none : Option FieldType) 3 := ⟨⟨bg6 18 (by decide +kernel), ini_RJ2, by decide +kernel⟩, bg6 17 (by decide +kernel)⟩
set_option maxRecDepth 100000 in
theorem mi_yJ1_inflate_0e8fd : jMs yJ1_inflate_0e8fd cJ1_inflate_0e8fd 5 (none : Option FieldType) 5 := ⟨⟨bg6 35 (by decide +kernel), ini_RJ1, by decide +kernel⟩, bg6 34 (by decide +kernel)⟩
set_option maxRecDepth 100000 in
theorem mi_yJ2_inflate_0e8fd : jMs yJ2_inflate_0e8fd cJ2_inflate_0e8fd 6 (none : Option FieldType) 5 := ⟨⟨bg6 38 (by decide +kernel), ini_RJ2, by decide +kernel⟩, bg6 37 (by decide +kernel)⟩
set_option maxRecDepth 100000 in
theorem mi_yJ2_checkBoundsOffCount_d044e : jMs yJ2_checkBoundsOffCount_d044e cJ2_checkBoundsOffCount_d044e 3 (none : Option FieldType) 3 := ⟨⟨bg6 41 (by decide +kernel), ini_RJ2, by decide +kernel⟩, bg6 40 (by decide +kernel)⟩
set_option maxRecDepth 100000 in
theorem mi_yJ0_checkBoundsOffCount_cabcc : jMs yJ0_checkBoundsOffCount_cabcc cJ0_checkBoundsOffCount_cabcc 3 (some FieldType.int) 3 := ⟨⟨bg6 44 (by decide +kernel), ini_RJ0, by decide +kernel⟩, bg6 43 (by decide +kernel)⟩
set_option maxRecDepth 100000 in
theorem mi_yJ3_checkFromIndexSize_8c36e : jMs yJ3_checkFromIndexSize_8c36e cJ3_checkFromIndexSize_8c36e 4 (some FieldType.int) 4 := ⟨⟨bg6 47 (by decide +kernel), ini_RJ3, by decide +kernel⟩, bg6 46 (by decide +kernel)⟩
set_option maxRecDepth 100000 in
theorem mi_yJ0_getBytes_840e7 : jMv yJ0_getBytes_840e7 cJ0_getBytes_840e7 4 (none : Option FieldType) 3 := ⟨⟨bg6 51 (by decide +kernel), ini_RJ0, by decide +kernel⟩, bg6 49 (by decide +kernel), bg6 50 (by decide +kernel)⟩
set_option maxRecDepth 100000 in
theorem mi_yL_life : jMs yL_life cL_life 1 (some FieldType.int) 1 := ⟨⟨bg6 56 (by decide +kernel), ini_RL, by decide +kernel⟩, bg6 55 (by decide +kernel)⟩
set_option maxRecDepth 100000 in
theorem mi_yJ4_append_bf812 : jMv yJ4_append_bf812 cJ4_append_bf812 2 (some (FieldType.object "java/lang/StringBuilder")) 1 := ⟨⟨bg6 60 (by decide +kernel), ini_RJ4, by decide +kernel⟩, bg6 58 (by decide +kernel), bg6 59 (by decide +kernel)⟩
set_option maxRecDepth 100000 in
theorem mi_yJ6_stringSize_0f7a4 : jMs yJ6_stringSize_0f7a4 cJ6_stringSize_0f7a4 4 (some FieldType.int) 1 := ⟨⟨bg6 66 (by decide +kernel), ini_RJ6, by decide +kernel⟩, bg6 65 (by decide +kernel)⟩
set_option maxRecDepth 100000 in
theorem mi_yJ6_getChars_ba4f3 : jMs yJ6_getChars_ba4f3 cJ6_getChars_ba4f3 7 (some FieldType.int) 3 := ⟨⟨bg6 69 (by decide +kernel), ini_RJ6, by decide +kernel⟩, bg6 68 (by decide +kernel)⟩
set_option maxRecDepth 100000 in
theorem mi_yJ2_getChars_46870 : jMs yJ2_getChars_46870 cJ2_getChars_46870 5 (some FieldType.int) 4 := ⟨⟨bg6 76 (by decide +kernel), ini_RJ2, by decide +kernel⟩, bg6 75 (by decide +kernel)⟩
set_option maxRecDepth 100000 in
theorem mi_yJ2_getChars_ba4f3 : jMs yJ2_getChars_ba4f3 cJ2_getChars_ba4f3 7 (some FieldType.int) 3 := ⟨⟨bg6 79 (by decide +kernel), ini_RJ2, by decide +kernel⟩, bg6 78 (by decide +kernel)⟩
set_option maxRecDepth 100000 in
theorem mi_yL_window : jMs yL_window cL_window 1 (some FieldType.int) 1 := ⟨⟨bg6 85 (by decide +kernel), ini_RL, by decide +kernel⟩, bg6 84 (by decide +kernel)⟩
set_option maxRecDepth 100000 in
theorem mi_yL_grace : jMs yL_grace cL_grace 1 (some FieldType.int) 1 := ⟨⟨bg6 89 (by decide +kernel), ini_RL, by decide +kernel⟩, bg6 88 (by decide +kernel)⟩
set_option maxRecDepth 100000 in
theorem mi_yJ4_toString_0e30d : jMv yJ4_toString_0e30d cJ4_toString_0e30d 1 (some (FieldType.object "java/lang/String")) 0 := ⟨⟨bg6 93 (by decide +kernel), ini_RJ4, by decide +kernel⟩, bg6 91 (by decide +kernel), bg6 92 (by decide +kernel)⟩
set_option maxRecDepth 100000 in
theorem mi_yJ0_init_81219 : jMi yJ0_init_81219 cJ0_init_81219 2 1 := ⟨⟨bg6 98 (by decide +kernel), ini_RJ0, by decide +kernel⟩, bg6 97 (by decide +kernel), rfl⟩
set_option maxRecDepth 100000 in
theorem mi_yJ0_init_db425 : jMi yJ0_init_db425 cJ0_init_db425 5 2 := ⟨⟨bg6 101 (by decide +kernel), ini_RJ0, by decide +kernel⟩, bg6 100 (by decide +kernel), rfl⟩
set_option maxRecDepth 100000 in
theorem mi_yJ7_copyOfRange_39247 : jMs yJ7_copyOfRange_39247 cJ7_copyOfRange_39247 3 (some (FieldType.array FieldType.byte)) 3 := ⟨⟨bg6 119 (by decide +kernel), ini_RJ7, by decide +kernel⟩, bg6 118 (by decide +kernel)⟩
set_option maxRecDepth 100000 in
theorem mi_yJ7_copyOfRangeByte_39247 : jMs yJ7_copyOfRangeByte_39247 cJ7_copyOfRangeByte_39247 5 (some (FieldType.array FieldType.byte)) 3 := ⟨⟨bg6 122 (by decide +kernel), ini_RJ7, by decide +kernel⟩, bg6 121 (by decide +kernel)⟩
set_option maxRecDepth 100000 in
theorem mi_yJ7_checkLength_df160 : jMs yJ7_checkLength_df160 cJ7_checkLength_df160 2 (none : Option FieldType) 2 := ⟨⟨bg6 125 (by decide +kernel), ini_RJ7, by decide +kernel⟩, bg6 124 (by decide +kernel)⟩
set_option maxRecDepth 100000 in
theorem mi_yJ2_compress_39247 : jMs yJ2_compress_39247 cJ2_compress_39247 6 (some (FieldType.array FieldType.byte)) 3 := ⟨⟨bg6 136 (by decide +kernel), ini_RJ2, by decide +kernel⟩, bg6 135 (by decide +kernel)⟩
set_option maxRecDepth 100000 in
theorem mi_yJ2_compress_5af95 : jMs yJ2_compress_5af95 cJ2_compress_5af95 7 (some FieldType.int) 5 := ⟨⟨bg6 139 (by decide +kernel), ini_RJ2, by decide +kernel⟩, bg6 138 (by decide +kernel)⟩
set_option maxRecDepth 100000 in
theorem mi_yJ2_coderFromArrayLen_85cad : jMs yJ2_coderFromArrayLen_85cad cJ2_coderFromArrayLen_85cad 2 (some FieldType.byte) 2 := ⟨⟨bg6 143 (by decide +kernel), ini_RJ2, by decide +kernel⟩, bg6 142 (by decide +kernel)⟩
set_option maxRecDepth 100000 in
theorem mi_yJ4_append_cf468 : jMv yJ4_append_cf468 cJ4_append_cf468 2 (some (FieldType.object "java/lang/StringBuilder")) 1 := ⟨⟨bg6 159 (by decide +kernel), ini_RJ4, by decide +kernel⟩, bg6 157 (by decide +kernel), bg6 158 (by decide +kernel)⟩
set_option maxRecDepth 100000 in
theorem mi_yJ1_canEncode_fc78d : jMs yJ1_canEncode_fc78d cJ1_canEncode_fc78d 1 (some FieldType.boolean) 1 := ⟨⟨bg6 165 (by decide +kernel), ini_RJ1, by decide +kernel⟩, bg6 164 (by decide +kernel)⟩
set_option maxRecDepth 100000 in
theorem mi_yJ2_putCharSB_b72d1 : jMs yJ2_putCharSB_b72d1 cJ2_putCharSB_b72d1 3 (none : Option FieldType) 3 := ⟨⟨bg6 168 (by decide +kernel), ini_RJ2, by decide +kernel⟩, bg6 167 (by decide +kernel)⟩
set_option maxRecDepth 100000 in
theorem mi_yL_threshold : jMs yL_threshold cL_threshold 2 (some FieldType.int) 2 := ⟨⟨bg6 172 (by decide +kernel), ini_RL, by decide +kernel⟩, bg6 171 (by decide +kernel)⟩
set_option maxRecDepth 100000 in
theorem mi_yL_bonus : jMs yL_bonus cL_bonus 2 (some FieldType.int) 2 := ⟨⟨bg6 175 (by decide +kernel), ini_RL, by decide +kernel⟩, bg6 174 (by decide +kernel)⟩
set_option maxRecDepth 100000 in
theorem mi_yL_rate : jMs yL_rate cL_rate 2 (some FieldType.int) 2 := ⟨⟨bg6 179 (by decide +kernel), ini_RL, by decide +kernel⟩, bg6 178 (by decide +kernel)⟩
set_option maxRecDepth 100000 in
theorem mi_yL_cap : jMs yL_cap cL_cap 2 (some FieldType.int) 2 := ⟨⟨bg6 182 (by decide +kernel), ini_RL, by decide +kernel⟩, bg6 181 (by decide +kernel)⟩
set_option maxRecDepth 100000 in
theorem mi_yL_name : jMs yL_name cL_name 2 (some (FieldType.object "java/lang/String")) 2 := ⟨⟨bg6 186 (by decide +kernel), ini_RL, by decide +kernel⟩, bg6 185 (by decide +kernel)⟩
set_option maxRecDepth 100000 in
theorem mi_yL_from : jMs yL_from cL_from 1 (some FieldType.int) 1 := ⟨⟨bg6 191 (by decide +kernel), ini_RL, by decide +kernel⟩, bg6 190 (by decide +kernel)⟩
set_option maxRecDepth 100000 in
theorem mi_yL_to : jMs yL_to cL_to 1 (some FieldType.int) 1 := ⟨⟨bg6 194 (by decide +kernel), ini_RL, by decide +kernel⟩, bg6 193 (by decide +kernel)⟩
set_option maxRecDepth 100000 in
theorem mi_yL_extra : jMs yL_extra cL_extra 1 (some FieldType.int) 1 := ⟨⟨bg6 197 (by decide +kernel), ini_RL, by decide +kernel⟩, bg6 196 (by decide +kernel)⟩
set_option maxRecDepth 100000 in
theorem mi_yL_share : jMs yL_share cL_share 1 (some FieldType.int) 1 := ⟨⟨bg6 201 (by decide +kernel), ini_RL, by decide +kernel⟩, bg6 200 (by decide +kernel)⟩
set_option maxRecDepth 100000 in
theorem mi_yX10_refund : jMv yX10_refund cX10_refund 2 (some FieldType.int) 1 := ⟨⟨bg6 209 (by decide +kernel), ini_RX10, by decide +kernel⟩, bg6 207 (by decide +kernel), bg6 208 (by decide +kernel)⟩
set_option maxRecDepth 100000 in
theorem mi_yX0_takeBack : jMv yX0_takeBack cX0_takeBack 7 (some FieldType.int) 1 := ⟨⟨bg6 214 (by decide +kernel), ini_RX0, by decide +kernel⟩, bg6 212 (by decide +kernel), bg6 213 (by decide +kernel)⟩
set_option maxRecDepth 100000 in
theorem mi_yX1_takeFromAll : jMv yX1_takeFromAll cX1_takeFromAll 8 (some FieldType.int) 4 := ⟨⟨bg6 219 (by decide +kernel), ini_RX1, by decide +kernel⟩, bg6 217 (by decide +kernel), bg6 218 (by decide +kernel)⟩
set_option maxRecDepth 100000 in
theorem mi_yX1_first : jMv yX1_first cX1_first 5 (some FieldType.int) 3 := ⟨⟨bg6 223 (by decide +kernel), ini_RX1, by decide +kernel⟩, bg6 221 (by decide +kernel), bg6 222 (by decide +kernel)⟩
set_option maxRecDepth 100000 in
theorem mi_yX1_take : jMv yX1_take cX1_take 4 (some FieldType.int) 2 := ⟨⟨bg6 227 (by decide +kernel), ini_RX1, by decide +kernel⟩, bg6 225 (by decide +kernel), bg6 226 (by decide +kernel)⟩
set_option maxRecDepth 100000 in
theorem mi_yX5_markRefunded : jMv yX5_markRefunded cX5_markRefunded 2 (none : Option FieldType) 1 := ⟨⟨bg6 232 (by decide +kernel), ini_RX5, by decide +kernel⟩, bg6 230 (by decide +kernel), bg6 231 (by decide +kernel)⟩
set_option maxRecDepth 100000 in
theorem mi_yX10_redeem : jMv yX10_redeem cX10_redeem 3 (some FieldType.int) 2 := ⟨⟨bg6 239 (by decide +kernel), ini_RX10, by decide +kernel⟩, bg6 237 (by decide +kernel), bg6 238 (by decide +kernel)⟩
set_option maxRecDepth 100000 in
theorem mi_yX10_needAtLeastOne : jMs yX10_needAtLeastOne cX10_needAtLeastOne 1 (none : Option FieldType) 1 := ⟨⟨bg7 2 (by decide +kernel), ini_RX10, by decide +kernel⟩, bg7 1 (by decide +kernel)⟩
set_option maxRecDepth 100000 in
theorem mi_yX0_spend : jMv yX0_spend cX0_spend 5 (some FieldType.int) 2 := ⟨⟨bg7 8 (by decide +kernel), ini_RX0, by decide +kernel⟩, bg7 6 (by decide +kernel), bg7 7 (by decide +kernel)⟩
set_option maxRecDepth 100000 in
theorem mi_yX0_spendFrom : jMv yX0_spendFrom cX0_spendFrom 8 (some FieldType.int) 2 := ⟨⟨bg7 12 (by decide +kernel), ini_RX0, by decide +kernel⟩, bg7 11 (by decide +kernel), bg 26 (by decide +kernel)⟩
set_option maxRecDepth 100000 in
theorem mi_yX1_size : jMv yX1_size cX1_size 1 (some FieldType.int) 0 := ⟨⟨bg7 16 (by decide +kernel), ini_RX1, by decide +kernel⟩, bg7 14 (by decide +kernel), bg7 15 (by decide +kernel)⟩
set_option maxRecDepth 100000 in
theorem mi_yX1_dayOf : jMv yX1_dayOf cX1_dayOf 2 (some FieldType.int) 1 := ⟨⟨bg7 21 (by decide +kernel), ini_RX1, by decide +kernel⟩, bg7 19 (by decide +kernel), bg7 20 (by decide +kernel)⟩
set_option maxRecDepth 100000 in
theorem mi_yX7_partOfLife : jMv yX7_partOfLife cX7_partOfLife 3 (some FieldType.int) 2 := ⟨⟨bg7 25 (by decide +kernel), ini_RX7, by decide +kernel⟩, bg7 23 (by decide +kernel), bg7 24 (by decide +kernel)⟩
set_option maxRecDepth 100000 in
theorem mi_yX10_transfer : jMv yX10_transfer cX10_transfer 4 (some FieldType.int) 3 := ⟨⟨bg7 33 (by decide +kernel), ini_RX10, by decide +kernel⟩, bg7 31 (by decide +kernel), bg7 32 (by decide +kernel)⟩
set_option maxRecDepth 100000 in
theorem mi_yX0_give : jMv yX0_give cX0_give 10 (some FieldType.int) 3 := ⟨⟨bg7 39 (by decide +kernel), ini_RX0, by decide +kernel⟩, bg7 37 (by decide +kernel), bg7 38 (by decide +kernel)⟩
set_option maxRecDepth 100000 in
theorem mi_yX10_join : jMv yX10_join cX10_join 3 (some FieldType.int) 2 := ⟨⟨bg7 46 (by decide +kernel), ini_RX10, by decide +kernel⟩, bg7 44 (by decide +kernel), bg7 45 (by decide +kernel)⟩
set_option maxRecDepth 100000 in
theorem mi_yX0_peopleIn : jMv yX0_peopleIn cX0_peopleIn 2 (some FieldType.int) 1 := ⟨⟨bg7 51 (by decide +kernel), ini_RX0, by decide +kernel⟩, bg7 49 (by decide +kernel), bg7 50 (by decide +kernel)⟩
set_option maxRecDepth 100000 in
theorem mi_yJ6_bitCount_0f7a4 : jMs yJ6_bitCount_0f7a4 cJ6_bitCount_0f7a4 1 (some FieldType.int) 1 := ⟨⟨bg7 55 (by decide +kernel), ini_RJ6, by decide +kernel⟩, bg7 54 (by decide +kernel)⟩
set_option maxRecDepth 100000 in
theorem mi_yX0_enter : jMv yX0_enter cX0_enter 3 (none : Option FieldType) 2 := ⟨⟨bg7 63 (by decide +kernel), ini_RX0, by decide +kernel⟩, bg7 61 (by decide +kernel), bg7 62 (by decide +kernel)⟩
set_option maxRecDepth 100000 in
theorem mi_yX10_leave : jMv yX10_leave cX10_leave 2 (some FieldType.int) 1 := ⟨⟨bg7 70 (by decide +kernel), ini_RX10, by decide +kernel⟩, bg7 68 (by decide +kernel), bg7 69 (by decide +kernel)⟩
set_option maxRecDepth 100000 in
theorem mi_yX0_moveOut : jMv yX0_moveOut cX0_moveOut 8 (some FieldType.int) 1 := ⟨⟨bg7 75 (by decide +kernel), ini_RX0, by decide +kernel⟩, bg7 73 (by decide +kernel), bg7 74 (by decide +kernel)⟩
set_option maxRecDepth 100000 in
theorem mi_yX1_pointsOf : jMv yX1_pointsOf cX1_pointsOf 2 (some FieldType.int) 1 := ⟨⟨bg7 79 (by decide +kernel), ini_RX1, by decide +kernel⟩, bg7 77 (by decide +kernel), bg7 78 (by decide +kernel)⟩
set_option maxRecDepth 100000 in
theorem mi_yL_all : jMs yL_all cL_all 5 (some FieldType.long) 1 := ⟨⟨bg7 82 (by decide +kernel), ini_RL, by decide +kernel⟩, bg7 81 (by decide +kernel)⟩
set_option maxRecDepth 100000 in
theorem mi_yX10_totalBreakage : jMv yX10_totalBreakage cX10_totalBreakage 1 (some FieldType.int) 0 := ⟨⟨bg7 87 (by decide +kernel), ini_RX10, by decide +kernel⟩, bg7 85 (by decide +kernel), bg7 86 (by decide +kernel)⟩
set_option maxRecDepth 100000 in
theorem mi_yX0_breakageOf : jMv yX0_breakageOf cX0_breakageOf 4 (some FieldType.int) 1 := ⟨⟨bg7 91 (by decide +kernel), ini_RX0, by decide +kernel⟩, bg7 89 (by decide +kernel), bg7 90 (by decide +kernel)⟩
set_option maxRecDepth 100000 in
theorem mi_yX0_estimate : jMv yX0_estimate cX0_estimate 7 (some FieldType.int) 2 := ⟨⟨bg7 96 (by decide +kernel), ini_RX0, by decide +kernel⟩, bg7 95 (by decide +kernel), bg 27 (by decide +kernel)⟩
set_option maxRecDepth 100000 in
theorem mi_yX10_belowSince : jMv yX10_belowSince cX10_belowSince 2 (some FieldType.int) 1 := ⟨⟨bg7 100 (by decide +kernel), ini_RX10, by decide +kernel⟩, bg7 98 (by decide +kernel), bg7 99 (by decide +kernel)⟩
set_option maxRecDepth 100000 in
theorem mi_yX0_belowDay : jMv yX0_belowDay cX0_belowDay 2 (some FieldType.int) 1 := ⟨⟨bg7 104 (by decide +kernel), ini_RX0, by decide +kernel⟩, bg7 102 (by decide +kernel), bg7 103 (by decide +kernel)⟩
set_option maxRecDepth 100000 in
theorem mi_yX10_cohortCount : jMv yX10_cohortCount cX10_cohortCount 2 (some FieldType.int) 1 := ⟨⟨bg7 108 (by decide +kernel), ini_RX10, by decide +kernel⟩, bg7 106 (by decide +kernel), bg7 107 (by decide +kernel)⟩
set_option maxRecDepth 100000 in
theorem mi_yX1_number : jMv yX1_number cX1_number 4 (some FieldType.int) 1 := ⟨⟨bg7 112 (by decide +kernel), ini_RX1, by decide +kernel⟩, bg7 110 (by decide +kernel), bg7 111 (by decide +kernel)⟩
set_option maxRecDepth 100000 in
theorem mi_yX10_cohort : jMv yX10_cohort cX10_cohort 4 (some FieldType.int) 3 := ⟨⟨bg7 116 (by decide +kernel), ini_RX10, by decide +kernel⟩, bg7 114 (by decide +kernel), bg7 115 (by decide +kernel)⟩
set_option maxRecDepth 100000 in
theorem mi_yX10_needCohort : jMv yX10_needCohort cX10_needCohort 3 (none : Option FieldType) 2 := ⟨⟨bg7 120 (by decide +kernel), ini_RX10, by decide +kernel⟩, bg7 119 (by decide +kernel), bg 28 (by decide +kernel)⟩
set_option maxRecDepth 100000 in
theorem mi_yX1_part : jMv yX1_part cX1_part 5 (some FieldType.int) 3 := ⟨⟨bg7 125 (by decide +kernel), ini_RX1, by decide +kernel⟩, bg7 123 (by decide +kernel), bg7 124 (by decide +kernel)⟩
set_option maxRecDepth 100000 in
theorem mi_yX10_qualifying : jMv yX10_qualifying cX10_qualifying 2 (some FieldType.int) 1 := ⟨⟨bg7 129 (by decide +kernel), ini_RX10, by decide +kernel⟩, bg7 127 (by decide +kernel), bg7 128 (by decide +kernel)⟩
set_option maxRecDepth 100000 in
theorem mi_yX0_qualifyingSum : jMv yX0_qualifyingSum cX0_qualifyingSum 2 (some FieldType.int) 1 := ⟨⟨bg7 133 (by decide +kernel), ini_RX0, by decide +kernel⟩, bg7 131 (by decide +kernel), bg7 132 (by decide +kernel)⟩
set_option maxRecDepth 100000 in
theorem mi_yX10_poolCohortCount : jMv yX10_poolCohortCount cX10_poolCohortCount 2 (some FieldType.int) 1 := ⟨⟨bg7 137 (by decide +kernel), ini_RX10, by decide +kernel⟩, bg7 135 (by decide +kernel), bg7 136 (by decide +kernel)⟩
set_option maxRecDepth 100000 in
theorem mi_yX10_poolCohort : jMv yX10_poolCohort cX10_poolCohort 4 (some FieldType.int) 3 := ⟨⟨bg7 141 (by decide +kernel), ini_RX10, by decide +kernel⟩, bg7 139 (by decide +kernel), bg7 140 (by decide +kernel)⟩
set_option maxRecDepth 100000 in
theorem mi_yX10_logSize : jMv yX10_logSize cX10_logSize 1 (some FieldType.int) 0 := ⟨⟨bg7 145 (by decide +kernel), ini_RX10, by decide +kernel⟩, bg7 143 (by decide +kernel), bg7 144 (by decide +kernel)⟩
set_option maxRecDepth 100000 in
theorem mi_yX0_diary : jMv yX0_diary cX0_diary 1 (some (FieldType.object "PointsLedger$LogBook")) 0 := ⟨⟨bg7 149 (by decide +kernel), ini_RX0, by decide +kernel⟩, bg7 147 (by decide +kernel), bg7 148 (by decide +kernel)⟩
set_option maxRecDepth 100000 in
theorem mi_yX4_size : jMv yX4_size cX4_size 1 (some FieldType.int) 0 := ⟨⟨bg7 153 (by decide +kernel), ini_RX4, by decide +kernel⟩, bg7 151 (by decide +kernel), bg7 152 (by decide +kernel)⟩
set_option maxRecDepth 100000 in
theorem mi_yX10_log : jMv yX10_log cX10_log 3 (some FieldType.int) 2 := ⟨⟨bg7 157 (by decide +kernel), ini_RX10, by decide +kernel⟩, bg7 155 (by decide +kernel), bg7 156 (by decide +kernel)⟩
set_option maxRecDepth 100000 in
theorem mi_yX4_part : jMv yX4_part cX4_part 4 (some FieldType.int) 2 := ⟨⟨bg7 162 (by decide +kernel), ini_RX4, by decide +kernel⟩, bg7 160 (by decide +kernel), bg7 161 (by decide +kernel)⟩
set_option maxRecDepth 100000 in
theorem mi_yL_isSound : jMs yL_isSound cL_isSound 8 (some FieldType.boolean) 2 := ⟨⟨bg7 166 (by decide +kernel), ini_RL, by decide +kernel⟩, bg7 165 (by decide +kernel)⟩
set_option maxRecDepth 100000 in
theorem mi_yX10_earnedTier : jMv yX10_earnedTier cX10_earnedTier 2 (some FieldType.int) 1 := ⟨⟨bg7 170 (by decide +kernel), ini_RX10, by decide +kernel⟩, bg7 168 (by decide +kernel), bg7 169 (by decide +kernel)⟩
set_option maxRecDepth 100000 in
theorem mi_yX10_redeemedWith : jMv yX10_redeemedWith cX10_redeemedWith 2 (some FieldType.int) 1 := ⟨⟨bg7 175 (by decide +kernel), ini_RX10, by decide +kernel⟩, bg7 173 (by decide +kernel), bg7 174 (by decide +kernel)⟩
set_option maxRecDepth 100000 in
theorem mi_yX0_redeemedIn : jMv yX0_redeemedIn cX0_redeemedIn 2 (some FieldType.int) 1 := ⟨⟨bg7 179 (by decide +kernel), ini_RX0, by decide +kernel⟩, bg7 177 (by decide +kernel), bg7 178 (by decide +kernel)⟩
set_option maxRecDepth 100000 in
theorem mi_yJ0_substring_b52d3 : jMv yJ0_substring_b52d3 cJ0_substring_b52d3 2 (some (FieldType.object "java/lang/String")) 1 := ⟨⟨bg7 185 (by decide +kernel), ini_RJ0, by decide +kernel⟩, bg7 183 (by decide +kernel), bg7 184 (by decide +kernel)⟩
set_option maxRecDepth 100000 in
theorem mi_yJ0_substring_37a41 : jMv yJ0_substring_37a41 cJ0_substring_37a41 5 (some (FieldType.object "java/lang/String")) 2 := ⟨⟨bg7 190 (by decide +kernel), ini_RJ0, by decide +kernel⟩, bg7 188 (by decide +kernel), bg7 189 (by decide +kernel)⟩
set_option maxRecDepth 100000 in
theorem mi_yJ1_newString_b4f7a : jMs yJ1_newString_b4f7a cJ1_newString_b4f7a 3 (some (FieldType.object "java/lang/String")) 3 := ⟨⟨bg7 194 (by decide +kernel), ini_RJ1, by decide +kernel⟩, bg7 193 (by decide +kernel)⟩
set_option maxRecDepth 100000 in
theorem mi_yJ0_init_031fb : jMi yJ0_init_031fb cJ0_init_031fb 3 2 := ⟨⟨bg7 200 (by decide +kernel), ini_RJ0, by decide +kernel⟩, bg7 199 (by decide +kernel), rfl⟩
set_option maxRecDepth 100000 in
theorem mi_yJ2_newString_b4f7a : jMs yJ2_newString_b4f7a cJ2_newString_b4f7a 5 (some (FieldType.object "java/lang/String")) 3 := ⟨⟨bg7 203 (by decide +kernel), ini_RJ2, by decide +kernel⟩, bg7 202 (by decide +kernel)⟩
set_option maxRecDepth 100000 in
theorem w_max : Cond.static Lib.Math.max.name ∈ BIG ∧ Cond.initialized "java/lang/Math" ∈ BIG ∧ Cond.code Lib.Math.max.name Lib.Math.max.code 2 (some .int) ∈ BIG := ⟨bg4 116 (by decide +kernel), bg1 21 (by decide +kernel), bg4 117 (by decide +kernel)⟩
set_option maxRecDepth 100000 in
theorem w_min : Cond.static Lib.Math.min.name ∈ BIG ∧ Cond.initialized "java/lang/Math" ∈ BIG ∧ Cond.code Lib.Math.min.name Lib.Math.min.code 2 (some .int) ∈ BIG := ⟨bg3 201 (by decide +kernel), bg1 21 (by decide +kernel), bg3 202 (by decide +kernel)⟩
set_option maxRecDepth 100000 in
theorem w_copy : Cond.native arraycopyName ∈ BIG ∧ Cond.static arraycopyName ∈ BIG ∧ Cond.initialized "java/lang/System" ∈ BIG := ⟨bg3 205 (by decide +kernel), bg3 204 (by decide +kernel), bg1 22 (by decide +kernel)⟩
set_option maxRecDepth 100000 in
theorem jf_X0 : jF RX0 TX0 17 tyX0 := ⟨by decide +kernel, tyX0_ok, nmX0⟩
set_option maxRecDepth 100000 in
theorem jf_X1 : jF RX1 TX1 5 tyX1 := ⟨by decide +kernel, tyX1_ok, nmX1⟩
set_option maxRecDepth 100000 in
theorem jf_X2 : jF RX2 TX2 3 tyX2 := ⟨by decide +kernel, tyX2_ok, nmX2⟩
set_option maxRecDepth 100000 in
theorem jf_X3 : jF RX3 TX3 2 tyX3 := ⟨by decide +kernel, tyX3_ok, nmX3⟩
set_option maxRecDepth 100000 in
theorem jf_X4 : jF RX4 TX4 3 tyX4 := ⟨by decide +kernel, tyX4_ok, nmX4⟩
set_option maxRecDepth 100000 in
theorem jf_X5 : jF RX5 TX5 2 tyX5 := ⟨by decide +kernel, tyX5_ok, nmX5⟩
set_option maxRecDepth 100000 in
theorem jf_X6 : jF RX6 TX6 1 tyX6 := ⟨by decide +kernel, tyX6_ok, nmX6⟩
set_option maxRecDepth 100000 in
theorem jf_X7 : jF RX7 TX7 14 tyX7 := ⟨by decide +kernel, tyX7_ok, nmX7⟩
set_option maxRecDepth 100000 in
theorem jf_X8 : jF RX8 TX8 6 tyX8 := ⟨by decide +kernel, tyX8_ok, nmX8⟩
set_option maxRecDepth 100000 in
theorem jf_X9 : jF RX9 TX9 2 tyX9 := ⟨by decide +kernel, tyX9_ok, nmX9⟩
set_option maxRecDepth 100000 in
theorem jf_X10 : jF RX10 TX10 8 tyX10 := ⟨by decide +kernel, tyX10_ok, nmX10⟩
