theorem wn_L : Cond.initialized RL ∈ tb := tb_in (i := 64) (by decide +kernel) rfl
theorem wn_X6 : Cond.initialized RX6 ∈ tb := tb_in (i := 65) (by decide +kernel) rfl
theorem wn_X1 : Cond.initialized RX1 ∈ tb := tb_in (i := 66) (by decide +kernel) rfl
theorem wn_X3 : Cond.initialized RX3 ∈ tb := tb_in (i := 67) (by decide +kernel) rfl
theorem wn_X0 : Cond.initialized RX0 ∈ tb := tb_in (i := 68) (by decide +kernel) rfl
theorem wn_X5 : Cond.initialized RX5 ∈ tb := tb_in (i := 69) (by decide +kernel) rfl
theorem wn_X4 : Cond.initialized RX4 ∈ tb := tb_in (i := 70) (by decide +kernel) rfl
theorem wn_X2 : Cond.initialized RX2 ∈ tb := tb_in (i := 71) (by decide +kernel) rfl
theorem wn_X7 : Cond.initialized RX7 ∈ tb := tb_in (i := 72) (by decide +kernel) rfl
theorem wn_String : Cond.initialized "java/lang/String" ∈ tb := tb_in (i := 73) (by decide +kernel) rfl
theorem wn_StringLatin1 : Cond.initialized "java/lang/StringLatin1" ∈ tb := tb_in (i := 74) (by decide +kernel) rfl
theorem wn_Preconditions : Cond.initialized "jdk/internal/util/Preconditions" ∈ tb := tb_in (i := 75) (by decide +kernel) rfl
theorem wn_StringUTF16 : Cond.initialized "java/lang/StringUTF16" ∈ tb := tb_in (i := 76) (by decide +kernel) rfl
theorem wn_System : Cond.initialized "java/lang/System" ∈ tb := tb_in (i := 77) (by decide +kernel) rfl
theorem wn_Math : Cond.initialized "java/lang/Math" ∈ tb := tb_in (i := 78) (by decide +kernel) rfl
theorem wcl_L_7 : Cond.classLink RL 7 RX6 ∈ tb := tb_in (i := 79) (by decide +kernel) rfl
theorem wit_X6 : Cond.instantiable RX6 10 ∈ tb := tb_in (i := 80) (by decide +kernel) rfl
theorem wm_L_9 : Cond.methodLink RL 9 yX6_init ∈ tb := tb_in (i := 81) (by decide +kernel) rfl
theorem wi_X6_init : Cond.instanceMethod yX6_init ∈ tb := tb_in (i := 82) (by decide +kernel) rfl
theorem wc_X6_init : Cond.code yX6_init cX6_init 1 none ∈ tb := tb_in (i := 83) (by decide +kernel) rfl
theorem wm_X6_1 : Cond.methodLink RX6 1 ⟨"java/lang/Object", "<init>", "()V"⟩ ∈ tb := tb_in (i := 84) (by decide +kernel) rfl
theorem wcl_X6_7 : Cond.classLink RX6 7 RX1 ∈ tb := tb_in (i := 87) (by decide +kernel) rfl
theorem wit_X1 : Cond.instantiable RX1 10 ∈ tb := tb_in (i := 88) (by decide +kernel) rfl
theorem wm_X6_9 : Cond.methodLink RX6 9 yX1_init ∈ tb := tb_in (i := 89) (by decide +kernel) rfl
theorem wi_X1_init : Cond.instanceMethod yX1_init ∈ tb := tb_in (i := 90) (by decide +kernel) rfl
theorem wc_X1_init : Cond.code yX1_init cX1_init 1 none ∈ tb := tb_in (i := 91) (by decide +kernel) rfl
theorem wm_X1_3 : Cond.methodLink RX1 3 ⟨"java/lang/Object", "<init>", "()V"⟩ ∈ tb := tb_in (i := 92) (by decide +kernel) rfl
theorem wm_X1_30 : Cond.methodLink RX1 30 yX1_clear ∈ tb := tb_in (i := 93) (by decide +kernel) rfl
theorem wi_X1_clear : Cond.instanceMethod yX1_clear ∈ tb := tb_in (i := 94) (by decide +kernel) rfl
theorem wsl_X1_clear : Cond.selects RX1 yX1_clear yX1_clear ∈ tb := tb_in (i := 95) (by decide +kernel) rfl
theorem wc_X1_clear : Cond.code yX1_clear cX1_clear 1 none ∈ tb := tb_in (i := 96) (by decide +kernel) rfl
theorem wf_X1_33 : Cond.fieldLink RX1 33 "HeavierToCome$Land" "year" "I" ∈ tb := tb_in (i := 97) (by decide +kernel) rfl
theorem wf_X6_97 : Cond.fieldLink RX6 97 "HeavierToCome$Land" "year" "I" ∈ tb := tb_in (i := 98) (by decide +kernel) rfl
theorem wf_X3_115 : Cond.fieldLink RX3 115 "HeavierToCome$Land" "year" "I" ∈ tb := tb_in (i := 99) (by decide +kernel) rfl
theorem wf_X1_37 : Cond.fieldLink RX1 37 "HeavierToCome$Land" "bridges" "I" ∈ tb := tb_in (i := 100) (by decide +kernel) rfl
theorem wf_X6_100 : Cond.fieldLink RX6 100 "HeavierToCome$Land" "bridges" "I" ∈ tb := tb_in (i := 101) (by decide +kernel) rfl
theorem wf_X3_100 : Cond.fieldLink RX3 100 "HeavierToCome$Land" "bridges" "I" ∈ tb := tb_in (i := 102) (by decide +kernel) rfl
theorem wf_X0_98 : Cond.fieldLink RX0 98 "HeavierToCome$Land" "bridges" "I" ∈ tb := tb_in (i := 103) (by decide +kernel) rfl
theorem wf_X1_40 : Cond.fieldLink RX1 40 "HeavierToCome$Land" "men" "I" ∈ tb := tb_in (i := 104) (by decide +kernel) rfl
theorem wf_X5_45 : Cond.fieldLink RX5 45 "HeavierToCome$Land" "men" "I" ∈ tb := tb_in (i := 105) (by decide +kernel) rfl
theorem wf_X6_91 : Cond.fieldLink RX6 91 "HeavierToCome$Land" "men" "I" ∈ tb := tb_in (i := 106) (by decide +kernel) rfl
theorem wf_X3_103 : Cond.fieldLink RX3 103 "HeavierToCome$Land" "men" "I" ∈ tb := tb_in (i := 107) (by decide +kernel) rfl
theorem wf_X0_66 : Cond.fieldLink RX0 66 "HeavierToCome$Land" "men" "I" ∈ tb := tb_in (i := 108) (by decide +kernel) rfl
theorem wf_X1_43 : Cond.fieldLink RX1 43 "HeavierToCome$Land" "oxen" "I" ∈ tb := tb_in (i := 109) (by decide +kernel) rfl
theorem wf_X6_103 : Cond.fieldLink RX6 103 "HeavierToCome$Land" "oxen" "I" ∈ tb := tb_in (i := 110) (by decide +kernel) rfl
theorem wf_X3_106 : Cond.fieldLink RX3 106 "HeavierToCome$Land" "oxen" "I" ∈ tb := tb_in (i := 111) (by decide +kernel) rfl
theorem wf_X5_89 : Cond.fieldLink RX5 89 "HeavierToCome$Land" "oxen" "I" ∈ tb := tb_in (i := 112) (by decide +kernel) rfl
theorem wf_X1_9 : Cond.fieldLink RX1 9 "HeavierToCome$Land" "forgets" "[I" ∈ tb := tb_in (i := 113) (by decide +kernel) rfl
theorem wf_X0_63 : Cond.fieldLink RX0 63 "HeavierToCome$Land" "forgets" "[I" ∈ tb := tb_in (i := 114) (by decide +kernel) rfl
theorem wf_X6_121 : Cond.fieldLink RX6 121 "HeavierToCome$Land" "forgets" "[I" ∈ tb := tb_in (i := 115) (by decide +kernel) rfl
theorem wf_X1_15 : Cond.fieldLink RX1 15 "HeavierToCome$Land" "weight" "[I" ∈ tb := tb_in (i := 116) (by decide +kernel) rfl
theorem wf_X6_135 : Cond.fieldLink RX6 135 "HeavierToCome$Land" "weight" "[I" ∈ tb := tb_in (i := 117) (by decide +kernel) rfl
theorem wf_X0_77 : Cond.fieldLink RX0 77 "HeavierToCome$Land" "weight" "[I" ∈ tb := tb_in (i := 118) (by decide +kernel) rfl
theorem wf_X5_83 : Cond.fieldLink RX5 83 "HeavierToCome$Land" "weight" "[I" ∈ tb := tb_in (i := 119) (by decide +kernel) rfl
theorem wf_X1_18 : Cond.fieldLink RX1 18 "HeavierToCome$Land" "chance" "[I" ∈ tb := tb_in (i := 120) (by decide +kernel) rfl
theorem wf_X6_138 : Cond.fieldLink RX6 138 "HeavierToCome$Land" "chance" "[I" ∈ tb := tb_in (i := 121) (by decide +kernel) rfl
theorem wf_X0_107 : Cond.fieldLink RX0 107 "HeavierToCome$Land" "chance" "[I" ∈ tb := tb_in (i := 122) (by decide +kernel) rfl
theorem wf_X1_21 : Cond.fieldLink RX1 21 "HeavierToCome$Land" "knowsAtFirst" "[I" ∈ tb := tb_in (i := 123) (by decide +kernel) rfl
theorem wf_X0_50 : Cond.fieldLink RX0 50 "HeavierToCome$Land" "knowsAtFirst" "[I" ∈ tb := tb_in (i := 124) (by decide +kernel) rfl
theorem wf_X3_139 : Cond.fieldLink RX3 139 "HeavierToCome$Land" "knowsAtFirst" "[I" ∈ tb := tb_in (i := 125) (by decide +kernel) rfl
theorem wf_X1_24 : Cond.fieldLink RX1 24 "HeavierToCome$Land" "oxWeight" "[I" ∈ tb := tb_in (i := 126) (by decide +kernel) rfl
theorem wf_X6_151 : Cond.fieldLink RX6 151 "HeavierToCome$Land" "oxWeight" "[I" ∈ tb := tb_in (i := 127) (by decide +kernel) rfl
theorem wf_X1_27 : Cond.fieldLink RX1 27 "HeavierToCome$Land" "oxPrice" "[I" ∈ tb := tb_in (i := 128) (by decide +kernel) rfl
theorem wf_X6_154 : Cond.fieldLink RX6 154 "HeavierToCome$Land" "oxPrice" "[I" ∈ tb := tb_in (i := 129) (by decide +kernel) rfl
theorem wac_int : Cond.arrayClass .int ∈ tb := tb_in (i := 151) (by decide +kernel) rfl
theorem wcl_X6_19 : Cond.classLink RX6 19 RX3 ∈ tb := tb_in (i := 152) (by decide +kernel) rfl
theorem wit_X3 : Cond.instantiable RX3 9 ∈ tb := tb_in (i := 153) (by decide +kernel) rfl
theorem wi_X3_init : Cond.instanceMethod yX3_init ∈ tb := tb_in (i := 155) (by decide +kernel) rfl
theorem wc_X3_init : Cond.code yX3_init cX3_init 1 none ∈ tb := tb_in (i := 156) (by decide +kernel) rfl
theorem wm_X3_3 : Cond.methodLink RX3 3 ⟨"java/lang/Object", "<init>", "()V"⟩ ∈ tb := tb_in (i := 157) (by decide +kernel) rfl
theorem wf_X3_9 : Cond.fieldLink RX3 9 "HeavierToCome$Reader" "bytes" "[B" ∈ tb := tb_in (i := 158) (by decide +kernel) rfl
theorem wf_X3_15 : Cond.fieldLink RX3 15 "HeavierToCome$Reader" "length" "I" ∈ tb := tb_in (i := 159) (by decide +kernel) rfl
theorem wf_X6_69 : Cond.fieldLink RX6 69 "HeavierToCome$Reader" "length" "I" ∈ tb := tb_in (i := 160) (by decide +kernel) rfl
theorem wf_X3_19 : Cond.fieldLink RX3 19 "HeavierToCome$Reader" "faultPlace" "I" ∈ tb := tb_in (i := 161) (by decide +kernel) rfl
theorem wf_X6_94 : Cond.fieldLink RX6 94 "HeavierToCome$Reader" "faultPlace" "I" ∈ tb := tb_in (i := 162) (by decide +kernel) rfl
theorem wf_X3_22 : Cond.fieldLink RX3 22 "HeavierToCome$Reader" "faultNumber" "I" ∈ tb := tb_in (i := 163) (by decide +kernel) rfl
theorem wf_X3_25 : Cond.fieldLink RX3 25 "HeavierToCome$Reader" "at" "I" ∈ tb := tb_in (i := 164) (by decide +kernel) rfl
theorem wf_X3_28 : Cond.fieldLink RX3 28 "HeavierToCome$Reader" "numberPlace" "I" ∈ tb := tb_in (i := 165) (by decide +kernel) rfl
theorem wf_X3_31 : Cond.fieldLink RX3 31 "HeavierToCome$Reader" "yearClauses" "I" ∈ tb := tb_in (i := 166) (by decide +kernel) rfl
theorem wf_X3_34 : Cond.fieldLink RX3 34 "HeavierToCome$Reader" "knowsClauses" "I" ∈ tb := tb_in (i := 167) (by decide +kernel) rfl
theorem wf_X3_37 : Cond.fieldLink RX3 37 "HeavierToCome$Reader" "otherClauses" "I" ∈ tb := tb_in (i := 168) (by decide +kernel) rfl
theorem wac_byte : Cond.arrayClass .byte ∈ tb := tb_in (i := 188) (by decide +kernel) rfl
theorem wcl_X6_26 : Cond.classLink RX6 26 RX0 ∈ tb := tb_in (i := 189) (by decide +kernel) rfl
theorem wit_X0 : Cond.instantiable RX0 9 ∈ tb := tb_in (i := 190) (by decide +kernel) rfl
theorem wm_X6_28 : Cond.methodLink RX6 28 yX0_init ∈ tb := tb_in (i := 191) (by decide +kernel) rfl
theorem wi_X0_init : Cond.instanceMethod yX0_init ∈ tb := tb_in (i := 192) (by decide +kernel) rfl
theorem wc_X0_init : Cond.code yX0_init cX0_init 2 none ∈ tb := tb_in (i := 193) (by decide +kernel) rfl
theorem wm_X0_3 : Cond.methodLink RX0 3 ⟨"java/lang/Object", "<init>", "()V"⟩ ∈ tb := tb_in (i := 194) (by decide +kernel) rfl
theorem wm_X0_41 : Cond.methodLink RX0 41 yX0_forget ∈ tb := tb_in (i := 195) (by decide +kernel) rfl
theorem wi_X0_forget : Cond.instanceMethod yX0_forget ∈ tb := tb_in (i := 197) (by decide +kernel) rfl
theorem wc_X0_forget : Cond.code yX0_forget cX0_forget 2 none ∈ tb := tb_in (i := 198) (by decide +kernel) rfl
theorem wf_X0_37 : Cond.fieldLink RX0 37 "HeavierToCome$Days" "land" "LHeavierToCome$Land;" ∈ tb := tb_in (i := 199) (by decide +kernel) rfl
theorem wf_X0_9 : Cond.fieldLink RX0 9 "HeavierToCome$Days" "lives" "I" ∈ tb := tb_in (i := 200) (by decide +kernel) rfl
theorem wf_X6_109 : Cond.fieldLink RX6 109 "HeavierToCome$Days" "lives" "I" ∈ tb := tb_in (i := 201) (by decide +kernel) rfl
theorem wf_X0_15 : Cond.fieldLink RX0 15 "HeavierToCome$Days" "day" "I" ∈ tb := tb_in (i := 202) (by decide +kernel) rfl
theorem wf_X6_106 : Cond.fieldLink RX6 106 "HeavierToCome$Days" "day" "I" ∈ tb := tb_in (i := 203) (by decide +kernel) rfl
theorem wf_X0_18 : Cond.fieldLink RX0 18 "HeavierToCome$Days" "seed" "I" ∈ tb := tb_in (i := 204) (by decide +kernel) rfl
theorem wf_X6_237 : Cond.fieldLink RX6 237 "HeavierToCome$Days" "seed" "I" ∈ tb := tb_in (i := 205) (by decide +kernel) rfl
theorem wf_X0_21 : Cond.fieldLink RX0 21 "HeavierToCome$Days" "knows" "[I" ∈ tb := tb_in (i := 206) (by decide +kernel) rfl
theorem wf_X6_145 : Cond.fieldLink RX6 145 "HeavierToCome$Days" "knows" "[I" ∈ tb := tb_in (i := 207) (by decide +kernel) rfl
theorem wf_X0_25 : Cond.fieldLink RX0 25 "HeavierToCome$Days" "over" "[I" ∈ tb := tb_in (i := 208) (by decide +kernel) rfl
theorem wf_X6_125 : Cond.fieldLink RX6 125 "HeavierToCome$Days" "over" "[I" ∈ tb := tb_in (i := 209) (by decide +kernel) rfl
theorem wf_X0_28 : Cond.fieldLink RX0 28 "HeavierToCome$Days" "nameBy" "[I" ∈ tb := tb_in (i := 210) (by decide +kernel) rfl
theorem wf_X6_157 : Cond.fieldLink RX6 157 "HeavierToCome$Days" "nameBy" "[I" ∈ tb := tb_in (i := 211) (by decide +kernel) rfl
theorem wf_X0_31 : Cond.fieldLink RX0 31 "HeavierToCome$Days" "lieDay" "[I" ∈ tb := tb_in (i := 212) (by decide +kernel) rfl
theorem wf_X0_34 : Cond.fieldLink RX0 34 "HeavierToCome$Days" "aloneYear" "[I" ∈ tb := tb_in (i := 213) (by decide +kernel) rfl
theorem wcl_X6_41 : Cond.classLink RX6 41 RX5 ∈ tb := tb_in (i := 233) (by decide +kernel) rfl
theorem wit_X5 : Cond.instantiable RX5 8 ∈ tb := tb_in (i := 234) (by decide +kernel) rfl
theorem wm_X6_43 : Cond.methodLink RX6 43 yX5_init ∈ tb := tb_in (i := 235) (by decide +kernel) rfl
theorem wi_X5_init : Cond.instanceMethod yX5_init ∈ tb := tb_in (i := 236) (by decide +kernel) rfl
theorem wc_X5_init : Cond.code yX5_init cX5_init 3 none ∈ tb := tb_in (i := 237) (by decide +kernel) rfl
theorem wm_X5_3 : Cond.methodLink RX5 3 ⟨"java/lang/Object", "<init>", "()V"⟩ ∈ tb := tb_in (i := 238) (by decide +kernel) rfl
theorem wf_X5_31 : Cond.fieldLink RX5 31 "HeavierToCome$Trial" "land" "LHeavierToCome$Land;" ∈ tb := tb_in (i := 239) (by decide +kernel) rfl
theorem wf_X5_35 : Cond.fieldLink RX5 35 "HeavierToCome$Trial" "now" "LHeavierToCome$Days;" ∈ tb := tb_in (i := 240) (by decide +kernel) rfl
theorem wf_X5_9 : Cond.fieldLink RX5 9 "HeavierToCome$Trial" "all" "I" ∈ tb := tb_in (i := 241) (by decide +kernel) rfl
theorem wf_X5_15 : Cond.fieldLink RX5 15 "HeavierToCome$Trial" "alone" "I" ∈ tb := tb_in (i := 242) (by decide +kernel) rfl
theorem wf_X5_18 : Cond.fieldLink RX5 18 "HeavierToCome$Trial" "trusted" "I" ∈ tb := tb_in (i := 243) (by decide +kernel) rfl
theorem wf_X5_21 : Cond.fieldLink RX5 21 "HeavierToCome$Trial" "helpers" "[I" ∈ tb := tb_in (i := 244) (by decide +kernel) rfl
theorem wf_X5_25 : Cond.fieldLink RX5 25 "HeavierToCome$Trial" "line" "[I" ∈ tb := tb_in (i := 245) (by decide +kernel) rfl
theorem wf_X6_191 : Cond.fieldLink RX6 191 "HeavierToCome$Trial" "line" "[I" ∈ tb := tb_in (i := 246) (by decide +kernel) rfl
theorem wf_X5_28 : Cond.fieldLink RX5 28 "HeavierToCome$Trial" "lineCount" "I" ∈ tb := tb_in (i := 247) (by decide +kernel) rfl
theorem wcl_X6_50 : Cond.classLink RX6 50 RX4 ∈ tb := tb_in (i := 265) (by decide +kernel) rfl
theorem wit_X4 : Cond.instantiable RX4 3 ∈ tb := tb_in (i := 266) (by decide +kernel) rfl
theorem wi_X4_init : Cond.instanceMethod yX4_init ∈ tb := tb_in (i := 268) (by decide +kernel) rfl
theorem wc_X4_init : Cond.code yX4_init cX4_init 1 none ∈ tb := tb_in (i := 269) (by decide +kernel) rfl
theorem wm_X4_3 : Cond.methodLink RX4 3 ⟨"java/lang/Object", "<init>", "()V"⟩ ∈ tb := tb_in (i := 270) (by decide +kernel) rfl
theorem wf_X4_9 : Cond.fieldLink RX4 9 "HeavierToCome$Sights" "count" "I" ∈ tb := tb_in (i := 271) (by decide +kernel) rfl
theorem wf_X6_112 : Cond.fieldLink RX6 112 "HeavierToCome$Sights" "count" "I" ∈ tb := tb_in (i := 272) (by decide +kernel) rfl
theorem wf_X4_15 : Cond.fieldLink RX4 15 "HeavierToCome$Sights" "ahead" "[I" ∈ tb := tb_in (i := 273) (by decide +kernel) rfl
theorem wf_X4_19 : Cond.fieldLink RX4 19 "HeavierToCome$Sights" "ways" "[I" ∈ tb := tb_in (i := 274) (by decide +kernel) rfl
theorem wcl_X6_57 : Cond.classLink RX6 57 RX2 ∈ tb := tb_in (i := 282) (by decide +kernel) rfl
theorem wit_X2 : Cond.instantiable RX2 3 ∈ tb := tb_in (i := 283) (by decide +kernel) rfl
theorem wi_X2_init : Cond.instanceMethod yX2_init ∈ tb := tb_in (i := 285) (by decide +kernel) rfl
theorem wc_X2_init : Cond.code yX2_init cX2_init 1 none ∈ tb := tb_in (i := 286) (by decide +kernel) rfl
theorem wm_X2_3 : Cond.methodLink RX2 3 ⟨"java/lang/Object", "<init>", "()V"⟩ ∈ tb := tb_in (i := 287) (by decide +kernel) rfl
theorem wf_X2_9 : Cond.fieldLink RX2 9 "HeavierToCome$Queue" "count" "I" ∈ tb := tb_in (i := 288) (by decide +kernel) rfl
theorem wf_X6_115 : Cond.fieldLink RX6 115 "HeavierToCome$Queue" "count" "I" ∈ tb := tb_in (i := 289) (by decide +kernel) rfl
theorem wf_X2_15 : Cond.fieldLink RX2 15 "HeavierToCome$Queue" "who" "[I" ∈ tb := tb_in (i := 290) (by decide +kernel) rfl
theorem wf_X2_19 : Cond.fieldLink RX2 19 "HeavierToCome$Queue" "nameBy" "[I" ∈ tb := tb_in (i := 291) (by decide +kernel) rfl
theorem wf_X6_10 : Cond.fieldLink RX6 10 "HeavierToCome" "land" "LHeavierToCome$Land;" ∈ tb := tb_in (i := 299) (by decide +kernel) rfl
theorem wf_X6_16 : Cond.fieldLink RX6 16 "HeavierToCome" "draft" "LHeavierToCome$Land;" ∈ tb := tb_in (i := 300) (by decide +kernel) rfl
theorem wf_X6_22 : Cond.fieldLink RX6 22 "HeavierToCome" "reader" "LHeavierToCome$Reader;" ∈ tb := tb_in (i := 301) (by decide +kernel) rfl
theorem wf_X6_31 : Cond.fieldLink RX6 31 "HeavierToCome" "now" "LHeavierToCome$Days;" ∈ tb := tb_in (i := 302) (by decide +kernel) rfl
theorem wf_X6_35 : Cond.fieldLink RX6 35 "HeavierToCome" "firstImage" "LHeavierToCome$Days;" ∈ tb := tb_in (i := 303) (by decide +kernel) rfl
theorem wf_X6_38 : Cond.fieldLink RX6 38 "HeavierToCome" "secondImage" "LHeavierToCome$Days;" ∈ tb := tb_in (i := 304) (by decide +kernel) rfl
theorem wf_X6_46 : Cond.fieldLink RX6 46 "HeavierToCome" "trial" "LHeavierToCome$Trial;" ∈ tb := tb_in (i := 305) (by decide +kernel) rfl
theorem wf_X6_53 : Cond.fieldLink RX6 53 "HeavierToCome" "sights" "LHeavierToCome$Sights;" ∈ tb := tb_in (i := 306) (by decide +kernel) rfl
theorem wf_X6_60 : Cond.fieldLink RX6 60 "HeavierToCome" "queue" "LHeavierToCome$Queue;" ∈ tb := tb_in (i := 307) (by decide +kernel) rfl
theorem wf_X6_64 : Cond.fieldLink RX6 64 "HeavierToCome" "keptImages" "I" ∈ tb := tb_in (i := 308) (by decide +kernel) rfl
theorem wm_L_15 : Cond.methodLink RL 15 yX6_feed ∈ tb := tb_in (i := 330) (by decide +kernel) rfl
theorem wi_X6_feed : Cond.instanceMethod yX6_feed ∈ tb := tb_in (i := 331) (by decide +kernel) rfl
theorem wsl_X6_feed : Cond.selects RX6 yX6_feed yX6_feed ∈ tb := tb_in (i := 332) (by decide +kernel) rfl
theorem wc_X6_feed : Cond.code yX6_feed cX6_feed 4 (some .int) ∈ tb := tb_in (i := 333) (by decide +kernel) rfl
theorem wk_X6_68 : Cond.constant RX6 68 (-1000000002) ∈ tb := tb_in (i := 334) (by decide +kernel) rfl
theorem wk_X6_72 : Cond.constant RX6 72 (-1000000004) ∈ tb := tb_in (i := 335) (by decide +kernel) rfl
theorem wm_X6_73 : Cond.methodLink RX6 73 yX3_add ∈ tb := tb_in (i := 336) (by decide +kernel) rfl
theorem wi_X3_add : Cond.instanceMethod yX3_add ∈ tb := tb_in (i := 337) (by decide +kernel) rfl
theorem wsl_X3_add : Cond.selects RX3 yX3_add yX3_add ∈ tb := tb_in (i := 338) (by decide +kernel) rfl
theorem wc_X3_add : Cond.code yX3_add cX3_add 5 (some .int) ∈ tb := tb_in (i := 339) (by decide +kernel) rfl
theorem wm_L_20 : Cond.methodLink RL 20 yX6_hills ∈ tb := tb_in (i := 340) (by decide +kernel) rfl
theorem wi_X6_hills : Cond.instanceMethod yX6_hills ∈ tb := tb_in (i := 341) (by decide +kernel) rfl
theorem wsl_X6_hills : Cond.selects RX6 yX6_hills yX6_hills ∈ tb := tb_in (i := 342) (by decide +kernel) rfl
theorem wc_X6_hills : Cond.code yX6_hills cX6_hills 2 (some .int) ∈ tb := tb_in (i := 343) (by decide +kernel) rfl
theorem wm_X6_77 : Cond.methodLink RX6 77 yX3_readInto ∈ tb := tb_in (i := 344) (by decide +kernel) rfl
theorem wi_X3_readInto : Cond.instanceMethod yX3_readInto ∈ tb := tb_in (i := 345) (by decide +kernel) rfl
theorem wsl_X3_readInto : Cond.selects RX3 yX3_readInto yX3_readInto ∈ tb := tb_in (i := 346) (by decide +kernel) rfl
theorem wc_X3_readInto : Cond.code yX3_readInto cX3_readInto 3 (some .int) ∈ tb := tb_in (i := 347) (by decide +kernel) rfl
theorem wm_X3_40 : Cond.methodLink RX3 40 yX1_clear ∈ tb := tb_in (i := 348) (by decide +kernel) rfl
theorem wm_X3_45 : Cond.methodLink RX3 45 yX3_skipBlanks ∈ tb := tb_in (i := 349) (by decide +kernel) rfl
theorem wi_X3_skipBlanks : Cond.instanceMethod yX3_skipBlanks ∈ tb := tb_in (i := 351) (by decide +kernel) rfl
theorem wc_X3_skipBlanks : Cond.code yX3_skipBlanks cX3_skipBlanks 1 none ∈ tb := tb_in (i := 352) (by decide +kernel) rfl
theorem wm_X3_48 : Cond.methodLink RX3 48 yX3_readClause ∈ tb := tb_in (i := 353) (by decide +kernel) rfl
theorem wi_X3_readClause : Cond.instanceMethod yX3_readClause ∈ tb := tb_in (i := 355) (by decide +kernel) rfl
theorem wc_X3_readClause : Cond.code yX3_readClause cX3_readClause 6 none ∈ tb := tb_in (i := 356) (by decide +kernel) rfl
theorem wm_X3_52 : Cond.methodLink RX3 52 yX3_endOfWord ∈ tb := tb_in (i := 357) (by decide +kernel) rfl
theorem wi_X3_endOfWord : Cond.instanceMethod yX3_endOfWord ∈ tb := tb_in (i := 359) (by decide +kernel) rfl
theorem wc_X3_endOfWord : Cond.code yX3_endOfWord cX3_endOfWord 2 (some .int) ∈ tb := tb_in (i := 360) (by decide +kernel) rfl
theorem wm_X3_56 : Cond.methodLink RX3 56 yX3_clauseOf ∈ tb := tb_in (i := 361) (by decide +kernel) rfl
theorem wi_X3_clauseOf : Cond.instanceMethod yX3_clauseOf ∈ tb := tb_in (i := 363) (by decide +kernel) rfl
theorem wc_X3_clauseOf : Cond.code yX3_clauseOf cX3_clauseOf 3 (some .int) ∈ tb := tb_in (i := 364) (by decide +kernel) rfl
theorem wm_X3_85 : Cond.methodLink RX3 85 yX3_isWord ∈ tb := tb_in (i := 366) (by decide +kernel) rfl
theorem wi_X3_isWord : Cond.instanceMethod yX3_isWord ∈ tb := tb_in (i := 368) (by decide +kernel) rfl
theorem wc_X3_isWord : Cond.code yX3_isWord cX3_isWord 5 (some .boolean) ∈ tb := tb_in (i := 369) (by decide +kernel) rfl
theorem wm_X3_155 : Cond.methodLink RX3 155 ⟨"java/lang/String", "length", "()I"⟩ ∈ tb := tb_in (i := 370) (by decide +kernel) rfl
theorem wm_X3_159 : Cond.methodLink RX3 159 ⟨"java/lang/String", "charAt", "(I)C"⟩ ∈ tb := tb_in (i := 380) (by decide +kernel) rfl
theorem wst_J_StringLatin1_charAt : Cond.static ⟨"java/lang/StringLatin1", "charAt", "([BI)C"⟩ ∈ tb := tb_in (i := 389) (by decide +kernel) rfl
theorem wst_J_String_checkIndex : Cond.static ⟨"java/lang/String", "checkIndex", "(II)V"⟩ ∈ tb := tb_in (i := 392) (by decide +kernel) rfl
theorem wst_J_Preconditions_checkIndex : Cond.static ⟨"jdk/internal/util/Preconditions", "checkIndex", "(IILjava/util/function/BiFunction;)I"⟩ ∈ tb := tb_in (i := 397) (by decide +kernel) rfl
theorem wst_J_StringUTF16_charAt : Cond.static ⟨"java/lang/StringUTF16", "charAt", "([BI)C"⟩ ∈ tb := tb_in (i := 400) (by decide +kernel) rfl
theorem wst_J_StringUTF16_checkIndex : Cond.static ⟨"java/lang/StringUTF16", "checkIndex", "(I[B)V"⟩ ∈ tb := tb_in (i := 403) (by decide +kernel) rfl
theorem wst_J_StringUTF16_length : Cond.static ⟨"java/lang/StringUTF16", "length", "([B)I"⟩ ∈ tb := tb_in (i := 406) (by decide +kernel) rfl
theorem wst_J_StringUTF16_getChar : Cond.static ⟨"java/lang/StringUTF16", "getChar", "([BI)C"⟩ ∈ tb := tb_in (i := 410) (by decide +kernel) rfl
theorem wm_X3_60 : Cond.methodLink RX3 60 yX3_whyNot ∈ tb := tb_in (i := 422) (by decide +kernel) rfl
theorem wi_X3_whyNot : Cond.instanceMethod yX3_whyNot ∈ tb := tb_in (i := 424) (by decide +kernel) rfl
theorem wc_X3_whyNot : Cond.code yX3_whyNot cX3_whyNot 3 (some .int) ∈ tb := tb_in (i := 425) (by decide +kernel) rfl
theorem wm_X3_97 : Cond.methodLink RX3 97 yX3_overMost ∈ tb := tb_in (i := 426) (by decide +kernel) rfl
theorem wst_X3_overMost : Cond.static yX3_overMost ∈ tb := tb_in (i := 427) (by decide +kernel) rfl
theorem wc_X3_overMost : Cond.code yX3_overMost cX3_overMost 2 (some .int) ∈ tb := tb_in (i := 428) (by decide +kernel) rfl
theorem wm_X3_64 : Cond.methodLink RX3 64 yX3_blame ∈ tb := tb_in (i := 429) (by decide +kernel) rfl
theorem wi_X3_blame : Cond.instanceMethod yX3_blame ∈ tb := tb_in (i := 431) (by decide +kernel) rfl
theorem wc_X3_blame : Cond.code yX3_blame cX3_blame 3 none ∈ tb := tb_in (i := 432) (by decide +kernel) rfl
theorem wm_X3_68 : Cond.methodLink RX3 68 yX3_readYear ∈ tb := tb_in (i := 433) (by decide +kernel) rfl
theorem wi_X3_readYear : Cond.instanceMethod yX3_readYear ∈ tb := tb_in (i := 435) (by decide +kernel) rfl
theorem wc_X3_readYear : Cond.code yX3_readYear cX3_readYear 3 none ∈ tb := tb_in (i := 436) (by decide +kernel) rfl
theorem wm_X3_109 : Cond.methodLink RX3 109 yX3_number ∈ tb := tb_in (i := 437) (by decide +kernel) rfl
theorem wi_X3_number : Cond.instanceMethod yX3_number ∈ tb := tb_in (i := 439) (by decide +kernel) rfl
theorem wc_X3_number : Cond.code yX3_number cX3_number 5 (some .int) ∈ tb := tb_in (i := 440) (by decide +kernel) rfl
theorem wm_X3_151 : Cond.methodLink RX3 151 yX3_isFigure ∈ tb := tb_in (i := 441) (by decide +kernel) rfl
theorem wst_X3_isFigure : Cond.static yX3_isFigure ∈ tb := tb_in (i := 442) (by decide +kernel) rfl
theorem wc_X3_isFigure : Cond.code yX3_isFigure cX3_isFigure 1 (some .boolean) ∈ tb := tb_in (i := 443) (by decide +kernel) rfl
theorem wm_X3_112 : Cond.methodLink RX3 112 yX3_endClause ∈ tb := tb_in (i := 444) (by decide +kernel) rfl
theorem wi_X3_endClause : Cond.instanceMethod yX3_endClause ∈ tb := tb_in (i := 446) (by decide +kernel) rfl
theorem wc_X3_endClause : Cond.code yX3_endClause cX3_endClause 1 none ∈ tb := tb_in (i := 447) (by decide +kernel) rfl
theorem wm_X3_131 : Cond.methodLink RX3 131 yX3_takes ∈ tb := tb_in (i := 448) (by decide +kernel) rfl
theorem wi_X3_takes : Cond.instanceMethod yX3_takes ∈ tb := tb_in (i := 450) (by decide +kernel) rfl
theorem wc_X3_takes : Cond.code yX3_takes cX3_takes 2 (some .boolean) ∈ tb := tb_in (i := 451) (by decide +kernel) rfl
theorem wm_X3_71 : Cond.methodLink RX3 71 yX3_readBridge ∈ tb := tb_in (i := 452) (by decide +kernel) rfl
theorem wi_X3_readBridge : Cond.instanceMethod yX3_readBridge ∈ tb := tb_in (i := 454) (by decide +kernel) rfl
theorem wc_X3_readBridge : Cond.code yX3_readBridge cX3_readBridge 3 none ∈ tb := tb_in (i := 455) (by decide +kernel) rfl
theorem wm_X3_117 : Cond.methodLink RX3 117 yX1_addBridge ∈ tb := tb_in (i := 456) (by decide +kernel) rfl
theorem wi_X1_addBridge : Cond.instanceMethod yX1_addBridge ∈ tb := tb_in (i := 457) (by decide +kernel) rfl
theorem wsl_X1_addBridge : Cond.selects RX1 yX1_addBridge yX1_addBridge ∈ tb := tb_in (i := 458) (by decide +kernel) rfl
theorem wc_X1_addBridge : Cond.code yX1_addBridge cX1_addBridge 2 none ∈ tb := tb_in (i := 459) (by decide +kernel) rfl
theorem wm_X3_74 : Cond.methodLink RX3 74 yX3_readMan ∈ tb := tb_in (i := 460) (by decide +kernel) rfl
theorem wi_X3_readMan : Cond.instanceMethod yX3_readMan ∈ tb := tb_in (i := 462) (by decide +kernel) rfl
theorem wc_X3_readMan : Cond.code yX3_readMan cX3_readMan 4 none ∈ tb := tb_in (i := 463) (by decide +kernel) rfl
theorem wm_X3_121 : Cond.methodLink RX3 121 yX1_addMan ∈ tb := tb_in (i := 464) (by decide +kernel) rfl
theorem wi_X1_addMan : Cond.instanceMethod yX1_addMan ∈ tb := tb_in (i := 465) (by decide +kernel) rfl
theorem wsl_X1_addMan : Cond.selects RX1 yX1_addMan yX1_addMan ∈ tb := tb_in (i := 466) (by decide +kernel) rfl
theorem wc_X1_addMan : Cond.code yX1_addMan cX1_addMan 3 none ∈ tb := tb_in (i := 467) (by decide +kernel) rfl
theorem wm_X3_77 : Cond.methodLink RX3 77 yX3_readKnows ∈ tb := tb_in (i := 468) (by decide +kernel) rfl
theorem wi_X3_readKnows : Cond.instanceMethod yX3_readKnows ∈ tb := tb_in (i := 470) (by decide +kernel) rfl
theorem wc_X3_readKnows : Cond.code yX3_readKnows cX3_readKnows 6 none ∈ tb := tb_in (i := 471) (by decide +kernel) rfl
theorem wm_X3_127 : Cond.methodLink RX3 127 yX3_readKnown ∈ tb := tb_in (i := 472) (by decide +kernel) rfl
theorem wi_X3_readKnown : Cond.instanceMethod yX3_readKnown ∈ tb := tb_in (i := 474) (by decide +kernel) rfl
theorem wc_X3_readKnown : Cond.code yX3_readKnown cX3_readKnown 4 none ∈ tb := tb_in (i := 475) (by decide +kernel) rfl
theorem wm_X3_135 : Cond.methodLink RX3 135 yX1_hasMan ∈ tb := tb_in (i := 476) (by decide +kernel) rfl
theorem wi_X1_hasMan : Cond.instanceMethod yX1_hasMan ∈ tb := tb_in (i := 477) (by decide +kernel) rfl
theorem wsl_X1_hasMan : Cond.selects RX1 yX1_hasMan yX1_hasMan ∈ tb := tb_in (i := 478) (by decide +kernel) rfl
theorem wc_X1_hasMan : Cond.code yX1_hasMan cX1_hasMan 2 (some .boolean) ∈ tb := tb_in (i := 479) (by decide +kernel) rfl
theorem wst_X6_has : Cond.static yX6_has ∈ tb := tb_in (i := 481) (by decide +kernel) rfl
theorem wc_X6_has : Cond.code yX6_has cX6_has 2 (some .boolean) ∈ tb := tb_in (i := 482) (by decide +kernel) rfl
theorem wm_X6_182 : Cond.methodLink RX6 182 yX6_bit ∈ tb := tb_in (i := 483) (by decide +kernel) rfl
theorem wst_X6_bit : Cond.static yX6_bit ∈ tb := tb_in (i := 484) (by decide +kernel) rfl
theorem wc_X6_bit : Cond.code yX6_bit cX6_bit 1 (some .int) ∈ tb := tb_in (i := 485) (by decide +kernel) rfl
theorem wm_X3_80 : Cond.methodLink RX3 80 yX3_readOx ∈ tb := tb_in (i := 487) (by decide +kernel) rfl
theorem wi_X3_readOx : Cond.instanceMethod yX3_readOx ∈ tb := tb_in (i := 489) (by decide +kernel) rfl
theorem wc_X3_readOx : Cond.code yX3_readOx cX3_readOx 4 none ∈ tb := tb_in (i := 490) (by decide +kernel) rfl
theorem wm_X3_124 : Cond.methodLink RX3 124 yX1_addOx ∈ tb := tb_in (i := 491) (by decide +kernel) rfl
theorem wi_X1_addOx : Cond.instanceMethod yX1_addOx ∈ tb := tb_in (i := 492) (by decide +kernel) rfl
theorem wsl_X1_addOx : Cond.selects RX1 yX1_addOx yX1_addOx ∈ tb := tb_in (i := 493) (by decide +kernel) rfl
theorem wc_X1_addOx : Cond.code yX1_addOx cX1_addOx 3 none ∈ tb := tb_in (i := 494) (by decide +kernel) rfl
theorem wm_X6_81 : Cond.methodLink RX6 81 yX1_copyFrom ∈ tb := tb_in (i := 495) (by decide +kernel) rfl
theorem wi_X1_copyFrom : Cond.instanceMethod yX1_copyFrom ∈ tb := tb_in (i := 496) (by decide +kernel) rfl
theorem wsl_X1_copyFrom : Cond.selects RX1 yX1_copyFrom yX1_copyFrom ∈ tb := tb_in (i := 497) (by decide +kernel) rfl
theorem wc_X1_copyFrom : Cond.code yX1_copyFrom cX1_copyFrom 2 none ∈ tb := tb_in (i := 498) (by decide +kernel) rfl
theorem wm_X1_46 : Cond.methodLink RX1 46 ⟨"java/lang/System", "arraycopy", "(Ljava/lang/Object;ILjava/lang/Object;II)V"⟩ ∈ tb := tb_in (i := 499) (by decide +kernel) rfl
theorem wst_J_System_arraycopy : Cond.static ⟨"java/lang/System", "arraycopy", "(Ljava/lang/Object;ILjava/lang/Object;II)V"⟩ ∈ tb := tb_in (i := 500) (by decide +kernel) rfl
theorem wnat_J_System_arraycopy : Cond.native ⟨"java/lang/System", "arraycopy", "(Ljava/lang/Object;ILjava/lang/Object;II)V"⟩ ∈ tb := tb_in (i := 501) (by decide +kernel) rfl
theorem wm_X6_84 : Cond.methodLink RX6 84 yX0_begin ∈ tb := tb_in (i := 502) (by decide +kernel) rfl
theorem wi_X0_begin : Cond.instanceMethod yX0_begin ∈ tb := tb_in (i := 503) (by decide +kernel) rfl
theorem wsl_X0_begin : Cond.selects RX0 yX0_begin yX0_begin ∈ tb := tb_in (i := 504) (by decide +kernel) rfl
theorem wc_X0_begin : Cond.code yX0_begin cX0_begin 1 none ∈ tb := tb_in (i := 505) (by decide +kernel) rfl
theorem wm_X0_44 : Cond.methodLink RX0 44 yX1_everybody ∈ tb := tb_in (i := 506) (by decide +kernel) rfl
theorem wi_X1_everybody : Cond.instanceMethod yX1_everybody ∈ tb := tb_in (i := 507) (by decide +kernel) rfl
theorem wsl_X1_everybody : Cond.selects RX1 yX1_everybody yX1_everybody ∈ tb := tb_in (i := 508) (by decide +kernel) rfl
theorem wc_X1_everybody : Cond.code yX1_everybody cX1_everybody 1 (some .int) ∈ tb := tb_in (i := 509) (by decide +kernel) rfl
theorem wm_X0_53 : Cond.methodLink RX0 53 ⟨"java/lang/System", "arraycopy", "(Ljava/lang/Object;ILjava/lang/Object;II)V"⟩ ∈ tb := tb_in (i := 511) (by decide +kernel) rfl
theorem wm_X6_87 : Cond.methodLink RX6 87 yX4_clear ∈ tb := tb_in (i := 512) (by decide +kernel) rfl
theorem wi_X4_clear : Cond.instanceMethod yX4_clear ∈ tb := tb_in (i := 513) (by decide +kernel) rfl
theorem wsl_X4_clear : Cond.selects RX4 yX4_clear yX4_clear ∈ tb := tb_in (i := 514) (by decide +kernel) rfl
theorem wc_X4_clear : Cond.code yX4_clear cX4_clear 2 none ∈ tb := tb_in (i := 515) (by decide +kernel) rfl
theorem wm_X6_90 : Cond.methodLink RX6 90 yX2_clear ∈ tb := tb_in (i := 516) (by decide +kernel) rfl
theorem wi_X2_clear : Cond.instanceMethod yX2_clear ∈ tb := tb_in (i := 517) (by decide +kernel) rfl
theorem wsl_X2_clear : Cond.selects RX2 yX2_clear yX2_clear ∈ tb := tb_in (i := 518) (by decide +kernel) rfl
theorem wc_X2_clear : Cond.code yX2_clear cX2_clear 1 none ∈ tb := tb_in (i := 519) (by decide +kernel) rfl
theorem wm_L_25 : Cond.methodLink RL 25 yX6_fault ∈ tb := tb_in (i := 520) (by decide +kernel) rfl
theorem wi_X6_fault : Cond.instanceMethod yX6_fault ∈ tb := tb_in (i := 521) (by decide +kernel) rfl
theorem wsl_X6_fault : Cond.selects RX6 yX6_fault yX6_fault ∈ tb := tb_in (i := 522) (by decide +kernel) rfl
theorem wc_X6_fault : Cond.code yX6_fault cX6_fault 1 (some .int) ∈ tb := tb_in (i := 523) (by decide +kernel) rfl
theorem wm_L_29 : Cond.methodLink RL 29 yX6_told ∈ tb := tb_in (i := 524) (by decide +kernel) rfl
theorem wi_X6_told : Cond.instanceMethod yX6_told ∈ tb := tb_in (i := 525) (by decide +kernel) rfl
theorem wsl_X6_told : Cond.selects RX6 yX6_told yX6_told ∈ tb := tb_in (i := 526) (by decide +kernel) rfl
theorem wc_X6_told : Cond.code yX6_told cX6_told 2 (some .int) ∈ tb := tb_in (i := 527) (by decide +kernel) rfl
theorem wm_L_34 : Cond.methodLink RL 34 yX6_bridge ∈ tb := tb_in (i := 528) (by decide +kernel) rfl
theorem wi_X6_bridge : Cond.instanceMethod yX6_bridge ∈ tb := tb_in (i := 529) (by decide +kernel) rfl
theorem wsl_X6_bridge : Cond.selects RX6 yX6_bridge yX6_bridge ∈ tb := tb_in (i := 530) (by decide +kernel) rfl
theorem wc_X6_bridge : Cond.code yX6_bridge cX6_bridge 3 (some .int) ∈ tb := tb_in (i := 531) (by decide +kernel) rfl
theorem wm_X6_116 : Cond.methodLink RX6 116 yX1_hasBridge ∈ tb := tb_in (i := 532) (by decide +kernel) rfl
theorem wi_X1_hasBridge : Cond.instanceMethod yX1_hasBridge ∈ tb := tb_in (i := 533) (by decide +kernel) rfl
theorem wsl_X1_hasBridge : Cond.selects RX1 yX1_hasBridge yX1_hasBridge ∈ tb := tb_in (i := 534) (by decide +kernel) rfl
theorem wc_X1_hasBridge : Cond.code yX1_hasBridge cX1_hasBridge 2 (some .boolean) ∈ tb := tb_in (i := 535) (by decide +kernel) rfl
theorem wk_X6_120 : Cond.constant RX6 120 (-1000000001) ∈ tb := tb_in (i := 536) (by decide +kernel) rfl
theorem wm_X6_128 : Cond.methodLink RX6 128 yX0_allRemembered ∈ tb := tb_in (i := 537) (by decide +kernel) rfl
theorem wi_X0_allRemembered : Cond.instanceMethod yX0_allRemembered ∈ tb := tb_in (i := 538) (by decide +kernel) rfl
theorem wsl_X0_allRemembered : Cond.selects RX0 yX0_allRemembered yX0_allRemembered ∈ tb := tb_in (i := 539) (by decide +kernel) rfl
theorem wc_X0_allRemembered : Cond.code yX0_allRemembered cX0_allRemembered 4 (some .int) ∈ tb := tb_in (i := 540) (by decide +kernel) rfl
theorem wm_X0_69 : Cond.methodLink RX0 69 yX0_isRemembered ∈ tb := tb_in (i := 541) (by decide +kernel) rfl
theorem wi_X0_isRemembered : Cond.instanceMethod yX0_isRemembered ∈ tb := tb_in (i := 542) (by decide +kernel) rfl
theorem wsl_X0_isRemembered : Cond.selects RX0 yX0_isRemembered yX0_isRemembered ∈ tb := tb_in (i := 543) (by decide +kernel) rfl
theorem wc_X0_isRemembered : Cond.code yX0_isRemembered cX0_isRemembered 4 (some .boolean) ∈ tb := tb_in (i := 544) (by decide +kernel) rfl
theorem wst_X6_slot : Cond.static yX6_slot ∈ tb := tb_in (i := 546) (by decide +kernel) rfl
theorem wc_X6_slot : Cond.code yX6_slot cX6_slot 2 (some .int) ∈ tb := tb_in (i := 547) (by decide +kernel) rfl
theorem wm_L_39 : Cond.methodLink RL 39 yX6_man ∈ tb := tb_in (i := 549) (by decide +kernel) rfl
theorem wi_X6_man : Cond.instanceMethod yX6_man ∈ tb := tb_in (i := 550) (by decide +kernel) rfl
theorem wsl_X6_man : Cond.selects RX6 yX6_man yX6_man ∈ tb := tb_in (i := 551) (by decide +kernel) rfl
theorem wc_X6_man : Cond.code yX6_man cX6_man 3 (some .int) ∈ tb := tb_in (i := 552) (by decide +kernel) rfl
theorem wm_X6_132 : Cond.methodLink RX6 132 yX1_hasMan ∈ tb := tb_in (i := 553) (by decide +kernel) rfl
theorem wm_X6_141 : Cond.methodLink RX6 141 yX6_has ∈ tb := tb_in (i := 554) (by decide +kernel) rfl
theorem wm_L_43 : Cond.methodLink RL 43 yX6_ox ∈ tb := tb_in (i := 555) (by decide +kernel) rfl
theorem wi_X6_ox : Cond.instanceMethod yX6_ox ∈ tb := tb_in (i := 556) (by decide +kernel) rfl
theorem wsl_X6_ox : Cond.selects RX6 yX6_ox yX6_ox ∈ tb := tb_in (i := 557) (by decide +kernel) rfl
theorem wc_X6_ox : Cond.code yX6_ox cX6_ox 3 (some .int) ∈ tb := tb_in (i := 558) (by decide +kernel) rfl
theorem wm_X6_148 : Cond.methodLink RX6 148 yX1_hasOx ∈ tb := tb_in (i := 559) (by decide +kernel) rfl
theorem wi_X1_hasOx : Cond.instanceMethod yX1_hasOx ∈ tb := tb_in (i := 560) (by decide +kernel) rfl
theorem wsl_X1_hasOx : Cond.selects RX1 yX1_hasOx yX1_hasOx ∈ tb := tb_in (i := 561) (by decide +kernel) rfl
theorem wc_X1_hasOx : Cond.code yX1_hasOx cX1_hasOx 2 (some .boolean) ∈ tb := tb_in (i := 562) (by decide +kernel) rfl
theorem wm_L_47 : Cond.methodLink RL 47 yX6_named ∈ tb := tb_in (i := 563) (by decide +kernel) rfl
theorem wi_X6_named : Cond.instanceMethod yX6_named ∈ tb := tb_in (i := 564) (by decide +kernel) rfl
theorem wsl_X6_named : Cond.selects RX6 yX6_named yX6_named ∈ tb := tb_in (i := 565) (by decide +kernel) rfl
theorem wc_X6_named : Cond.code yX6_named cX6_named 3 (some .int) ∈ tb := tb_in (i := 566) (by decide +kernel) rfl
theorem wm_X6_160 : Cond.methodLink RX6 160 yX6_slot ∈ tb := tb_in (i := 567) (by decide +kernel) rfl
theorem wk_X6_164 : Cond.constant RX6 164 (-1000000003) ∈ tb := tb_in (i := 568) (by decide +kernel) rfl
theorem wm_L_51 : Cond.methodLink RL 51 yX6_cross ∈ tb := tb_in (i := 569) (by decide +kernel) rfl
theorem wi_X6_cross : Cond.instanceMethod yX6_cross ∈ tb := tb_in (i := 570) (by decide +kernel) rfl
theorem wsl_X6_cross : Cond.selects RX6 yX6_cross yX6_cross ∈ tb := tb_in (i := 571) (by decide +kernel) rfl
theorem wc_X6_cross : Cond.code yX6_cross cX6_cross 4 (some .int) ∈ tb := tb_in (i := 572) (by decide +kernel) rfl
theorem wm_X6_165 : Cond.methodLink RX6 165 yX1_mayName ∈ tb := tb_in (i := 573) (by decide +kernel) rfl
theorem wi_X1_mayName : Cond.instanceMethod yX1_mayName ∈ tb := tb_in (i := 574) (by decide +kernel) rfl
theorem wsl_X1_mayName : Cond.selects RX1 yX1_mayName yX1_mayName ∈ tb := tb_in (i := 575) (by decide +kernel) rfl
theorem wc_X1_mayName : Cond.code yX1_mayName cX1_mayName 3 (some .boolean) ∈ tb := tb_in (i := 576) (by decide +kernel) rfl
theorem wm_X1_52 : Cond.methodLink RX1 52 yX1_hasMan ∈ tb := tb_in (i := 577) (by decide +kernel) rfl
theorem wm_X1_56 : Cond.methodLink RX1 56 yX1_arePair ∈ tb := tb_in (i := 578) (by decide +kernel) rfl
theorem wi_X1_arePair : Cond.instanceMethod yX1_arePair ∈ tb := tb_in (i := 579) (by decide +kernel) rfl
theorem wsl_X1_arePair : Cond.selects RX1 yX1_arePair yX1_arePair ∈ tb := tb_in (i := 580) (by decide +kernel) rfl
theorem wc_X1_arePair : Cond.code yX1_arePair cX1_arePair 3 (some .boolean) ∈ tb := tb_in (i := 581) (by decide +kernel) rfl
theorem wm_X6_168 : Cond.methodLink RX6 168 yX0_toCome ∈ tb := tb_in (i := 582) (by decide +kernel) rfl
theorem wi_X0_toCome : Cond.instanceMethod yX0_toCome ∈ tb := tb_in (i := 583) (by decide +kernel) rfl
theorem wsl_X0_toCome : Cond.selects RX0 yX0_toCome yX0_toCome ∈ tb := tb_in (i := 584) (by decide +kernel) rfl
theorem wc_X0_toCome : Cond.code yX0_toCome cX0_toCome 2 (some .int) ∈ tb := tb_in (i := 585) (by decide +kernel) rfl
theorem wm_X6_171 : Cond.methodLink RX6 171 yX0_go ∈ tb := tb_in (i := 586) (by decide +kernel) rfl
theorem wi_X0_go : Cond.instanceMethod yX0_go ∈ tb := tb_in (i := 587) (by decide +kernel) rfl
theorem wsl_X0_go : Cond.selects RX0 yX0_go yX0_go ∈ tb := tb_in (i := 588) (by decide +kernel) rfl
theorem wc_X0_go : Cond.code yX0_go cX0_go 5 (some .int) ∈ tb := tb_in (i := 589) (by decide +kernel) rfl
theorem wm_X0_89 : Cond.methodLink RX0 89 yX0_goesAlone ∈ tb := tb_in (i := 590) (by decide +kernel) rfl
theorem wi_X0_goesAlone : Cond.instanceMethod yX0_goesAlone ∈ tb := tb_in (i := 591) (by decide +kernel) rfl
theorem wsl_X0_goesAlone : Cond.selects RX0 yX0_goesAlone yX0_goesAlone ∈ tb := tb_in (i := 592) (by decide +kernel) rfl
theorem wc_X0_goesAlone : Cond.code yX0_goesAlone cX0_goesAlone 4 (some .boolean) ∈ tb := tb_in (i := 593) (by decide +kernel) rfl
theorem wm_X0_80 : Cond.methodLink RX0 80 yX1_heavierThan ∈ tb := tb_in (i := 594) (by decide +kernel) rfl
theorem wi_X1_heavierThan : Cond.instanceMethod yX1_heavierThan ∈ tb := tb_in (i := 595) (by decide +kernel) rfl
theorem wsl_X1_heavierThan : Cond.selects RX1 yX1_heavierThan yX1_heavierThan ∈ tb := tb_in (i := 596) (by decide +kernel) rfl
theorem wc_X1_heavierThan : Cond.code yX1_heavierThan cX1_heavierThan 4 (some .int) ∈ tb := tb_in (i := 597) (by decide +kernel) rfl
theorem wm_X0_83 : Cond.methodLink RX0 83 yX1_yearOf ∈ tb := tb_in (i := 598) (by decide +kernel) rfl
theorem wi_X1_yearOf : Cond.instanceMethod yX1_yearOf ∈ tb := tb_in (i := 599) (by decide +kernel) rfl
theorem wsl_X1_yearOf : Cond.selects RX1 yX1_yearOf yX1_yearOf ∈ tb := tb_in (i := 600) (by decide +kernel) rfl
theorem wc_X1_yearOf : Cond.code yX1_yearOf cX1_yearOf 2 (some .int) ∈ tb := tb_in (i := 601) (by decide +kernel) rfl
theorem wm_X0_92 : Cond.methodLink RX0 92 yX0_helpers ∈ tb := tb_in (i := 602) (by decide +kernel) rfl
theorem wi_X0_helpers : Cond.instanceMethod yX0_helpers ∈ tb := tb_in (i := 603) (by decide +kernel) rfl
theorem wsl_X0_helpers : Cond.selects RX0 yX0_helpers yX0_helpers ∈ tb := tb_in (i := 604) (by decide +kernel) rfl
theorem wc_X0_helpers : Cond.code yX0_helpers cX0_helpers 3 (some .int) ∈ tb := tb_in (i := 605) (by decide +kernel) rfl
theorem wm_X0_86 : Cond.methodLink RX0 86 yX0_toCome ∈ tb := tb_in (i := 606) (by decide +kernel) rfl
theorem wm_L_56 : Cond.methodLink RL 56 yX6_evening ∈ tb := tb_in (i := 608) (by decide +kernel) rfl
theorem wi_X6_evening : Cond.instanceMethod yX6_evening ∈ tb := tb_in (i := 609) (by decide +kernel) rfl
theorem wsl_X6_evening : Cond.selects RX6 yX6_evening yX6_evening ∈ tb := tb_in (i := 610) (by decide +kernel) rfl
theorem wc_X6_evening : Cond.code yX6_evening cX6_evening 1 (some .int) ∈ tb := tb_in (i := 611) (by decide +kernel) rfl
theorem wm_X6_175 : Cond.methodLink RX6 175 yX0_endDay ∈ tb := tb_in (i := 612) (by decide +kernel) rfl
theorem wi_X0_endDay : Cond.instanceMethod yX0_endDay ∈ tb := tb_in (i := 613) (by decide +kernel) rfl
theorem wsl_X0_endDay : Cond.selects RX0 yX0_endDay yX0_endDay ∈ tb := tb_in (i := 614) (by decide +kernel) rfl
theorem wc_X0_endDay : Cond.code yX0_endDay cX0_endDay 5 (some .int) ∈ tb := tb_in (i := 615) (by decide +kernel) rfl
theorem wm_X0_101 : Cond.methodLink RX0 101 yX0_liarsAt ∈ tb := tb_in (i := 616) (by decide +kernel) rfl
theorem wi_X0_liarsAt : Cond.instanceMethod yX0_liarsAt ∈ tb := tb_in (i := 618) (by decide +kernel) rfl
theorem wc_X0_liarsAt : Cond.code yX0_liarsAt cX0_liarsAt 5 (some .int) ∈ tb := tb_in (i := 619) (by decide +kernel) rfl
theorem wm_L_60 : Cond.methodLink RL 60 yX6_know ∈ tb := tb_in (i := 620) (by decide +kernel) rfl
theorem wi_X6_know : Cond.instanceMethod yX6_know ∈ tb := tb_in (i := 621) (by decide +kernel) rfl
theorem wsl_X6_know : Cond.selects RX6 yX6_know yX6_know ∈ tb := tb_in (i := 622) (by decide +kernel) rfl
theorem wc_X6_know : Cond.code yX6_know cX6_know 5 (some .int) ∈ tb := tb_in (i := 623) (by decide +kernel) rfl
theorem wm_X6_179 : Cond.methodLink RX6 179 yX1_arePair ∈ tb := tb_in (i := 624) (by decide +kernel) rfl
theorem wm_L_65 : Cond.methodLink RL 65 yX6_drift ∈ tb := tb_in (i := 625) (by decide +kernel) rfl
theorem wi_X6_drift : Cond.instanceMethod yX6_drift ∈ tb := tb_in (i := 626) (by decide +kernel) rfl
theorem wsl_X6_drift : Cond.selects RX6 yX6_drift yX6_drift ∈ tb := tb_in (i := 627) (by decide +kernel) rfl
theorem wc_X6_drift : Cond.code yX6_drift cX6_drift 3 (some .int) ∈ tb := tb_in (i := 628) (by decide +kernel) rfl
theorem wm_X6_185 : Cond.methodLink RX6 185 yX0_drawDay ∈ tb := tb_in (i := 629) (by decide +kernel) rfl
theorem wi_X0_drawDay : Cond.instanceMethod yX0_drawDay ∈ tb := tb_in (i := 630) (by decide +kernel) rfl
theorem wsl_X0_drawDay : Cond.selects RX0 yX0_drawDay yX0_drawDay ∈ tb := tb_in (i := 631) (by decide +kernel) rfl
theorem wc_X0_drawDay : Cond.code yX0_drawDay cX0_drawDay 2 none ∈ tb := tb_in (i := 632) (by decide +kernel) rfl
theorem wm_X0_104 : Cond.methodLink RX0 104 yX0_draw ∈ tb := tb_in (i := 633) (by decide +kernel) rfl
theorem wi_X0_draw : Cond.instanceMethod yX0_draw ∈ tb := tb_in (i := 635) (by decide +kernel) rfl
theorem wc_X0_draw : Cond.code yX0_draw cX0_draw 2 (some .int) ∈ tb := tb_in (i := 636) (by decide +kernel) rfl
theorem wk_X0_125 : Cond.constantLong RX0 125 (1103515245) ∈ tb := tb_in (i := 637) (by decide +kernel) rfl
theorem wk_X0_127 : Cond.constantLong RX0 127 (12345) ∈ tb := tb_in (i := 638) (by decide +kernel) rfl
theorem wk_X0_129 : Cond.constantLong RX0 129 (2147483647) ∈ tb := tb_in (i := 639) (by decide +kernel) rfl
theorem wk_X0_131 : Cond.constant RX0 131 (65536) ∈ tb := tb_in (i := 640) (by decide +kernel) rfl
theorem wm_X0_110 : Cond.methodLink RX0 110 yX0_drawCrossing ∈ tb := tb_in (i := 641) (by decide +kernel) rfl
theorem wi_X0_drawCrossing : Cond.instanceMethod yX0_drawCrossing ∈ tb := tb_in (i := 643) (by decide +kernel) rfl
theorem wc_X0_drawCrossing : Cond.code yX0_drawCrossing cX0_drawCrossing 4 none ∈ tb := tb_in (i := 644) (by decide +kernel) rfl
theorem wm_X0_117 : Cond.methodLink RX0 117 yX1_hasBridge ∈ tb := tb_in (i := 645) (by decide +kernel) rfl
theorem wm_X0_121 : Cond.methodLink RX0 121 yX0_go ∈ tb := tb_in (i := 646) (by decide +kernel) rfl
theorem wm_X0_114 : Cond.methodLink RX0 114 yX0_endDay ∈ tb := tb_in (i := 647) (by decide +kernel) rfl
theorem wm_L_69 : Cond.methodLink RL 69 yX6_most ∈ tb := tb_in (i := 648) (by decide +kernel) rfl
theorem wi_X6_most : Cond.instanceMethod yX6_most ∈ tb := tb_in (i := 649) (by decide +kernel) rfl
theorem wsl_X6_most : Cond.selects RX6 yX6_most yX6_most ∈ tb := tb_in (i := 650) (by decide +kernel) rfl
theorem wc_X6_most : Cond.code yX6_most cX6_most 4 (some .int) ∈ tb := tb_in (i := 651) (by decide +kernel) rfl
theorem wm_X6_188 : Cond.methodLink RX6 188 yX5_lineUp ∈ tb := tb_in (i := 652) (by decide +kernel) rfl
theorem wi_X5_lineUp : Cond.instanceMethod yX5_lineUp ∈ tb := tb_in (i := 653) (by decide +kernel) rfl
theorem wsl_X5_lineUp : Cond.selects RX5 yX5_lineUp yX5_lineUp ∈ tb := tb_in (i := 654) (by decide +kernel) rfl
theorem wc_X5_lineUp : Cond.code yX5_lineUp cX5_lineUp 5 (some .int) ∈ tb := tb_in (i := 655) (by decide +kernel) rfl
theorem wm_X5_66 : Cond.methodLink RX5 66 yX5_lookAt ∈ tb := tb_in (i := 656) (by decide +kernel) rfl
theorem wi_X5_lookAt : Cond.instanceMethod yX5_lookAt ∈ tb := tb_in (i := 658) (by decide +kernel) rfl
theorem wc_X5_lookAt : Cond.code yX5_lookAt cX5_lookAt 3 none ∈ tb := tb_in (i := 659) (by decide +kernel) rfl
theorem wm_X5_39 : Cond.methodLink RX5 39 yX0_toCome ∈ tb := tb_in (i := 660) (by decide +kernel) rfl
theorem wm_X5_50 : Cond.methodLink RX5 50 yX0_helpers ∈ tb := tb_in (i := 661) (by decide +kernel) rfl
theorem wm_X5_57 : Cond.methodLink RX5 57 yX0_goesAlone ∈ tb := tb_in (i := 663) (by decide +kernel) rfl
theorem wm_X5_63 : Cond.methodLink RX5 63 yX0_isRemembered ∈ tb := tb_in (i := 665) (by decide +kernel) rfl
theorem wm_X5_70 : Cond.methodLink RX5 70 yX5_mostSet ∈ tb := tb_in (i := 666) (by decide +kernel) rfl
theorem wi_X5_mostSet : Cond.instanceMethod yX5_mostSet ∈ tb := tb_in (i := 668) (by decide +kernel) rfl
theorem wc_X5_mostSet : Cond.code yX5_mostSet cX5_mostSet 3 (some .int) ∈ tb := tb_in (i := 669) (by decide +kernel) rfl
theorem wm_X5_77 : Cond.methodLink RX5 77 yX5_passing ∈ tb := tb_in (i := 670) (by decide +kernel) rfl
theorem wi_X5_passing : Cond.instanceMethod yX5_passing ∈ tb := tb_in (i := 672) (by decide +kernel) rfl
theorem wc_X5_passing : Cond.code yX5_passing cX5_passing 4 (some .int) ∈ tb := tb_in (i := 673) (by decide +kernel) rfl
theorem wm_X5_80 : Cond.methodLink RX5 80 yX5_passes ∈ tb := tb_in (i := 674) (by decide +kernel) rfl
theorem wi_X5_passes : Cond.instanceMethod yX5_passes ∈ tb := tb_in (i := 676) (by decide +kernel) rfl
theorem wc_X5_passes : Cond.code yX5_passes cX5_passes 3 (some .boolean) ∈ tb := tb_in (i := 677) (by decide +kernel) rfl
theorem wm_X5_74 : Cond.methodLink RX5 74 yX5_nextInLine ∈ tb := tb_in (i := 678) (by decide +kernel) rfl
theorem wi_X5_nextInLine : Cond.instanceMethod yX5_nextInLine ∈ tb := tb_in (i := 680) (by decide +kernel) rfl
theorem wc_X5_nextInLine : Cond.code yX5_nextInLine cX5_nextInLine 4 (some .int) ∈ tb := tb_in (i := 681) (by decide +kernel) rfl
theorem wm_L_73 : Cond.methodLink RL 73 yX6_names ∈ tb := tb_in (i := 682) (by decide +kernel) rfl
theorem wi_X6_names : Cond.instanceMethod yX6_names ∈ tb := tb_in (i := 683) (by decide +kernel) rfl
theorem wsl_X6_names : Cond.selects RX6 yX6_names yX6_names ∈ tb := tb_in (i := 684) (by decide +kernel) rfl
theorem wc_X6_names : Cond.code yX6_names cX6_names 4 (some .int) ∈ tb := tb_in (i := 685) (by decide +kernel) rfl
theorem wm_X6_194 : Cond.methodLink RX6 194 yX5_nameInLine ∈ tb := tb_in (i := 686) (by decide +kernel) rfl
theorem wi_X5_nameInLine : Cond.instanceMethod yX5_nameInLine ∈ tb := tb_in (i := 687) (by decide +kernel) rfl
theorem wsl_X5_nameInLine : Cond.selects RX5 yX5_nameInLine yX5_nameInLine ∈ tb := tb_in (i := 688) (by decide +kernel) rfl
theorem wc_X5_nameInLine : Cond.code yX5_nameInLine cX5_nameInLine 4 (some .int) ∈ tb := tb_in (i := 689) (by decide +kernel) rfl
theorem wm_L_77 : Cond.methodLink RL 77 yX6_tellings ∈ tb := tb_in (i := 690) (by decide +kernel) rfl
theorem wi_X6_tellings : Cond.instanceMethod yX6_tellings ∈ tb := tb_in (i := 691) (by decide +kernel) rfl
theorem wsl_X6_tellings : Cond.selects RX6 yX6_tellings yX6_tellings ∈ tb := tb_in (i := 692) (by decide +kernel) rfl
theorem wc_X6_tellings : Cond.code yX6_tellings cX6_tellings 2 (some .int) ∈ tb := tb_in (i := 693) (by decide +kernel) rfl
theorem wm_X6_197 : Cond.methodLink RX6 197 yX5_fewestTold ∈ tb := tb_in (i := 694) (by decide +kernel) rfl
theorem wi_X5_fewestTold : Cond.instanceMethod yX5_fewestTold ∈ tb := tb_in (i := 695) (by decide +kernel) rfl
theorem wsl_X5_fewestTold : Cond.selects RX5 yX5_fewestTold yX5_fewestTold ∈ tb := tb_in (i := 696) (by decide +kernel) rfl
theorem wc_X5_fewestTold : Cond.code yX5_fewestTold cX5_fewestTold 4 (some .int) ∈ tb := tb_in (i := 697) (by decide +kernel) rfl
theorem wm_X5_86 : Cond.methodLink RX5 86 yX1_heavierThan ∈ tb := tb_in (i := 698) (by decide +kernel) rfl
theorem wm_L_81 : Cond.methodLink RL 81 yX6_hired ∈ tb := tb_in (i := 699) (by decide +kernel) rfl
theorem wi_X6_hired : Cond.instanceMethod yX6_hired ∈ tb := tb_in (i := 700) (by decide +kernel) rfl
theorem wsl_X6_hired : Cond.selects RX6 yX6_hired yX6_hired ∈ tb := tb_in (i := 701) (by decide +kernel) rfl
theorem wc_X6_hired : Cond.code yX6_hired cX6_hired 4 (some .int) ∈ tb := tb_in (i := 702) (by decide +kernel) rfl
theorem wm_X6_200 : Cond.methodLink RX6 200 yX5_cheapestOxen ∈ tb := tb_in (i := 703) (by decide +kernel) rfl
theorem wi_X5_cheapestOxen : Cond.instanceMethod yX5_cheapestOxen ∈ tb := tb_in (i := 704) (by decide +kernel) rfl
theorem wsl_X5_cheapestOxen : Cond.selects RX5 yX5_cheapestOxen yX5_cheapestOxen ∈ tb := tb_in (i := 705) (by decide +kernel) rfl
theorem wc_X5_cheapestOxen : Cond.code yX5_cheapestOxen cX5_cheapestOxen 5 (some .int) ∈ tb := tb_in (i := 706) (by decide +kernel) rfl
theorem wm_X5_92 : Cond.methodLink RX5 92 yX1_priceOf ∈ tb := tb_in (i := 707) (by decide +kernel) rfl
theorem wi_X1_priceOf : Cond.instanceMethod yX1_priceOf ∈ tb := tb_in (i := 708) (by decide +kernel) rfl
theorem wsl_X1_priceOf : Cond.selects RX1 yX1_priceOf yX1_priceOf ∈ tb := tb_in (i := 709) (by decide +kernel) rfl
theorem wc_X1_priceOf : Cond.code yX1_priceOf cX1_priceOf 4 (some .int) ∈ tb := tb_in (i := 710) (by decide +kernel) rfl
theorem wm_X5_95 : Cond.methodLink RX5 95 yX5_allPassBefore ∈ tb := tb_in (i := 712) (by decide +kernel) rfl
theorem wi_X5_allPassBefore : Cond.instanceMethod yX5_allPassBefore ∈ tb := tb_in (i := 714) (by decide +kernel) rfl
theorem wc_X5_allPassBefore : Cond.code yX5_allPassBefore cX5_allPassBefore 5 (some .boolean) ∈ tb := tb_in (i := 715) (by decide +kernel) rfl
theorem wm_X5_99 : Cond.methodLink RX5 99 yX1_heaviestOx ∈ tb := tb_in (i := 716) (by decide +kernel) rfl
theorem wi_X1_heaviestOx : Cond.instanceMethod yX1_heaviestOx ∈ tb := tb_in (i := 717) (by decide +kernel) rfl
theorem wsl_X1_heaviestOx : Cond.selects RX1 yX1_heaviestOx yX1_heaviestOx ∈ tb := tb_in (i := 718) (by decide +kernel) rfl
theorem wc_X1_heaviestOx : Cond.code yX1_heaviestOx cX1_heaviestOx 4 (some .int) ∈ tb := tb_in (i := 719) (by decide +kernel) rfl
theorem wm_X1_67 : Cond.methodLink RX1 67 ⟨"java/lang/Math", "max", "(II)I"⟩ ∈ tb := tb_in (i := 720) (by decide +kernel) rfl
theorem wst_J_Math_max : Cond.static ⟨"java/lang/Math", "max", "(II)I"⟩ ∈ tb := tb_in (i := 721) (by decide +kernel) rfl
theorem wm_X6_203 : Cond.methodLink RX6 203 yX1_priceOf ∈ tb := tb_in (i := 723) (by decide +kernel) rfl
theorem wm_L_85 : Cond.methodLink RL 85 yX6_found ∈ tb := tb_in (i := 724) (by decide +kernel) rfl
theorem wi_X6_found : Cond.instanceMethod yX6_found ∈ tb := tb_in (i := 725) (by decide +kernel) rfl
theorem wsl_X6_found : Cond.selects RX6 yX6_found yX6_found ∈ tb := tb_in (i := 726) (by decide +kernel) rfl
theorem wc_X6_found : Cond.code yX6_found cX6_found 2 (some .int) ∈ tb := tb_in (i := 727) (by decide +kernel) rfl
theorem wm_X6_206 : Cond.methodLink RX6 206 yX0_saidUnlike ∈ tb := tb_in (i := 728) (by decide +kernel) rfl
theorem wi_X0_saidUnlike : Cond.instanceMethod yX0_saidUnlike ∈ tb := tb_in (i := 729) (by decide +kernel) rfl
theorem wsl_X0_saidUnlike : Cond.selects RX0 yX0_saidUnlike yX0_saidUnlike ∈ tb := tb_in (i := 730) (by decide +kernel) rfl
theorem wc_X0_saidUnlike : Cond.code yX0_saidUnlike cX0_saidUnlike 5 (some .int) ∈ tb := tb_in (i := 731) (by decide +kernel) rfl
theorem wm_X6_209 : Cond.methodLink RX6 209 yX0_saidTheDead ∈ tb := tb_in (i := 732) (by decide +kernel) rfl
theorem wi_X0_saidTheDead : Cond.instanceMethod yX0_saidTheDead ∈ tb := tb_in (i := 733) (by decide +kernel) rfl
theorem wsl_X0_saidTheDead : Cond.selects RX0 yX0_saidTheDead yX0_saidTheDead ∈ tb := tb_in (i := 734) (by decide +kernel) rfl
theorem wc_X0_saidTheDead : Cond.code yX0_saidTheDead cX0_saidTheDead 5 (some .int) ∈ tb := tb_in (i := 735) (by decide +kernel) rfl
theorem wm_L_89 : Cond.methodLink RL 89 yX6_whom ∈ tb := tb_in (i := 736) (by decide +kernel) rfl
theorem wi_X6_whom : Cond.instanceMethod yX6_whom ∈ tb := tb_in (i := 737) (by decide +kernel) rfl
theorem wsl_X6_whom : Cond.selects RX6 yX6_whom yX6_whom ∈ tb := tb_in (i := 738) (by decide +kernel) rfl
theorem wc_X6_whom : Cond.code yX6_whom cX6_whom 3 (some .int) ∈ tb := tb_in (i := 739) (by decide +kernel) rfl
theorem wm_X6_212 : Cond.methodLink RX6 212 yX0_helpers ∈ tb := tb_in (i := 740) (by decide +kernel) rfl
theorem wm_X6_215 : Cond.methodLink RX6 215 yX1_likeliest ∈ tb := tb_in (i := 741) (by decide +kernel) rfl
theorem wi_X1_likeliest : Cond.instanceMethod yX1_likeliest ∈ tb := tb_in (i := 742) (by decide +kernel) rfl
theorem wsl_X1_likeliest : Cond.selects RX1 yX1_likeliest yX1_likeliest ∈ tb := tb_in (i := 743) (by decide +kernel) rfl
theorem wc_X1_likeliest : Cond.code yX1_likeliest cX1_likeliest 4 (some .int) ∈ tb := tb_in (i := 744) (by decide +kernel) rfl
theorem wm_L_93 : Cond.methodLink RL 93 yX6_see ∈ tb := tb_in (i := 745) (by decide +kernel) rfl
theorem wi_X6_see : Cond.instanceMethod yX6_see ∈ tb := tb_in (i := 746) (by decide +kernel) rfl
theorem wsl_X6_see : Cond.selects RX6 yX6_see yX6_see ∈ tb := tb_in (i := 747) (by decide +kernel) rfl
theorem wc_X6_see : Cond.code yX6_see cX6_see 4 (some .int) ∈ tb := tb_in (i := 748) (by decide +kernel) rfl
theorem wm_X6_218 : Cond.methodLink RX6 218 yX4_add ∈ tb := tb_in (i := 749) (by decide +kernel) rfl
theorem wi_X4_add : Cond.instanceMethod yX4_add ∈ tb := tb_in (i := 750) (by decide +kernel) rfl
theorem wsl_X4_add : Cond.selects RX4 yX4_add yX4_add ∈ tb := tb_in (i := 751) (by decide +kernel) rfl
theorem wc_X4_add : Cond.code yX4_add cX4_add 3 (some .int) ∈ tb := tb_in (i := 752) (by decide +kernel) rfl
theorem wm_L_97 : Cond.methodLink RL 97 yX6_orders ∈ tb := tb_in (i := 754) (by decide +kernel) rfl
theorem wi_X6_orders : Cond.instanceMethod yX6_orders ∈ tb := tb_in (i := 755) (by decide +kernel) rfl
theorem wsl_X6_orders : Cond.selects RX6 yX6_orders yX6_orders ∈ tb := tb_in (i := 756) (by decide +kernel) rfl
theorem wc_X6_orders : Cond.code yX6_orders cX6_orders 1 (some .int) ∈ tb := tb_in (i := 757) (by decide +kernel) rfl
theorem wm_X6_220 : Cond.methodLink RX6 220 yX4_countOrders ∈ tb := tb_in (i := 758) (by decide +kernel) rfl
theorem wi_X4_countOrders : Cond.instanceMethod yX4_countOrders ∈ tb := tb_in (i := 759) (by decide +kernel) rfl
theorem wsl_X4_countOrders : Cond.selects RX4 yX4_countOrders yX4_countOrders ∈ tb := tb_in (i := 760) (by decide +kernel) rfl
theorem wc_X4_countOrders : Cond.code yX4_countOrders cX4_countOrders 6 (some .int) ∈ tb := tb_in (i := 761) (by decide +kernel) rfl
theorem wm_X4_26 : Cond.methodLink RX4 26 ⟨"java/lang/Math", "min", "(II)I"⟩ ∈ tb := tb_in (i := 762) (by decide +kernel) rfl
theorem wst_J_Math_min : Cond.static ⟨"java/lang/Math", "min", "(II)I"⟩ ∈ tb := tb_in (i := 763) (by decide +kernel) rfl
theorem wm_L_101 : Cond.methodLink RL 101 yX6_heavier ∈ tb := tb_in (i := 765) (by decide +kernel) rfl
theorem wi_X6_heavier : Cond.instanceMethod yX6_heavier ∈ tb := tb_in (i := 766) (by decide +kernel) rfl
theorem wsl_X6_heavier : Cond.selects RX6 yX6_heavier yX6_heavier ∈ tb := tb_in (i := 767) (by decide +kernel) rfl
theorem wc_X6_heavier : Cond.code yX6_heavier cX6_heavier 2 (some .int) ∈ tb := tb_in (i := 768) (by decide +kernel) rfl
theorem wm_X6_223 : Cond.methodLink RX6 223 yX4_alwaysBehind ∈ tb := tb_in (i := 769) (by decide +kernel) rfl
theorem wi_X4_alwaysBehind : Cond.instanceMethod yX4_alwaysBehind ∈ tb := tb_in (i := 770) (by decide +kernel) rfl
theorem wsl_X4_alwaysBehind : Cond.selects RX4 yX4_alwaysBehind yX4_alwaysBehind ∈ tb := tb_in (i := 771) (by decide +kernel) rfl
theorem wc_X4_alwaysBehind : Cond.code yX4_alwaysBehind cX4_alwaysBehind 6 (some .int) ∈ tb := tb_in (i := 772) (by decide +kernel) rfl
theorem wm_X4_32 : Cond.methodLink RX4 32 yX4_countOrders ∈ tb := tb_in (i := 773) (by decide +kernel) rfl
theorem wm_L_105 : Cond.methodLink RL 105 yX6_row ∈ tb := tb_in (i := 774) (by decide +kernel) rfl
theorem wi_X6_row : Cond.instanceMethod yX6_row ∈ tb := tb_in (i := 775) (by decide +kernel) rfl
theorem wsl_X6_row : Cond.selects RX6 yX6_row yX6_row ∈ tb := tb_in (i := 776) (by decide +kernel) rfl
theorem wc_X6_row : Cond.code yX6_row cX6_row 3 (some .int) ∈ tb := tb_in (i := 777) (by decide +kernel) rfl
theorem wm_X6_226 : Cond.methodLink RX6 226 yX2_add ∈ tb := tb_in (i := 778) (by decide +kernel) rfl
theorem wi_X2_add : Cond.instanceMethod yX2_add ∈ tb := tb_in (i := 779) (by decide +kernel) rfl
theorem wsl_X2_add : Cond.selects RX2 yX2_add yX2_add ∈ tb := tb_in (i := 780) (by decide +kernel) rfl
theorem wc_X2_add : Cond.code yX2_add cX2_add 3 (some .int) ∈ tb := tb_in (i := 781) (by decide +kernel) rfl
theorem wm_L_109 : Cond.methodLink RL 109 yX6_odds ∈ tb := tb_in (i := 782) (by decide +kernel) rfl
theorem wi_X6_odds : Cond.instanceMethod yX6_odds ∈ tb := tb_in (i := 783) (by decide +kernel) rfl
theorem wsl_X6_odds : Cond.selects RX6 yX6_odds yX6_odds ∈ tb := tb_in (i := 784) (by decide +kernel) rfl
theorem wc_X6_odds : Cond.code yX6_odds cX6_odds 1 (some .int) ∈ tb := tb_in (i := 785) (by decide +kernel) rfl
theorem wm_X6_227 : Cond.methodLink RX6 227 yX2_allNamed ∈ tb := tb_in (i := 786) (by decide +kernel) rfl
theorem wi_X2_allNamed : Cond.instanceMethod yX2_allNamed ∈ tb := tb_in (i := 787) (by decide +kernel) rfl
theorem wsl_X2_allNamed : Cond.selects RX2 yX2_allNamed yX2_allNamed ∈ tb := tb_in (i := 788) (by decide +kernel) rfl
theorem wc_X2_allNamed : Cond.code yX2_allNamed cX2_allNamed 3 (some .int) ∈ tb := tb_in (i := 789) (by decide +kernel) rfl
theorem wm_X6_230 : Cond.methodLink RX6 230 yX1_oddsOf ∈ tb := tb_in (i := 791) (by decide +kernel) rfl
theorem wi_X1_oddsOf : Cond.instanceMethod yX1_oddsOf ∈ tb := tb_in (i := 792) (by decide +kernel) rfl
theorem wsl_X1_oddsOf : Cond.selects RX1 yX1_oddsOf yX1_oddsOf ∈ tb := tb_in (i := 793) (by decide +kernel) rfl
theorem wc_X1_oddsOf : Cond.code yX1_oddsOf cX1_oddsOf 5 (some .int) ∈ tb := tb_in (i := 794) (by decide +kernel) rfl
theorem wk_X1_73 : Cond.constantLong RX1 73 (1000000000) ∈ tb := tb_in (i := 795) (by decide +kernel) rfl
theorem wk_X1_75 : Cond.constantLong RX1 75 (100) ∈ tb := tb_in (i := 796) (by decide +kernel) rfl
theorem wm_L_113 : Cond.methodLink RL 113 yX6_wrong ∈ tb := tb_in (i := 797) (by decide +kernel) rfl
theorem wi_X6_wrong : Cond.instanceMethod yX6_wrong ∈ tb := tb_in (i := 798) (by decide +kernel) rfl
theorem wsl_X6_wrong : Cond.selects RX6 yX6_wrong yX6_wrong ∈ tb := tb_in (i := 799) (by decide +kernel) rfl
theorem wc_X6_wrong : Cond.code yX6_wrong cX6_wrong 2 (some .int) ∈ tb := tb_in (i := 800) (by decide +kernel) rfl
theorem wm_X6_233 : Cond.methodLink RX6 233 yX2_firstWrong ∈ tb := tb_in (i := 801) (by decide +kernel) rfl
theorem wi_X2_firstWrong : Cond.instanceMethod yX2_firstWrong ∈ tb := tb_in (i := 802) (by decide +kernel) rfl
theorem wsl_X2_firstWrong : Cond.selects RX2 yX2_firstWrong yX2_firstWrong ∈ tb := tb_in (i := 803) (by decide +kernel) rfl
theorem wc_X2_firstWrong : Cond.code yX2_firstWrong cX2_firstWrong 4 (some .int) ∈ tb := tb_in (i := 804) (by decide +kernel) rfl
theorem wm_X2_26 : Cond.methodLink RX2 26 yX2_firstEaten ∈ tb := tb_in (i := 805) (by decide +kernel) rfl
theorem wi_X2_firstEaten : Cond.instanceMethod yX2_firstEaten ∈ tb := tb_in (i := 807) (by decide +kernel) rfl
theorem wc_X2_firstEaten : Cond.code yX2_firstEaten cX2_firstEaten 6 (some .int) ∈ tb := tb_in (i := 808) (by decide +kernel) rfl
theorem wm_X2_34 : Cond.methodLink RX2 34 yX0_toCome ∈ tb := tb_in (i := 809) (by decide +kernel) rfl
theorem wm_X2_39 : Cond.methodLink RX2 39 yX0_goesAlone ∈ tb := tb_in (i := 810) (by decide +kernel) rfl
theorem wm_X2_43 : Cond.methodLink RX2 43 yX0_helpers ∈ tb := tb_in (i := 811) (by decide +kernel) rfl
theorem wm_X2_30 : Cond.methodLink RX2 30 yX2_firstLiar ∈ tb := tb_in (i := 813) (by decide +kernel) rfl
theorem wi_X2_firstLiar : Cond.instanceMethod yX2_firstLiar ∈ tb := tb_in (i := 815) (by decide +kernel) rfl
theorem wc_X2_firstLiar : Cond.code yX2_firstLiar cX2_firstLiar 4 (some .int) ∈ tb := tb_in (i := 816) (by decide +kernel) rfl
theorem wm_L_117 : Cond.methodLink RL 117 yX6_tear ∈ tb := tb_in (i := 817) (by decide +kernel) rfl
theorem wi_X6_tear : Cond.instanceMethod yX6_tear ∈ tb := tb_in (i := 818) (by decide +kernel) rfl
theorem wsl_X6_tear : Cond.selects RX6 yX6_tear yX6_tear ∈ tb := tb_in (i := 819) (by decide +kernel) rfl
theorem wc_X6_tear : Cond.code yX6_tear cX6_tear 2 (some .int) ∈ tb := tb_in (i := 820) (by decide +kernel) rfl
theorem wm_L_121 : Cond.methodLink RL 121 yX6_seed ∈ tb := tb_in (i := 821) (by decide +kernel) rfl
theorem wi_X6_seed : Cond.instanceMethod yX6_seed ∈ tb := tb_in (i := 822) (by decide +kernel) rfl
theorem wsl_X6_seed : Cond.selects RX6 yX6_seed yX6_seed ∈ tb := tb_in (i := 823) (by decide +kernel) rfl
theorem wc_X6_seed : Cond.code yX6_seed cX6_seed 3 (some .int) ∈ tb := tb_in (i := 824) (by decide +kernel) rfl
theorem wm_L_125 : Cond.methodLink RL 125 yX6_keep ∈ tb := tb_in (i := 825) (by decide +kernel) rfl
theorem wi_X6_keep : Cond.instanceMethod yX6_keep ∈ tb := tb_in (i := 826) (by decide +kernel) rfl
theorem wsl_X6_keep : Cond.selects RX6 yX6_keep yX6_keep ∈ tb := tb_in (i := 827) (by decide +kernel) rfl
theorem wc_X6_keep : Cond.code yX6_keep cX6_keep 2 (some .int) ∈ tb := tb_in (i := 828) (by decide +kernel) rfl
theorem wm_X6_240 : Cond.methodLink RX6 240 yX6_isImage ∈ tb := tb_in (i := 829) (by decide +kernel) rfl
theorem wst_X6_isImage : Cond.static yX6_isImage ∈ tb := tb_in (i := 830) (by decide +kernel) rfl
theorem wc_X6_isImage : Cond.code yX6_isImage cX6_isImage 1 (some .boolean) ∈ tb := tb_in (i := 831) (by decide +kernel) rfl
theorem wm_X6_243 : Cond.methodLink RX6 243 yX6_image ∈ tb := tb_in (i := 832) (by decide +kernel) rfl
theorem wi_X6_image : Cond.instanceMethod yX6_image ∈ tb := tb_in (i := 834) (by decide +kernel) rfl
theorem wc_X6_image : Cond.code yX6_image cX6_image 2 (some (.object "HeavierToCome$Days")) ∈ tb := tb_in (i := 835) (by decide +kernel) rfl
theorem wm_X6_247 : Cond.methodLink RX6 247 yX0_copyFrom ∈ tb := tb_in (i := 836) (by decide +kernel) rfl
theorem wi_X0_copyFrom : Cond.instanceMethod yX0_copyFrom ∈ tb := tb_in (i := 837) (by decide +kernel) rfl
theorem wsl_X0_copyFrom : Cond.selects RX0 yX0_copyFrom yX0_copyFrom ∈ tb := tb_in (i := 838) (by decide +kernel) rfl
theorem wc_X0_copyFrom : Cond.code yX0_copyFrom cX0_copyFrom 2 none ∈ tb := tb_in (i := 839) (by decide +kernel) rfl
theorem wm_L_129 : Cond.methodLink RL 129 yX6_goBack ∈ tb := tb_in (i := 840) (by decide +kernel) rfl
theorem wi_X6_goBack : Cond.instanceMethod yX6_goBack ∈ tb := tb_in (i := 841) (by decide +kernel) rfl
theorem wsl_X6_goBack : Cond.selects RX6 yX6_goBack yX6_goBack ∈ tb := tb_in (i := 842) (by decide +kernel) rfl
theorem wc_X6_goBack : Cond.code yX6_goBack cX6_goBack 2 (some .int) ∈ tb := tb_in (i := 843) (by decide +kernel) rfl
theorem wcl_L_10 : Cond.classLink RL 10 RX7 ∈ tb := tb_in (i := 844) (by decide +kernel) rfl
theorem wit_X7 : Cond.instantiable RX7 50 ∈ tb := tb_in (i := 845) (by decide +kernel) rfl
theorem wm_L_12 : Cond.methodLink RL 12 yX7_init ∈ tb := tb_in (i := 846) (by decide +kernel) rfl
theorem wi_X7_init : Cond.instanceMethod yX7_init ∈ tb := tb_in (i := 847) (by decide +kernel) rfl
theorem wc_X7_init : Cond.code yX7_init cX7_init 1 none ∈ tb := tb_in (i := 848) (by decide +kernel) rfl
theorem wm_X7_1 : Cond.methodLink RX7 1 ⟨"java/lang/Object", "<init>", "()V"⟩ ∈ tb := tb_in (i := 849) (by decide +kernel) rfl
theorem wf_X7_7 : Cond.fieldLink RX7 7 "HeavierToComeModel" "year" "I" ∈ tb := tb_in (i := 850) (by decide +kernel) rfl
theorem wf_X7_105 : Cond.fieldLink RX7 105 "HeavierToComeModel" "bridges" "I" ∈ tb := tb_in (i := 851) (by decide +kernel) rfl
theorem wf_X7_13 : Cond.fieldLink RX7 13 "HeavierToComeModel" "forgets" "[I" ∈ tb := tb_in (i := 852) (by decide +kernel) rfl
theorem wf_X7_102 : Cond.fieldLink RX7 102 "HeavierToComeModel" "men" "I" ∈ tb := tb_in (i := 853) (by decide +kernel) rfl
theorem wf_X7_17 : Cond.fieldLink RX7 17 "HeavierToComeModel" "weight" "[I" ∈ tb := tb_in (i := 854) (by decide +kernel) rfl
theorem wf_X7_20 : Cond.fieldLink RX7 20 "HeavierToComeModel" "comes" "[I" ∈ tb := tb_in (i := 855) (by decide +kernel) rfl
theorem wf_X7_223 : Cond.fieldLink RX7 223 "HeavierToComeModel" "oxen" "I" ∈ tb := tb_in (i := 856) (by decide +kernel) rfl
theorem wf_X7_23 : Cond.fieldLink RX7 23 "HeavierToComeModel" "oxWeight" "[I" ∈ tb := tb_in (i := 857) (by decide +kernel) rfl
theorem wf_X7_26 : Cond.fieldLink RX7 26 "HeavierToComeModel" "oxPrice" "[I" ∈ tb := tb_in (i := 858) (by decide +kernel) rfl
theorem wf_X7_29 : Cond.fieldLink RX7 29 "HeavierToComeModel" "knows" "[I" ∈ tb := tb_in (i := 859) (by decide +kernel) rfl
theorem wf_X7_226 : Cond.fieldLink RX7 226 "HeavierToComeModel" "alive" "I" ∈ tb := tb_in (i := 860) (by decide +kernel) rfl
theorem wf_X7_229 : Cond.fieldLink RX7 229 "HeavierToComeModel" "day" "I" ∈ tb := tb_in (i := 861) (by decide +kernel) rfl
theorem wf_X7_32 : Cond.fieldLink RX7 32 "HeavierToComeModel" "over" "[I" ∈ tb := tb_in (i := 862) (by decide +kernel) rfl
theorem wf_X7_35 : Cond.fieldLink RX7 35 "HeavierToComeModel" "named" "[I" ∈ tb := tb_in (i := 863) (by decide +kernel) rfl
theorem wf_X7_38 : Cond.fieldLink RX7 38 "HeavierToComeModel" "lieDay" "[I" ∈ tb := tb_in (i := 864) (by decide +kernel) rfl
theorem wf_X7_41 : Cond.fieldLink RX7 41 "HeavierToComeModel" "aloneYear" "[I" ∈ tb := tb_in (i := 865) (by decide +kernel) rfl
theorem wf_X7_270 : Cond.fieldLink RX7 270 "HeavierToComeModel" "seed" "I" ∈ tb := tb_in (i := 866) (by decide +kernel) rfl
theorem wf_X7_44 : Cond.fieldLink RX7 44 "HeavierToComeModel" "text" "[I" ∈ tb := tb_in (i := 867) (by decide +kernel) rfl
theorem wf_X7_119 : Cond.fieldLink RX7 119 "HeavierToComeModel" "texted" "I" ∈ tb := tb_in (i := 868) (by decide +kernel) rfl
theorem wf_X7_47 : Cond.fieldLink RX7 47 "HeavierToComeModel" "faultPlace" "I" ∈ tb := tb_in (i := 869) (by decide +kernel) rfl
theorem wf_X7_125 : Cond.fieldLink RX7 125 "HeavierToComeModel" "at0" "I" ∈ tb := tb_in (i := 870) (by decide +kernel) rfl
theorem wf_X7_132 : Cond.fieldLink RX7 132 "HeavierToComeModel" "said" "J" ∈ tb := tb_in (i := 871) (by decide +kernel) rfl
theorem wf_X7_136 : Cond.fieldLink RX7 136 "HeavierToComeModel" "wordEnd" "I" ∈ tb := tb_in (i := 872) (by decide +kernel) rfl
theorem wf_X7_162 : Cond.fieldLink RX7 162 "HeavierToComeModel" "number" "I" ∈ tb := tb_in (i := 873) (by decide +kernel) rfl
theorem wf_X7_159 : Cond.fieldLink RX7 159 "HeavierToComeModel" "numberAt" "I" ∈ tb := tb_in (i := 874) (by decide +kernel) rfl
theorem wf_X7_168 : Cond.fieldLink RX7 168 "HeavierToComeModel" "readYear" "I" ∈ tb := tb_in (i := 875) (by decide +kernel) rfl
theorem wf_X7_202 : Cond.fieldLink RX7 202 "HeavierToComeModel" "readClauses" "I" ∈ tb := tb_in (i := 876) (by decide +kernel) rfl
theorem wf_X7_171 : Cond.fieldLink RX7 171 "HeavierToComeModel" "readBridges" "I" ∈ tb := tb_in (i := 877) (by decide +kernel) rfl
theorem wf_X7_50 : Cond.fieldLink RX7 50 "HeavierToComeModel" "readForgets" "[I" ∈ tb := tb_in (i := 878) (by decide +kernel) rfl
theorem wf_X7_178 : Cond.fieldLink RX7 178 "HeavierToComeModel" "readMen" "I" ∈ tb := tb_in (i := 879) (by decide +kernel) rfl
theorem wf_X7_53 : Cond.fieldLink RX7 53 "HeavierToComeModel" "readWeight" "[I" ∈ tb := tb_in (i := 880) (by decide +kernel) rfl
theorem wf_X7_56 : Cond.fieldLink RX7 56 "HeavierToComeModel" "readComes" "[I" ∈ tb := tb_in (i := 881) (by decide +kernel) rfl
theorem wf_X7_181 : Cond.fieldLink RX7 181 "HeavierToComeModel" "readMany" "I" ∈ tb := tb_in (i := 882) (by decide +kernel) rfl
theorem wf_X7_59 : Cond.fieldLink RX7 59 "HeavierToComeModel" "readKnows" "[I" ∈ tb := tb_in (i := 883) (by decide +kernel) rfl
theorem wf_X7_188 : Cond.fieldLink RX7 188 "HeavierToComeModel" "readOxen" "I" ∈ tb := tb_in (i := 884) (by decide +kernel) rfl
theorem wf_X7_62 : Cond.fieldLink RX7 62 "HeavierToComeModel" "readOx" "[I" ∈ tb := tb_in (i := 885) (by decide +kernel) rfl
theorem wf_X7_65 : Cond.fieldLink RX7 65 "HeavierToComeModel" "readPrice" "[I" ∈ tb := tb_in (i := 886) (by decide +kernel) rfl
theorem wf_X7_68 : Cond.fieldLink RX7 68 "HeavierToComeModel" "order" "[I" ∈ tb := tb_in (i := 887) (by decide +kernel) rfl
theorem wf_X7_71 : Cond.fieldLink RX7 71 "HeavierToComeModel" "orderNames" "[I" ∈ tb := tb_in (i := 888) (by decide +kernel) rfl
theorem wf_X7_232 : Cond.fieldLink RX7 232 "HeavierToComeModel" "sights" "I" ∈ tb := tb_in (i := 889) (by decide +kernel) rfl
theorem wf_X7_74 : Cond.fieldLink RX7 74 "HeavierToComeModel" "seenWho" "[I" ∈ tb := tb_in (i := 890) (by decide +kernel) rfl
theorem wf_X7_77 : Cond.fieldLink RX7 77 "HeavierToComeModel" "seenNamed" "[I" ∈ tb := tb_in (i := 891) (by decide +kernel) rfl
theorem wf_X7_80 : Cond.fieldLink RX7 80 "HeavierToComeModel" "seenLetGo" "[Z" ∈ tb := tb_in (i := 892) (by decide +kernel) rfl
theorem wf_X7_84 : Cond.fieldLink RX7 84 "HeavierToComeModel" "placeIn" "[I" ∈ tb := tb_in (i := 893) (by decide +kernel) rfl
theorem wf_X7_87 : Cond.fieldLink RX7 87 "HeavierToComeModel" "behind" "[I" ∈ tb := tb_in (i := 894) (by decide +kernel) rfl
theorem wf_X7_235 : Cond.fieldLink RX7 235 "HeavierToComeModel" "rowMany" "I" ∈ tb := tb_in (i := 895) (by decide +kernel) rfl
theorem wf_X7_90 : Cond.fieldLink RX7 90 "HeavierToComeModel" "rowWho" "[I" ∈ tb := tb_in (i := 896) (by decide +kernel) rfl
theorem wf_X7_93 : Cond.fieldLink RX7 93 "HeavierToComeModel" "rowNames" "[I" ∈ tb := tb_in (i := 897) (by decide +kernel) rfl
theorem wf_X7_96 : Cond.fieldLink RX7 96 "HeavierToComeModel" "images" "[I" ∈ tb := tb_in (i := 898) (by decide +kernel) rfl
theorem wf_X7_99 : Cond.fieldLink RX7 99 "HeavierToComeModel" "isKept" "[Z" ∈ tb := tb_in (i := 899) (by decide +kernel) rfl
theorem wac_boolean : Cond.arrayClass .boolean ∈ tb := tb_in (i := 1001) (by decide +kernel) rfl
theorem wm_L_19 : Cond.methodLink RL 19 yX7_feed ∈ tb := tb_in (i := 1002) (by decide +kernel) rfl
theorem wi_X7_feed : Cond.instanceMethod yX7_feed ∈ tb := tb_in (i := 1003) (by decide +kernel) rfl
theorem wsl_X7_feed : Cond.selects RX7 yX7_feed yX7_feed ∈ tb := tb_in (i := 1004) (by decide +kernel) rfl
theorem wc_X7_feed : Cond.code yX7_feed cX7_feed 5 (some .int) ∈ tb := tb_in (i := 1005) (by decide +kernel) rfl
theorem wk_X7_116 : Cond.constantLong RX7 116 (8) ∈ tb := tb_in (i := 1006) (by decide +kernel) rfl
theorem wm_X7_108 : Cond.methodLink RX7 108 yX7_in ∈ tb := tb_in (i := 1007) (by decide +kernel) rfl
theorem wst_X7_in : Cond.static yX7_in ∈ tb := tb_in (i := 1008) (by decide +kernel) rfl
theorem wc_X7_in : Cond.code yX7_in cX7_in 6 (some .boolean) ∈ tb := tb_in (i := 1009) (by decide +kernel) rfl
theorem wk_X7_118 : Cond.constant RX7 118 (-1000000002) ∈ tb := tb_in (i := 1010) (by decide +kernel) rfl
theorem wk_X7_122 : Cond.constant RX7 122 (-1000000004) ∈ tb := tb_in (i := 1011) (by decide +kernel) rfl
theorem wk_X7_123 : Cond.constantLong RX7 123 (255) ∈ tb := tb_in (i := 1012) (by decide +kernel) rfl
theorem wm_L_24 : Cond.methodLink RL 24 yX7_hills ∈ tb := tb_in (i := 1013) (by decide +kernel) rfl
theorem wi_X7_hills : Cond.instanceMethod yX7_hills ∈ tb := tb_in (i := 1014) (by decide +kernel) rfl
theorem wsl_X7_hills : Cond.selects RX7 yX7_hills yX7_hills ∈ tb := tb_in (i := 1015) (by decide +kernel) rfl
theorem wc_X7_hills : Cond.code yX7_hills cX7_hills 3 (some .int) ∈ tb := tb_in (i := 1016) (by decide +kernel) rfl
theorem wm_X7_128 : Cond.methodLink RX7 128 yX7_here ∈ tb := tb_in (i := 1017) (by decide +kernel) rfl
theorem wi_X7_here : Cond.instanceMethod yX7_here ∈ tb := tb_in (i := 1019) (by decide +kernel) rfl
theorem wc_X7_here : Cond.code yX7_here cX7_here 1 (some .int) ∈ tb := tb_in (i := 1020) (by decide +kernel) rfl
theorem wm_X7_220 : Cond.methodLink RX7 220 yX7_takeClause ∈ tb := tb_in (i := 1021) (by decide +kernel) rfl
theorem wi_X7_takeClause : Cond.instanceMethod yX7_takeClause ∈ tb := tb_in (i := 1023) (by decide +kernel) rfl
theorem wc_X7_takeClause : Cond.code yX7_takeClause cX7_takeClause 5 (some .int) ∈ tb := tb_in (i := 1024) (by decide +kernel) rfl
theorem wm_X7_191 : Cond.methodLink RX7 191 yX7_readWord ∈ tb := tb_in (i := 1025) (by decide +kernel) rfl
theorem wi_X7_readWord : Cond.instanceMethod yX7_readWord ∈ tb := tb_in (i := 1027) (by decide +kernel) rfl
theorem wc_X7_readWord : Cond.code yX7_readWord cX7_readWord 2 none ∈ tb := tb_in (i := 1028) (by decide +kernel) rfl
theorem wk_X7_139 : Cond.constantLong RX7 139 (97) ∈ tb := tb_in (i := 1029) (by decide +kernel) rfl
theorem wk_X7_141 : Cond.constantLong RX7 141 (122) ∈ tb := tb_in (i := 1030) (by decide +kernel) rfl
theorem wk_X7_143 : Cond.constantLong RX7 143 (100000000000000) ∈ tb := tb_in (i := 1031) (by decide +kernel) rfl
theorem wk_X7_145 : Cond.constantLong RX7 145 (200000000000000) ∈ tb := tb_in (i := 1032) (by decide +kernel) rfl
theorem wk_X7_147 : Cond.constantLong RX7 147 (27) ∈ tb := tb_in (i := 1033) (by decide +kernel) rfl
theorem wk_X7_149 : Cond.constantLong RX7 149 (96) ∈ tb := tb_in (i := 1034) (by decide +kernel) rfl
theorem wm_X7_194 : Cond.methodLink RX7 194 yX7_code ∈ tb := tb_in (i := 1035) (by decide +kernel) rfl
theorem wst_X7_code : Cond.static yX7_code ∈ tb := tb_in (i := 1036) (by decide +kernel) rfl
theorem wc_X7_code : Cond.code yX7_code cX7_code 3 (some .long) ∈ tb := tb_in (i := 1037) (by decide +kernel) rfl
theorem wm_X7_198 : Cond.methodLink RX7 198 yX7_more ∈ tb := tb_in (i := 1038) (by decide +kernel) rfl
theorem wst_X7_more : Cond.static yX7_more ∈ tb := tb_in (i := 1039) (by decide +kernel) rfl
theorem wc_X7_more : Cond.code yX7_more cX7_more 3 (some .long) ∈ tb := tb_in (i := 1040) (by decide +kernel) rfl
theorem wm_X7_155 : Cond.methodLink RX7 155 yX7_fails ∈ tb := tb_in (i := 1041) (by decide +kernel) rfl
theorem wi_X7_fails : Cond.instanceMethod yX7_fails ∈ tb := tb_in (i := 1043) (by decide +kernel) rfl
theorem wc_X7_fails : Cond.code yX7_fails cX7_fails 3 (some .int) ∈ tb := tb_in (i := 1044) (by decide +kernel) rfl
theorem wm_X7_205 : Cond.methodLink RX7 205 yX7_takeYear ∈ tb := tb_in (i := 1045) (by decide +kernel) rfl
theorem wi_X7_takeYear : Cond.instanceMethod yX7_takeYear ∈ tb := tb_in (i := 1047) (by decide +kernel) rfl
theorem wc_X7_takeYear : Cond.code yX7_takeYear cX7_takeYear 2 (some .int) ∈ tb := tb_in (i := 1048) (by decide +kernel) rfl
theorem wm_X7_165 : Cond.methodLink RX7 165 yX7_takeNumber ∈ tb := tb_in (i := 1049) (by decide +kernel) rfl
theorem wi_X7_takeNumber : Cond.instanceMethod yX7_takeNumber ∈ tb := tb_in (i := 1051) (by decide +kernel) rfl
theorem wc_X7_takeNumber : Cond.code yX7_takeNumber cX7_takeNumber 4 (some .int) ∈ tb := tb_in (i := 1052) (by decide +kernel) rfl
theorem wk_X7_151 : Cond.constantLong RX7 151 (48) ∈ tb := tb_in (i := 1053) (by decide +kernel) rfl
theorem wk_X7_153 : Cond.constantLong RX7 153 (57) ∈ tb := tb_in (i := 1054) (by decide +kernel) rfl
theorem wm_X7_208 : Cond.methodLink RX7 208 yX7_takeBridge ∈ tb := tb_in (i := 1055) (by decide +kernel) rfl
theorem wi_X7_takeBridge : Cond.instanceMethod yX7_takeBridge ∈ tb := tb_in (i := 1057) (by decide +kernel) rfl
theorem wc_X7_takeBridge : Cond.code yX7_takeBridge cX7_takeBridge 1 (some .int) ∈ tb := tb_in (i := 1058) (by decide +kernel) rfl
theorem wm_X7_174 : Cond.methodLink RX7 174 yX7_into ∈ tb := tb_in (i := 1059) (by decide +kernel) rfl
theorem wi_X7_into : Cond.instanceMethod yX7_into ∈ tb := tb_in (i := 1061) (by decide +kernel) rfl
theorem wc_X7_into : Cond.code yX7_into cX7_into 6 (some .int) ∈ tb := tb_in (i := 1062) (by decide +kernel) rfl
theorem wm_X7_211 : Cond.methodLink RX7 211 yX7_takeMan ∈ tb := tb_in (i := 1063) (by decide +kernel) rfl
theorem wi_X7_takeMan : Cond.instanceMethod yX7_takeMan ∈ tb := tb_in (i := 1065) (by decide +kernel) rfl
theorem wc_X7_takeMan : Cond.code yX7_takeMan cX7_takeMan 3 (some .int) ∈ tb := tb_in (i := 1066) (by decide +kernel) rfl
theorem wm_X7_214 : Cond.methodLink RX7 214 yX7_takeKnows ∈ tb := tb_in (i := 1067) (by decide +kernel) rfl
theorem wi_X7_takeKnows : Cond.instanceMethod yX7_takeKnows ∈ tb := tb_in (i := 1069) (by decide +kernel) rfl
theorem wc_X7_takeKnows : Cond.code yX7_takeKnows cX7_takeKnows 4 (some .int) ∈ tb := tb_in (i := 1070) (by decide +kernel) rfl
theorem wm_X7_184 : Cond.methodLink RX7 184 yX7_has ∈ tb := tb_in (i := 1071) (by decide +kernel) rfl
theorem wst_X7_has : Cond.static yX7_has ∈ tb := tb_in (i := 1072) (by decide +kernel) rfl
theorem wc_X7_has : Cond.code yX7_has cX7_has 2 (some .boolean) ∈ tb := tb_in (i := 1073) (by decide +kernel) rfl
theorem wm_X7_217 : Cond.methodLink RX7 217 yX7_takeOx ∈ tb := tb_in (i := 1074) (by decide +kernel) rfl
theorem wi_X7_takeOx : Cond.instanceMethod yX7_takeOx ∈ tb := tb_in (i := 1076) (by decide +kernel) rfl
theorem wc_X7_takeOx : Cond.code yX7_takeOx cX7_takeOx 3 (some .int) ∈ tb := tb_in (i := 1077) (by decide +kernel) rfl
theorem wm_L_28 : Cond.methodLink RL 28 yX7_fault ∈ tb := tb_in (i := 1078) (by decide +kernel) rfl
theorem wi_X7_fault : Cond.instanceMethod yX7_fault ∈ tb := tb_in (i := 1079) (by decide +kernel) rfl
theorem wsl_X7_fault : Cond.selects RX7 yX7_fault yX7_fault ∈ tb := tb_in (i := 1080) (by decide +kernel) rfl
theorem wc_X7_fault : Cond.code yX7_fault cX7_fault 1 (some .int) ∈ tb := tb_in (i := 1081) (by decide +kernel) rfl
theorem wm_L_33 : Cond.methodLink RL 33 yX7_told ∈ tb := tb_in (i := 1082) (by decide +kernel) rfl
theorem wi_X7_told : Cond.instanceMethod yX7_told ∈ tb := tb_in (i := 1083) (by decide +kernel) rfl
theorem wsl_X7_told : Cond.selects RX7 yX7_told yX7_told ∈ tb := tb_in (i := 1084) (by decide +kernel) rfl
theorem wc_X7_told : Cond.code yX7_told cX7_told 2 (some .int) ∈ tb := tb_in (i := 1085) (by decide +kernel) rfl
theorem wm_L_38 : Cond.methodLink RL 38 yX7_bridge ∈ tb := tb_in (i := 1086) (by decide +kernel) rfl
theorem wi_X7_bridge : Cond.instanceMethod yX7_bridge ∈ tb := tb_in (i := 1087) (by decide +kernel) rfl
theorem wsl_X7_bridge : Cond.selects RX7 yX7_bridge yX7_bridge ∈ tb := tb_in (i := 1088) (by decide +kernel) rfl
theorem wc_X7_bridge : Cond.code yX7_bridge cX7_bridge 3 (some .int) ∈ tb := tb_in (i := 1089) (by decide +kernel) rfl
theorem wm_X7_241 : Cond.methodLink RX7 241 yX7_isBridge ∈ tb := tb_in (i := 1090) (by decide +kernel) rfl
theorem wi_X7_isBridge : Cond.instanceMethod yX7_isBridge ∈ tb := tb_in (i := 1092) (by decide +kernel) rfl
theorem wc_X7_isBridge : Cond.code yX7_isBridge cX7_isBridge 2 (some .boolean) ∈ tb := tb_in (i := 1093) (by decide +kernel) rfl
theorem wk_X7_244 : Cond.constant RX7 244 (-1000000001) ∈ tb := tb_in (i := 1094) (by decide +kernel) rfl
theorem wm_X7_245 : Cond.methodLink RX7 245 yX7_rememberedAt ∈ tb := tb_in (i := 1095) (by decide +kernel) rfl
theorem wi_X7_rememberedAt : Cond.instanceMethod yX7_rememberedAt ∈ tb := tb_in (i := 1097) (by decide +kernel) rfl
theorem wc_X7_rememberedAt : Cond.code yX7_rememberedAt cX7_rememberedAt 4 (some .int) ∈ tb := tb_in (i := 1098) (by decide +kernel) rfl
theorem wm_X7_238 : Cond.methodLink RX7 238 yX7_isRemembered ∈ tb := tb_in (i := 1099) (by decide +kernel) rfl
theorem wi_X7_isRemembered : Cond.instanceMethod yX7_isRemembered ∈ tb := tb_in (i := 1101) (by decide +kernel) rfl
theorem wc_X7_isRemembered : Cond.code yX7_isRemembered cX7_isRemembered 4 (some .boolean) ∈ tb := tb_in (i := 1102) (by decide +kernel) rfl
theorem wm_L_42 : Cond.methodLink RL 42 yX7_man ∈ tb := tb_in (i := 1103) (by decide +kernel) rfl
theorem wi_X7_man : Cond.instanceMethod yX7_man ∈ tb := tb_in (i := 1104) (by decide +kernel) rfl
theorem wsl_X7_man : Cond.selects RX7 yX7_man yX7_man ∈ tb := tb_in (i := 1105) (by decide +kernel) rfl
theorem wc_X7_man : Cond.code yX7_man cX7_man 3 (some .int) ∈ tb := tb_in (i := 1106) (by decide +kernel) rfl
theorem wm_X7_112 : Cond.methodLink RX7 112 yX7_isMan ∈ tb := tb_in (i := 1107) (by decide +kernel) rfl
theorem wi_X7_isMan : Cond.instanceMethod yX7_isMan ∈ tb := tb_in (i := 1109) (by decide +kernel) rfl
theorem wc_X7_isMan : Cond.code yX7_isMan cX7_isMan 2 (some .boolean) ∈ tb := tb_in (i := 1110) (by decide +kernel) rfl
theorem wm_L_46 : Cond.methodLink RL 46 yX7_ox ∈ tb := tb_in (i := 1111) (by decide +kernel) rfl
theorem wi_X7_ox : Cond.instanceMethod yX7_ox ∈ tb := tb_in (i := 1112) (by decide +kernel) rfl
theorem wsl_X7_ox : Cond.selects RX7 yX7_ox yX7_ox ∈ tb := tb_in (i := 1113) (by decide +kernel) rfl
theorem wc_X7_ox : Cond.code yX7_ox cX7_ox 3 (some .int) ∈ tb := tb_in (i := 1114) (by decide +kernel) rfl
theorem wm_L_50 : Cond.methodLink RL 50 yX7_named ∈ tb := tb_in (i := 1115) (by decide +kernel) rfl
theorem wi_X7_named : Cond.instanceMethod yX7_named ∈ tb := tb_in (i := 1116) (by decide +kernel) rfl
theorem wsl_X7_named : Cond.selects RX7 yX7_named yX7_named ∈ tb := tb_in (i := 1117) (by decide +kernel) rfl
theorem wc_X7_named : Cond.code yX7_named cX7_named 3 (some .int) ∈ tb := tb_in (i := 1118) (by decide +kernel) rfl
theorem wk_X7_249 : Cond.constant RX7 249 (-1000000003) ∈ tb := tb_in (i := 1119) (by decide +kernel) rfl
theorem wm_L_55 : Cond.methodLink RL 55 yX7_cross ∈ tb := tb_in (i := 1120) (by decide +kernel) rfl
theorem wi_X7_cross : Cond.instanceMethod yX7_cross ∈ tb := tb_in (i := 1121) (by decide +kernel) rfl
theorem wsl_X7_cross : Cond.selects RX7 yX7_cross yX7_cross ∈ tb := tb_in (i := 1122) (by decide +kernel) rfl
theorem wc_X7_cross : Cond.code yX7_cross cX7_cross 4 (some .int) ∈ tb := tb_in (i := 1123) (by decide +kernel) rfl
theorem wm_X7_260 : Cond.methodLink RX7 260 yX7_isManOrNone ∈ tb := tb_in (i := 1124) (by decide +kernel) rfl
theorem wi_X7_isManOrNone : Cond.instanceMethod yX7_isManOrNone ∈ tb := tb_in (i := 1126) (by decide +kernel) rfl
theorem wc_X7_isManOrNone : Cond.code yX7_isManOrNone cX7_isManOrNone 2 (some .boolean) ∈ tb := tb_in (i := 1127) (by decide +kernel) rfl
theorem wm_X7_263 : Cond.methodLink RX7 263 yX7_canCross ∈ tb := tb_in (i := 1128) (by decide +kernel) rfl
theorem wi_X7_canCross : Cond.instanceMethod yX7_canCross ∈ tb := tb_in (i := 1130) (by decide +kernel) rfl
theorem wc_X7_canCross : Cond.code yX7_canCross cX7_canCross 4 (some .boolean) ∈ tb := tb_in (i := 1131) (by decide +kernel) rfl
theorem wm_X7_266 : Cond.methodLink RX7 266 yX7_crossNow ∈ tb := tb_in (i := 1132) (by decide +kernel) rfl
theorem wi_X7_crossNow : Cond.instanceMethod yX7_crossNow ∈ tb := tb_in (i := 1134) (by decide +kernel) rfl
theorem wc_X7_crossNow : Cond.code yX7_crossNow cX7_crossNow 4 (some .int) ∈ tb := tb_in (i := 1135) (by decide +kernel) rfl
theorem wm_X7_257 : Cond.methodLink RX7 257 yX7_isLetGo ∈ tb := tb_in (i := 1136) (by decide +kernel) rfl
theorem wi_X7_isLetGo : Cond.instanceMethod yX7_isLetGo ∈ tb := tb_in (i := 1138) (by decide +kernel) rfl
theorem wc_X7_isLetGo : Cond.code yX7_isLetGo cX7_isLetGo 4 (some .boolean) ∈ tb := tb_in (i := 1139) (by decide +kernel) rfl
theorem wm_X7_250 : Cond.methodLink RX7 250 yX7_mayAlone ∈ tb := tb_in (i := 1140) (by decide +kernel) rfl
theorem wi_X7_mayAlone : Cond.instanceMethod yX7_mayAlone ∈ tb := tb_in (i := 1142) (by decide +kernel) rfl
theorem wc_X7_mayAlone : Cond.code yX7_mayAlone cX7_mayAlone 5 (some .boolean) ∈ tb := tb_in (i := 1143) (by decide +kernel) rfl
theorem wm_X7_253 : Cond.methodLink RX7 253 yX7_mayName ∈ tb := tb_in (i := 1144) (by decide +kernel) rfl
theorem wi_X7_mayName : Cond.instanceMethod yX7_mayName ∈ tb := tb_in (i := 1146) (by decide +kernel) rfl
theorem wc_X7_mayName : Cond.code yX7_mayName cX7_mayName 4 (some .boolean) ∈ tb := tb_in (i := 1147) (by decide +kernel) rfl
theorem wm_L_59 : Cond.methodLink RL 59 yX7_evening ∈ tb := tb_in (i := 1148) (by decide +kernel) rfl
theorem wi_X7_evening : Cond.instanceMethod yX7_evening ∈ tb := tb_in (i := 1149) (by decide +kernel) rfl
theorem wsl_X7_evening : Cond.selects RX7 yX7_evening yX7_evening ∈ tb := tb_in (i := 1150) (by decide +kernel) rfl
theorem wc_X7_evening : Cond.code yX7_evening cX7_evening 5 (some .int) ∈ tb := tb_in (i := 1151) (by decide +kernel) rfl
theorem wm_L_64 : Cond.methodLink RL 64 yX7_know ∈ tb := tb_in (i := 1152) (by decide +kernel) rfl
theorem wi_X7_know : Cond.instanceMethod yX7_know ∈ tb := tb_in (i := 1153) (by decide +kernel) rfl
theorem wsl_X7_know : Cond.selects RX7 yX7_know yX7_know ∈ tb := tb_in (i := 1154) (by decide +kernel) rfl
theorem wc_X7_know : Cond.code yX7_know cX7_know 5 (some .int) ∈ tb := tb_in (i := 1155) (by decide +kernel) rfl
theorem wm_L_68 : Cond.methodLink RL 68 yX7_drift ∈ tb := tb_in (i := 1156) (by decide +kernel) rfl
theorem wi_X7_drift : Cond.instanceMethod yX7_drift ∈ tb := tb_in (i := 1157) (by decide +kernel) rfl
theorem wsl_X7_drift : Cond.selects RX7 yX7_drift yX7_drift ∈ tb := tb_in (i := 1158) (by decide +kernel) rfl
theorem wc_X7_drift : Cond.code yX7_drift cX7_drift 3 (some .int) ∈ tb := tb_in (i := 1159) (by decide +kernel) rfl
theorem wk_X7_286 : Cond.constantLong RX7 286 (99) ∈ tb := tb_in (i := 1160) (by decide +kernel) rfl
theorem wm_X7_288 : Cond.methodLink RX7 288 yX7_dayNow ∈ tb := tb_in (i := 1161) (by decide +kernel) rfl
theorem wi_X7_dayNow : Cond.instanceMethod yX7_dayNow ∈ tb := tb_in (i := 1163) (by decide +kernel) rfl
theorem wc_X7_dayNow : Cond.code yX7_dayNow cX7_dayNow 6 none ∈ tb := tb_in (i := 1164) (by decide +kernel) rfl
theorem wm_X7_280 : Cond.methodLink RX7 280 yX7_draw ∈ tb := tb_in (i := 1165) (by decide +kernel) rfl
theorem wi_X7_draw : Cond.instanceMethod yX7_draw ∈ tb := tb_in (i := 1167) (by decide +kernel) rfl
theorem wc_X7_draw : Cond.code yX7_draw cX7_draw 2 (some .int) ∈ tb := tb_in (i := 1168) (by decide +kernel) rfl
theorem wk_X7_273 : Cond.constantLong RX7 273 (1103515245) ∈ tb := tb_in (i := 1169) (by decide +kernel) rfl
theorem wk_X7_275 : Cond.constantLong RX7 275 (12345) ∈ tb := tb_in (i := 1170) (by decide +kernel) rfl
theorem wk_X7_277 : Cond.constantLong RX7 277 (2147483648) ∈ tb := tb_in (i := 1171) (by decide +kernel) rfl
theorem wk_X7_279 : Cond.constant RX7 279 (65536) ∈ tb := tb_in (i := 1172) (by decide +kernel) rfl
theorem wm_X7_283 : Cond.methodLink RX7 283 yX7_evening ∈ tb := tb_in (i := 1173) (by decide +kernel) rfl
theorem wm_L_72 : Cond.methodLink RL 72 yX7_most ∈ tb := tb_in (i := 1174) (by decide +kernel) rfl
theorem wi_X7_most : Cond.instanceMethod yX7_most ∈ tb := tb_in (i := 1175) (by decide +kernel) rfl
theorem wsl_X7_most : Cond.selects RX7 yX7_most yX7_most ∈ tb := tb_in (i := 1176) (by decide +kernel) rfl
theorem wc_X7_most : Cond.code yX7_most cX7_most 4 (some .int) ∈ tb := tb_in (i := 1177) (by decide +kernel) rfl
theorem wm_X7_306 : Cond.methodLink RX7 306 yX7_findRow ∈ tb := tb_in (i := 1178) (by decide +kernel) rfl
theorem wi_X7_findRow : Cond.instanceMethod yX7_findRow ∈ tb := tb_in (i := 1180) (by decide +kernel) rfl
theorem wc_X7_findRow : Cond.code yX7_findRow cX7_findRow 8 (some .int) ∈ tb := tb_in (i := 1181) (by decide +kernel) rfl
theorem wm_X7_303 : Cond.methodLink RX7 303 yX7_mostOf ∈ tb := tb_in (i := 1182) (by decide +kernel) rfl
theorem wi_X7_mostOf : Cond.instanceMethod yX7_mostOf ∈ tb := tb_in (i := 1184) (by decide +kernel) rfl
theorem wc_X7_mostOf : Cond.code yX7_mostOf cX7_mostOf 5 (some .int) ∈ tb := tb_in (i := 1185) (by decide +kernel) rfl
theorem wm_X7_297 : Cond.methodLink RX7 297 yX7_candidates ∈ tb := tb_in (i := 1186) (by decide +kernel) rfl
theorem wi_X7_candidates : Cond.instanceMethod yX7_candidates ∈ tb := tb_in (i := 1188) (by decide +kernel) rfl
theorem wc_X7_candidates : Cond.code yX7_candidates cX7_candidates 2 (some .int) ∈ tb := tb_in (i := 1189) (by decide +kernel) rfl
theorem wm_X7_300 : Cond.methodLink RX7 300 yX7_isWhole ∈ tb := tb_in (i := 1190) (by decide +kernel) rfl
theorem wi_X7_isWhole : Cond.instanceMethod yX7_isWhole ∈ tb := tb_in (i := 1192) (by decide +kernel) rfl
theorem wc_X7_isWhole : Cond.code yX7_isWhole cX7_isWhole 5 (some .boolean) ∈ tb := tb_in (i := 1193) (by decide +kernel) rfl
theorem wm_X7_294 : Cond.methodLink RX7 294 yX7_isSupported ∈ tb := tb_in (i := 1194) (by decide +kernel) rfl
theorem wi_X7_isSupported : Cond.instanceMethod yX7_isSupported ∈ tb := tb_in (i := 1196) (by decide +kernel) rfl
theorem wc_X7_isSupported : Cond.code yX7_isSupported cX7_isSupported 4 (some .boolean) ∈ tb := tb_in (i := 1197) (by decide +kernel) rfl
theorem wm_X7_291 : Cond.methodLink RX7 291 yX7_supports ∈ tb := tb_in (i := 1198) (by decide +kernel) rfl
theorem wi_X7_supports : Cond.instanceMethod yX7_supports ∈ tb := tb_in (i := 1200) (by decide +kernel) rfl
theorem wc_X7_supports : Cond.code yX7_supports cX7_supports 6 (some .int) ∈ tb := tb_in (i := 1201) (by decide +kernel) rfl
theorem wm_L_76 : Cond.methodLink RL 76 yX7_names ∈ tb := tb_in (i := 1202) (by decide +kernel) rfl
theorem wi_X7_names : Cond.instanceMethod yX7_names ∈ tb := tb_in (i := 1203) (by decide +kernel) rfl
theorem wsl_X7_names : Cond.selects RX7 yX7_names yX7_names ∈ tb := tb_in (i := 1204) (by decide +kernel) rfl
theorem wc_X7_names : Cond.code yX7_names cX7_names 4 (some .int) ∈ tb := tb_in (i := 1205) (by decide +kernel) rfl
theorem wm_L_80 : Cond.methodLink RL 80 yX7_tellings ∈ tb := tb_in (i := 1206) (by decide +kernel) rfl
theorem wi_X7_tellings : Cond.instanceMethod yX7_tellings ∈ tb := tb_in (i := 1207) (by decide +kernel) rfl
theorem wsl_X7_tellings : Cond.selects RX7 yX7_tellings yX7_tellings ∈ tb := tb_in (i := 1208) (by decide +kernel) rfl
theorem wc_X7_tellings : Cond.code yX7_tellings cX7_tellings 5 (some .int) ∈ tb := tb_in (i := 1209) (by decide +kernel) rfl
theorem wm_X7_309 : Cond.methodLink RX7 309 yX7_couldName ∈ tb := tb_in (i := 1210) (by decide +kernel) rfl
theorem wi_X7_couldName : Cond.instanceMethod yX7_couldName ∈ tb := tb_in (i := 1212) (by decide +kernel) rfl
theorem wc_X7_couldName : Cond.code yX7_couldName cX7_couldName 6 (some .boolean) ∈ tb := tb_in (i := 1213) (by decide +kernel) rfl
theorem wm_L_84 : Cond.methodLink RL 84 yX7_hired ∈ tb := tb_in (i := 1214) (by decide +kernel) rfl
theorem wi_X7_hired : Cond.instanceMethod yX7_hired ∈ tb := tb_in (i := 1215) (by decide +kernel) rfl
theorem wsl_X7_hired : Cond.selects RX7 yX7_hired yX7_hired ∈ tb := tb_in (i := 1216) (by decide +kernel) rfl
theorem wc_X7_hired : Cond.code yX7_hired cX7_hired 8 (some .int) ∈ tb := tb_in (i := 1217) (by decide +kernel) rfl
theorem wk_X7_312 : Cond.constant RX7 312 (1000000) ∈ tb := tb_in (i := 1218) (by decide +kernel) rfl
theorem wm_X7_313 : Cond.methodLink RX7 313 yX7_areOver ∈ tb := tb_in (i := 1219) (by decide +kernel) rfl
theorem wi_X7_areOver : Cond.instanceMethod yX7_areOver ∈ tb := tb_in (i := 1221) (by decide +kernel) rfl
theorem wc_X7_areOver : Cond.code yX7_areOver cX7_areOver 8 (some .boolean) ∈ tb := tb_in (i := 1222) (by decide +kernel) rfl
theorem wm_L_88 : Cond.methodLink RL 88 yX7_found ∈ tb := tb_in (i := 1223) (by decide +kernel) rfl
theorem wi_X7_found : Cond.instanceMethod yX7_found ∈ tb := tb_in (i := 1224) (by decide +kernel) rfl
theorem wsl_X7_found : Cond.selects RX7 yX7_found yX7_found ∈ tb := tb_in (i := 1225) (by decide +kernel) rfl
theorem wc_X7_found : Cond.code yX7_found cX7_found 8 (some .int) ∈ tb := tb_in (i := 1226) (by decide +kernel) rfl
theorem wm_L_92 : Cond.methodLink RL 92 yX7_whom ∈ tb := tb_in (i := 1227) (by decide +kernel) rfl
theorem wi_X7_whom : Cond.instanceMethod yX7_whom ∈ tb := tb_in (i := 1228) (by decide +kernel) rfl
theorem wsl_X7_whom : Cond.selects RX7 yX7_whom yX7_whom ∈ tb := tb_in (i := 1229) (by decide +kernel) rfl
theorem wc_X7_whom : Cond.code yX7_whom cX7_whom 6 (some .int) ∈ tb := tb_in (i := 1230) (by decide +kernel) rfl
theorem wm_L_96 : Cond.methodLink RL 96 yX7_see ∈ tb := tb_in (i := 1231) (by decide +kernel) rfl
theorem wi_X7_see : Cond.instanceMethod yX7_see ∈ tb := tb_in (i := 1232) (by decide +kernel) rfl
theorem wsl_X7_see : Cond.selects RX7 yX7_see yX7_see ∈ tb := tb_in (i := 1233) (by decide +kernel) rfl
theorem wc_X7_see : Cond.code yX7_see cX7_see 4 (some .int) ∈ tb := tb_in (i := 1234) (by decide +kernel) rfl
theorem wm_L_100 : Cond.methodLink RL 100 yX7_orders ∈ tb := tb_in (i := 1235) (by decide +kernel) rfl
theorem wi_X7_orders : Cond.instanceMethod yX7_orders ∈ tb := tb_in (i := 1236) (by decide +kernel) rfl
theorem wsl_X7_orders : Cond.selects RX7 yX7_orders yX7_orders ∈ tb := tb_in (i := 1237) (by decide +kernel) rfl
theorem wc_X7_orders : Cond.code yX7_orders cX7_orders 1 (some .int) ∈ tb := tb_in (i := 1238) (by decide +kernel) rfl
theorem wm_X7_323 : Cond.methodLink RX7 323 yX7_findOrders ∈ tb := tb_in (i := 1239) (by decide +kernel) rfl
theorem wi_X7_findOrders : Cond.instanceMethod yX7_findOrders ∈ tb := tb_in (i := 1241) (by decide +kernel) rfl
theorem wc_X7_findOrders : Cond.code yX7_findOrders cX7_findOrders 6 (some .int) ∈ tb := tb_in (i := 1242) (by decide +kernel) rfl
theorem wm_X7_316 : Cond.methodLink RX7 316 yX7_setPlaces ∈ tb := tb_in (i := 1243) (by decide +kernel) rfl
theorem wi_X7_setPlaces : Cond.instanceMethod yX7_setPlaces ∈ tb := tb_in (i := 1245) (by decide +kernel) rfl
theorem wc_X7_setPlaces : Cond.code yX7_setPlaces cX7_setPlaces 5 (some .boolean) ∈ tb := tb_in (i := 1246) (by decide +kernel) rfl
theorem wm_X7_319 : Cond.methodLink RX7 319 yX7_isAsSeen ∈ tb := tb_in (i := 1247) (by decide +kernel) rfl
theorem wi_X7_isAsSeen : Cond.instanceMethod yX7_isAsSeen ∈ tb := tb_in (i := 1249) (by decide +kernel) rfl
theorem wc_X7_isAsSeen : Cond.code yX7_isAsSeen cX7_isAsSeen 4 (some .boolean) ∈ tb := tb_in (i := 1250) (by decide +kernel) rfl
theorem wm_L_104 : Cond.methodLink RL 104 yX7_heavier ∈ tb := tb_in (i := 1251) (by decide +kernel) rfl
theorem wi_X7_heavier : Cond.instanceMethod yX7_heavier ∈ tb := tb_in (i := 1252) (by decide +kernel) rfl
theorem wsl_X7_heavier : Cond.selects RX7 yX7_heavier yX7_heavier ∈ tb := tb_in (i := 1253) (by decide +kernel) rfl
theorem wc_X7_heavier : Cond.code yX7_heavier cX7_heavier 2 (some .int) ∈ tb := tb_in (i := 1254) (by decide +kernel) rfl
theorem wm_L_108 : Cond.methodLink RL 108 yX7_row ∈ tb := tb_in (i := 1255) (by decide +kernel) rfl
theorem wi_X7_row : Cond.instanceMethod yX7_row ∈ tb := tb_in (i := 1256) (by decide +kernel) rfl
theorem wsl_X7_row : Cond.selects RX7 yX7_row yX7_row ∈ tb := tb_in (i := 1257) (by decide +kernel) rfl
theorem wc_X7_row : Cond.code yX7_row cX7_row 3 (some .int) ∈ tb := tb_in (i := 1258) (by decide +kernel) rfl
theorem wm_L_112 : Cond.methodLink RL 112 yX7_odds ∈ tb := tb_in (i := 1259) (by decide +kernel) rfl
theorem wi_X7_odds : Cond.instanceMethod yX7_odds ∈ tb := tb_in (i := 1260) (by decide +kernel) rfl
theorem wsl_X7_odds : Cond.selects RX7 yX7_odds yX7_odds ∈ tb := tb_in (i := 1261) (by decide +kernel) rfl
theorem wc_X7_odds : Cond.code yX7_odds cX7_odds 5 (some .int) ∈ tb := tb_in (i := 1262) (by decide +kernel) rfl
theorem wk_X7_326 : Cond.constantLong RX7 326 (1000000000) ∈ tb := tb_in (i := 1263) (by decide +kernel) rfl
theorem wk_X7_328 : Cond.constantLong RX7 328 (100) ∈ tb := tb_in (i := 1264) (by decide +kernel) rfl
theorem wm_L_116 : Cond.methodLink RL 116 yX7_wrong ∈ tb := tb_in (i := 1265) (by decide +kernel) rfl
theorem wi_X7_wrong : Cond.instanceMethod yX7_wrong ∈ tb := tb_in (i := 1266) (by decide +kernel) rfl
theorem wsl_X7_wrong : Cond.selects RX7 yX7_wrong yX7_wrong ∈ tb := tb_in (i := 1267) (by decide +kernel) rfl
theorem wc_X7_wrong : Cond.code yX7_wrong cX7_wrong 6 (some .int) ∈ tb := tb_in (i := 1268) (by decide +kernel) rfl
theorem wm_X7_330 : Cond.methodLink RX7 330 yX7_isBehind ∈ tb := tb_in (i := 1269) (by decide +kernel) rfl
theorem wi_X7_isBehind : Cond.instanceMethod yX7_isBehind ∈ tb := tb_in (i := 1271) (by decide +kernel) rfl
theorem wc_X7_isBehind : Cond.code yX7_isBehind cX7_isBehind 4 (some .boolean) ∈ tb := tb_in (i := 1272) (by decide +kernel) rfl
theorem wm_L_120 : Cond.methodLink RL 120 yX7_tear ∈ tb := tb_in (i := 1273) (by decide +kernel) rfl
theorem wi_X7_tear : Cond.instanceMethod yX7_tear ∈ tb := tb_in (i := 1274) (by decide +kernel) rfl
theorem wsl_X7_tear : Cond.selects RX7 yX7_tear yX7_tear ∈ tb := tb_in (i := 1275) (by decide +kernel) rfl
theorem wc_X7_tear : Cond.code yX7_tear cX7_tear 2 (some .int) ∈ tb := tb_in (i := 1276) (by decide +kernel) rfl
theorem wm_L_124 : Cond.methodLink RL 124 yX7_seed ∈ tb := tb_in (i := 1277) (by decide +kernel) rfl
theorem wi_X7_seed : Cond.instanceMethod yX7_seed ∈ tb := tb_in (i := 1278) (by decide +kernel) rfl
theorem wsl_X7_seed : Cond.selects RX7 yX7_seed yX7_seed ∈ tb := tb_in (i := 1279) (by decide +kernel) rfl
theorem wc_X7_seed : Cond.code yX7_seed cX7_seed 3 (some .int) ∈ tb := tb_in (i := 1280) (by decide +kernel) rfl
theorem wm_L_128 : Cond.methodLink RL 128 yX7_keep ∈ tb := tb_in (i := 1281) (by decide +kernel) rfl
theorem wi_X7_keep : Cond.instanceMethod yX7_keep ∈ tb := tb_in (i := 1282) (by decide +kernel) rfl
theorem wsl_X7_keep : Cond.selects RX7 yX7_keep yX7_keep ∈ tb := tb_in (i := 1283) (by decide +kernel) rfl
theorem wc_X7_keep : Cond.code yX7_keep cX7_keep 4 (some .int) ∈ tb := tb_in (i := 1284) (by decide +kernel) rfl
theorem wm_L_132 : Cond.methodLink RL 132 yX7_goBack ∈ tb := tb_in (i := 1285) (by decide +kernel) rfl
theorem wi_X7_goBack : Cond.instanceMethod yX7_goBack ∈ tb := tb_in (i := 1286) (by decide +kernel) rfl
theorem wsl_X7_goBack : Cond.selects RX7 yX7_goBack yX7_goBack ∈ tb := tb_in (i := 1287) (by decide +kernel) rfl
theorem wc_X7_goBack : Cond.code yX7_goBack cX7_goBack 4 (some .int) ∈ tb := tb_in (i := 1288) (by decide +kernel) rfl
theorem wk_L_13 : Cond.constantLong RL 13 (4294967295) ∈ tb := tb_in (i := 1289) (by decide +kernel) rfl
theorem wsl_X0_forget : Cond.selects RX0 yX0_forget yX0_forget ∈ tb := tb_in (i := 0) (by decide +kernel) rfl
theorem wsl_X3_skipBlanks : Cond.selects RX3 yX3_skipBlanks yX3_skipBlanks ∈ tb := tb_in (i := 1) (by decide +kernel) rfl
theorem wsl_X3_readClause : Cond.selects RX3 yX3_readClause yX3_readClause ∈ tb := tb_in (i := 2) (by decide +kernel) rfl
theorem wsl_X3_endOfWord : Cond.selects RX3 yX3_endOfWord yX3_endOfWord ∈ tb := tb_in (i := 3) (by decide +kernel) rfl
theorem wsl_X3_clauseOf : Cond.selects RX3 yX3_clauseOf yX3_clauseOf ∈ tb := tb_in (i := 4) (by decide +kernel) rfl
theorem wsl_X3_isWord : Cond.selects RX3 yX3_isWord yX3_isWord ∈ tb := tb_in (i := 5) (by decide +kernel) rfl
theorem wsl_X3_whyNot : Cond.selects RX3 yX3_whyNot yX3_whyNot ∈ tb := tb_in (i := 6) (by decide +kernel) rfl
theorem wsl_X3_blame : Cond.selects RX3 yX3_blame yX3_blame ∈ tb := tb_in (i := 7) (by decide +kernel) rfl
theorem wsl_X3_readYear : Cond.selects RX3 yX3_readYear yX3_readYear ∈ tb := tb_in (i := 8) (by decide +kernel) rfl
theorem wsl_X3_number : Cond.selects RX3 yX3_number yX3_number ∈ tb := tb_in (i := 9) (by decide +kernel) rfl
theorem wsl_X3_endClause : Cond.selects RX3 yX3_endClause yX3_endClause ∈ tb := tb_in (i := 10) (by decide +kernel) rfl
theorem wsl_X3_takes : Cond.selects RX3 yX3_takes yX3_takes ∈ tb := tb_in (i := 11) (by decide +kernel) rfl
theorem wsl_X3_readBridge : Cond.selects RX3 yX3_readBridge yX3_readBridge ∈ tb := tb_in (i := 12) (by decide +kernel) rfl
theorem wsl_X3_readMan : Cond.selects RX3 yX3_readMan yX3_readMan ∈ tb := tb_in (i := 13) (by decide +kernel) rfl
theorem wsl_X3_readKnows : Cond.selects RX3 yX3_readKnows yX3_readKnows ∈ tb := tb_in (i := 14) (by decide +kernel) rfl
theorem wsl_X3_readKnown : Cond.selects RX3 yX3_readKnown yX3_readKnown ∈ tb := tb_in (i := 15) (by decide +kernel) rfl
theorem wsl_X3_readOx : Cond.selects RX3 yX3_readOx yX3_readOx ∈ tb := tb_in (i := 16) (by decide +kernel) rfl
theorem wsl_X0_liarsAt : Cond.selects RX0 yX0_liarsAt yX0_liarsAt ∈ tb := tb_in (i := 17) (by decide +kernel) rfl
theorem wsl_X0_draw : Cond.selects RX0 yX0_draw yX0_draw ∈ tb := tb_in (i := 18) (by decide +kernel) rfl
theorem wsl_X0_drawCrossing : Cond.selects RX0 yX0_drawCrossing yX0_drawCrossing ∈ tb := tb_in (i := 19) (by decide +kernel) rfl
theorem wsl_X5_lookAt : Cond.selects RX5 yX5_lookAt yX5_lookAt ∈ tb := tb_in (i := 20) (by decide +kernel) rfl
theorem wsl_X5_mostSet : Cond.selects RX5 yX5_mostSet yX5_mostSet ∈ tb := tb_in (i := 21) (by decide +kernel) rfl
theorem wsl_X5_passing : Cond.selects RX5 yX5_passing yX5_passing ∈ tb := tb_in (i := 22) (by decide +kernel) rfl
theorem wsl_X5_passes : Cond.selects RX5 yX5_passes yX5_passes ∈ tb := tb_in (i := 23) (by decide +kernel) rfl
theorem wsl_X5_nextInLine : Cond.selects RX5 yX5_nextInLine yX5_nextInLine ∈ tb := tb_in (i := 24) (by decide +kernel) rfl
theorem wsl_X5_allPassBefore : Cond.selects RX5 yX5_allPassBefore yX5_allPassBefore ∈ tb := tb_in (i := 25) (by decide +kernel) rfl
theorem wsl_X2_firstEaten : Cond.selects RX2 yX2_firstEaten yX2_firstEaten ∈ tb := tb_in (i := 26) (by decide +kernel) rfl
theorem wsl_X2_firstLiar : Cond.selects RX2 yX2_firstLiar yX2_firstLiar ∈ tb := tb_in (i := 27) (by decide +kernel) rfl
theorem wsl_X6_image : Cond.selects RX6 yX6_image yX6_image ∈ tb := tb_in (i := 28) (by decide +kernel) rfl
theorem wsl_X7_here : Cond.selects RX7 yX7_here yX7_here ∈ tb := tb_in (i := 29) (by decide +kernel) rfl
theorem wsl_X7_takeClause : Cond.selects RX7 yX7_takeClause yX7_takeClause ∈ tb := tb_in (i := 30) (by decide +kernel) rfl
theorem wsl_X7_readWord : Cond.selects RX7 yX7_readWord yX7_readWord ∈ tb := tb_in (i := 31) (by decide +kernel) rfl
theorem wsl_X7_fails : Cond.selects RX7 yX7_fails yX7_fails ∈ tb := tb_in (i := 32) (by decide +kernel) rfl
theorem wsl_X7_takeYear : Cond.selects RX7 yX7_takeYear yX7_takeYear ∈ tb := tb_in (i := 33) (by decide +kernel) rfl
theorem wsl_X7_takeNumber : Cond.selects RX7 yX7_takeNumber yX7_takeNumber ∈ tb := tb_in (i := 34) (by decide +kernel) rfl
theorem wsl_X7_takeBridge : Cond.selects RX7 yX7_takeBridge yX7_takeBridge ∈ tb := tb_in (i := 35) (by decide +kernel) rfl
theorem wsl_X7_into : Cond.selects RX7 yX7_into yX7_into ∈ tb := tb_in (i := 36) (by decide +kernel) rfl
theorem wsl_X7_takeMan : Cond.selects RX7 yX7_takeMan yX7_takeMan ∈ tb := tb_in (i := 37) (by decide +kernel) rfl
theorem wsl_X7_takeKnows : Cond.selects RX7 yX7_takeKnows yX7_takeKnows ∈ tb := tb_in (i := 38) (by decide +kernel) rfl
theorem wsl_X7_takeOx : Cond.selects RX7 yX7_takeOx yX7_takeOx ∈ tb := tb_in (i := 39) (by decide +kernel) rfl
theorem wsl_X7_isBridge : Cond.selects RX7 yX7_isBridge yX7_isBridge ∈ tb := tb_in (i := 40) (by decide +kernel) rfl
theorem wsl_X7_rememberedAt : Cond.selects RX7 yX7_rememberedAt yX7_rememberedAt ∈ tb := tb_in (i := 41) (by decide +kernel) rfl
theorem wsl_X7_isRemembered : Cond.selects RX7 yX7_isRemembered yX7_isRemembered ∈ tb := tb_in (i := 42) (by decide +kernel) rfl
theorem wsl_X7_isMan : Cond.selects RX7 yX7_isMan yX7_isMan ∈ tb := tb_in (i := 43) (by decide +kernel) rfl
theorem wsl_X7_isManOrNone : Cond.selects RX7 yX7_isManOrNone yX7_isManOrNone ∈ tb := tb_in (i := 44) (by decide +kernel) rfl
theorem wsl_X7_canCross : Cond.selects RX7 yX7_canCross yX7_canCross ∈ tb := tb_in (i := 45) (by decide +kernel) rfl
theorem wsl_X7_crossNow : Cond.selects RX7 yX7_crossNow yX7_crossNow ∈ tb := tb_in (i := 46) (by decide +kernel) rfl
theorem wsl_X7_isLetGo : Cond.selects RX7 yX7_isLetGo yX7_isLetGo ∈ tb := tb_in (i := 47) (by decide +kernel) rfl
theorem wsl_X7_mayAlone : Cond.selects RX7 yX7_mayAlone yX7_mayAlone ∈ tb := tb_in (i := 48) (by decide +kernel) rfl
theorem wsl_X7_mayName : Cond.selects RX7 yX7_mayName yX7_mayName ∈ tb := tb_in (i := 49) (by decide +kernel) rfl
theorem wsl_X7_dayNow : Cond.selects RX7 yX7_dayNow yX7_dayNow ∈ tb := tb_in (i := 50) (by decide +kernel) rfl
theorem wsl_X7_draw : Cond.selects RX7 yX7_draw yX7_draw ∈ tb := tb_in (i := 51) (by decide +kernel) rfl
theorem wsl_X7_findRow : Cond.selects RX7 yX7_findRow yX7_findRow ∈ tb := tb_in (i := 52) (by decide +kernel) rfl
theorem wsl_X7_mostOf : Cond.selects RX7 yX7_mostOf yX7_mostOf ∈ tb := tb_in (i := 53) (by decide +kernel) rfl
theorem wsl_X7_candidates : Cond.selects RX7 yX7_candidates yX7_candidates ∈ tb := tb_in (i := 54) (by decide +kernel) rfl
theorem wsl_X7_isWhole : Cond.selects RX7 yX7_isWhole yX7_isWhole ∈ tb := tb_in (i := 55) (by decide +kernel) rfl
theorem wsl_X7_isSupported : Cond.selects RX7 yX7_isSupported yX7_isSupported ∈ tb := tb_in (i := 56) (by decide +kernel) rfl
theorem wsl_X7_supports : Cond.selects RX7 yX7_supports yX7_supports ∈ tb := tb_in (i := 57) (by decide +kernel) rfl
theorem wsl_X7_couldName : Cond.selects RX7 yX7_couldName yX7_couldName ∈ tb := tb_in (i := 58) (by decide +kernel) rfl
theorem wsl_X7_areOver : Cond.selects RX7 yX7_areOver yX7_areOver ∈ tb := tb_in (i := 59) (by decide +kernel) rfl
theorem wsl_X7_findOrders : Cond.selects RX7 yX7_findOrders yX7_findOrders ∈ tb := tb_in (i := 60) (by decide +kernel) rfl
theorem wsl_X7_setPlaces : Cond.selects RX7 yX7_setPlaces yX7_setPlaces ∈ tb := tb_in (i := 61) (by decide +kernel) rfl
theorem wsl_X7_isAsSeen : Cond.selects RX7 yX7_isAsSeen yX7_isAsSeen ∈ tb := tb_in (i := 62) (by decide +kernel) rfl
theorem wsl_X7_isBehind : Cond.selects RX7 yX7_isBehind yX7_isBehind ∈ tb := tb_in (i := 63) (by decide +kernel) rfl
theorem wu_X0 : ∀ w ∈ u_ws RX0 TX0 9, w ∈ tb := tb_all [214, 216, 218, 220, 222, 224, 226, 228, 230] (by decide +kernel) (by decide +kernel)
theorem wu_X1 : ∀ w ∈ u_ws RX1 TX1 10, w ∈ tb := tb_all [130, 132, 134, 136, 138, 140, 142, 144, 146, 148] (by decide +kernel) (by decide +kernel)
theorem wu_X2 : ∀ w ∈ u_ws RX2 TX2 3, w ∈ tb := tb_all [292, 294, 296] (by decide +kernel) (by decide +kernel)
theorem wu_X3 : ∀ w ∈ u_ws RX3 TX3 9, w ∈ tb := tb_all [169, 171, 173, 175, 177, 179, 181, 183, 185] (by decide +kernel) (by decide +kernel)
theorem wu_X4 : ∀ w ∈ u_ws RX4 TX4 3, w ∈ tb := tb_all [275, 277, 279] (by decide +kernel) (by decide +kernel)
theorem wu_X5 : ∀ w ∈ u_ws RX5 TX5 8, w ∈ tb := tb_all [248, 250, 252, 254, 256, 258, 260, 262] (by decide +kernel) (by decide +kernel)
theorem wu_X6 : ∀ w ∈ u_ws RX6 TX6 10, w ∈ tb := tb_all [309, 311, 313, 315, 317, 319, 321, 323, 325, 327] (by decide +kernel) (by decide +kernel)
theorem wu_X7 : ∀ w ∈ u_ws RX7 TX7 50, w ∈ tb := tb_all [900, 902, 904, 906, 908, 910, 912, 914, 916, 918, 920, 922, 924, 926, 928, 930, 932, 934, 936, 938, 940, 942, 944, 946, 948, 950, 952, 954, 956, 958, 960, 962, 964, 966, 968, 970, 972, 974, 976, 978, 980, 982, 984, 986, 988, 990, 992, 994, 996, 998] (by decide +kernel) (by decide +kernel)
theorem fd_X6_10 : FldOK RX6 10 6 0 := ⟨RX6, TX6, 10, rfl, by decide, wu_X6, wf_X6_10, rfl⟩
theorem fd_X6_16 : FldOK RX6 16 6 1 := ⟨RX6, TX6, 10, rfl, by decide, wu_X6, wf_X6_16, rfl⟩
theorem fd_X6_22 : FldOK RX6 22 6 2 := ⟨RX6, TX6, 10, rfl, by decide, wu_X6, wf_X6_22, rfl⟩
theorem fd_X6_31 : FldOK RX6 31 6 3 := ⟨RX6, TX6, 10, rfl, by decide, wu_X6, wf_X6_31, rfl⟩
theorem fd_X6_35 : FldOK RX6 35 6 4 := ⟨RX6, TX6, 10, rfl, by decide, wu_X6, wf_X6_35, rfl⟩
theorem fd_X6_38 : FldOK RX6 38 6 5 := ⟨RX6, TX6, 10, rfl, by decide, wu_X6, wf_X6_38, rfl⟩
theorem fd_X6_46 : FldOK RX6 46 6 6 := ⟨RX6, TX6, 10, rfl, by decide, wu_X6, wf_X6_46, rfl⟩
theorem fd_X6_53 : FldOK RX6 53 6 7 := ⟨RX6, TX6, 10, rfl, by decide, wu_X6, wf_X6_53, rfl⟩
theorem fd_X6_60 : FldOK RX6 60 6 8 := ⟨RX6, TX6, 10, rfl, by decide, wu_X6, wf_X6_60, rfl⟩
theorem fd_X6_64 : FldOK RX6 64 6 9 := ⟨RX6, TX6, 10, rfl, by decide, wu_X6, wf_X6_64, rfl⟩
theorem fd_X6_69 : FldOK RX6 69 3 1 := ⟨RX3, TX3, 9, rfl, by decide, wu_X3, wf_X6_69, rfl⟩
theorem fd_X6_91 : FldOK RX6 91 1 2 := ⟨RX1, TX1, 10, rfl, by decide, wu_X1, wf_X6_91, rfl⟩
theorem fd_X6_94 : FldOK RX6 94 3 2 := ⟨RX3, TX3, 9, rfl, by decide, wu_X3, wf_X6_94, rfl⟩
theorem fd_X6_97 : FldOK RX6 97 1 0 := ⟨RX1, TX1, 10, rfl, by decide, wu_X1, wf_X6_97, rfl⟩
theorem fd_X6_100 : FldOK RX6 100 1 1 := ⟨RX1, TX1, 10, rfl, by decide, wu_X1, wf_X6_100, rfl⟩
theorem fd_X6_103 : FldOK RX6 103 1 3 := ⟨RX1, TX1, 10, rfl, by decide, wu_X1, wf_X6_103, rfl⟩
theorem fd_X6_106 : FldOK RX6 106 0 2 := ⟨RX0, TX0, 9, rfl, by decide, wu_X0, wf_X6_106, rfl⟩
theorem fd_X6_109 : FldOK RX6 109 0 1 := ⟨RX0, TX0, 9, rfl, by decide, wu_X0, wf_X6_109, rfl⟩
theorem fd_X6_112 : FldOK RX6 112 4 0 := ⟨RX4, TX4, 3, rfl, by decide, wu_X4, wf_X6_112, rfl⟩
theorem fd_X6_115 : FldOK RX6 115 2 0 := ⟨RX2, TX2, 3, rfl, by decide, wu_X2, wf_X6_115, rfl⟩
theorem fd_X6_121 : FldOK RX6 121 1 4 := ⟨RX1, TX1, 10, rfl, by decide, wu_X1, wf_X6_121, rfl⟩
theorem fd_X6_125 : FldOK RX6 125 0 5 := ⟨RX0, TX0, 9, rfl, by decide, wu_X0, wf_X6_125, rfl⟩
theorem fd_X6_135 : FldOK RX6 135 1 5 := ⟨RX1, TX1, 10, rfl, by decide, wu_X1, wf_X6_135, rfl⟩
theorem fd_X6_138 : FldOK RX6 138 1 6 := ⟨RX1, TX1, 10, rfl, by decide, wu_X1, wf_X6_138, rfl⟩
theorem fd_X6_145 : FldOK RX6 145 0 4 := ⟨RX0, TX0, 9, rfl, by decide, wu_X0, wf_X6_145, rfl⟩
theorem fd_X6_151 : FldOK RX6 151 1 8 := ⟨RX1, TX1, 10, rfl, by decide, wu_X1, wf_X6_151, rfl⟩
theorem fd_X6_154 : FldOK RX6 154 1 9 := ⟨RX1, TX1, 10, rfl, by decide, wu_X1, wf_X6_154, rfl⟩
theorem fd_X6_157 : FldOK RX6 157 0 6 := ⟨RX0, TX0, 9, rfl, by decide, wu_X0, wf_X6_157, rfl⟩
theorem fd_X6_191 : FldOK RX6 191 5 6 := ⟨RX5, TX5, 8, rfl, by decide, wu_X5, wf_X6_191, rfl⟩
theorem fd_X6_237 : FldOK RX6 237 0 3 := ⟨RX0, TX0, 9, rfl, by decide, wu_X0, wf_X6_237, rfl⟩
theorem fd_X0_9 : FldOK RX0 9 0 1 := ⟨RX0, TX0, 9, rfl, by decide, wu_X0, wf_X0_9, rfl⟩
theorem fd_X0_15 : FldOK RX0 15 0 2 := ⟨RX0, TX0, 9, rfl, by decide, wu_X0, wf_X0_15, rfl⟩
theorem fd_X0_18 : FldOK RX0 18 0 3 := ⟨RX0, TX0, 9, rfl, by decide, wu_X0, wf_X0_18, rfl⟩
theorem fd_X0_21 : FldOK RX0 21 0 4 := ⟨RX0, TX0, 9, rfl, by decide, wu_X0, wf_X0_21, rfl⟩
theorem fd_X0_25 : FldOK RX0 25 0 5 := ⟨RX0, TX0, 9, rfl, by decide, wu_X0, wf_X0_25, rfl⟩
theorem fd_X0_28 : FldOK RX0 28 0 6 := ⟨RX0, TX0, 9, rfl, by decide, wu_X0, wf_X0_28, rfl⟩
theorem fd_X0_31 : FldOK RX0 31 0 7 := ⟨RX0, TX0, 9, rfl, by decide, wu_X0, wf_X0_31, rfl⟩
theorem fd_X0_34 : FldOK RX0 34 0 8 := ⟨RX0, TX0, 9, rfl, by decide, wu_X0, wf_X0_34, rfl⟩
theorem fd_X0_37 : FldOK RX0 37 0 0 := ⟨RX0, TX0, 9, rfl, by decide, wu_X0, wf_X0_37, rfl⟩
theorem fd_X0_50 : FldOK RX0 50 1 7 := ⟨RX1, TX1, 10, rfl, by decide, wu_X1, wf_X0_50, rfl⟩
theorem fd_X0_63 : FldOK RX0 63 1 4 := ⟨RX1, TX1, 10, rfl, by decide, wu_X1, wf_X0_63, rfl⟩
theorem fd_X0_66 : FldOK RX0 66 1 2 := ⟨RX1, TX1, 10, rfl, by decide, wu_X1, wf_X0_66, rfl⟩
theorem fd_X0_77 : FldOK RX0 77 1 5 := ⟨RX1, TX1, 10, rfl, by decide, wu_X1, wf_X0_77, rfl⟩
theorem fd_X0_98 : FldOK RX0 98 1 1 := ⟨RX1, TX1, 10, rfl, by decide, wu_X1, wf_X0_98, rfl⟩
theorem fd_X0_107 : FldOK RX0 107 1 6 := ⟨RX1, TX1, 10, rfl, by decide, wu_X1, wf_X0_107, rfl⟩
theorem fd_X1_9 : FldOK RX1 9 1 4 := ⟨RX1, TX1, 10, rfl, by decide, wu_X1, wf_X1_9, rfl⟩
theorem fd_X1_15 : FldOK RX1 15 1 5 := ⟨RX1, TX1, 10, rfl, by decide, wu_X1, wf_X1_15, rfl⟩
theorem fd_X1_18 : FldOK RX1 18 1 6 := ⟨RX1, TX1, 10, rfl, by decide, wu_X1, wf_X1_18, rfl⟩
theorem fd_X1_21 : FldOK RX1 21 1 7 := ⟨RX1, TX1, 10, rfl, by decide, wu_X1, wf_X1_21, rfl⟩
theorem fd_X1_24 : FldOK RX1 24 1 8 := ⟨RX1, TX1, 10, rfl, by decide, wu_X1, wf_X1_24, rfl⟩
theorem fd_X1_27 : FldOK RX1 27 1 9 := ⟨RX1, TX1, 10, rfl, by decide, wu_X1, wf_X1_27, rfl⟩
theorem fd_X1_33 : FldOK RX1 33 1 0 := ⟨RX1, TX1, 10, rfl, by decide, wu_X1, wf_X1_33, rfl⟩
theorem fd_X1_37 : FldOK RX1 37 1 1 := ⟨RX1, TX1, 10, rfl, by decide, wu_X1, wf_X1_37, rfl⟩
theorem fd_X1_40 : FldOK RX1 40 1 2 := ⟨RX1, TX1, 10, rfl, by decide, wu_X1, wf_X1_40, rfl⟩
theorem fd_X1_43 : FldOK RX1 43 1 3 := ⟨RX1, TX1, 10, rfl, by decide, wu_X1, wf_X1_43, rfl⟩
theorem fd_X2_9 : FldOK RX2 9 2 0 := ⟨RX2, TX2, 3, rfl, by decide, wu_X2, wf_X2_9, rfl⟩
theorem fd_X2_15 : FldOK RX2 15 2 1 := ⟨RX2, TX2, 3, rfl, by decide, wu_X2, wf_X2_15, rfl⟩
theorem fd_X2_19 : FldOK RX2 19 2 2 := ⟨RX2, TX2, 3, rfl, by decide, wu_X2, wf_X2_19, rfl⟩
theorem fd_X3_9 : FldOK RX3 9 3 0 := ⟨RX3, TX3, 9, rfl, by decide, wu_X3, wf_X3_9, rfl⟩
theorem fd_X3_15 : FldOK RX3 15 3 1 := ⟨RX3, TX3, 9, rfl, by decide, wu_X3, wf_X3_15, rfl⟩
theorem fd_X3_19 : FldOK RX3 19 3 2 := ⟨RX3, TX3, 9, rfl, by decide, wu_X3, wf_X3_19, rfl⟩
theorem fd_X3_22 : FldOK RX3 22 3 3 := ⟨RX3, TX3, 9, rfl, by decide, wu_X3, wf_X3_22, rfl⟩
theorem fd_X3_25 : FldOK RX3 25 3 4 := ⟨RX3, TX3, 9, rfl, by decide, wu_X3, wf_X3_25, rfl⟩
theorem fd_X3_28 : FldOK RX3 28 3 5 := ⟨RX3, TX3, 9, rfl, by decide, wu_X3, wf_X3_28, rfl⟩
theorem fd_X3_31 : FldOK RX3 31 3 6 := ⟨RX3, TX3, 9, rfl, by decide, wu_X3, wf_X3_31, rfl⟩
theorem fd_X3_34 : FldOK RX3 34 3 7 := ⟨RX3, TX3, 9, rfl, by decide, wu_X3, wf_X3_34, rfl⟩
theorem fd_X3_37 : FldOK RX3 37 3 8 := ⟨RX3, TX3, 9, rfl, by decide, wu_X3, wf_X3_37, rfl⟩
theorem fd_X3_100 : FldOK RX3 100 1 1 := ⟨RX1, TX1, 10, rfl, by decide, wu_X1, wf_X3_100, rfl⟩
theorem fd_X3_103 : FldOK RX3 103 1 2 := ⟨RX1, TX1, 10, rfl, by decide, wu_X1, wf_X3_103, rfl⟩
theorem fd_X3_106 : FldOK RX3 106 1 3 := ⟨RX1, TX1, 10, rfl, by decide, wu_X1, wf_X3_106, rfl⟩
theorem fd_X3_115 : FldOK RX3 115 1 0 := ⟨RX1, TX1, 10, rfl, by decide, wu_X1, wf_X3_115, rfl⟩
theorem fd_X3_139 : FldOK RX3 139 1 7 := ⟨RX1, TX1, 10, rfl, by decide, wu_X1, wf_X3_139, rfl⟩
theorem fd_X4_9 : FldOK RX4 9 4 0 := ⟨RX4, TX4, 3, rfl, by decide, wu_X4, wf_X4_9, rfl⟩
theorem fd_X4_15 : FldOK RX4 15 4 1 := ⟨RX4, TX4, 3, rfl, by decide, wu_X4, wf_X4_15, rfl⟩
theorem fd_X4_19 : FldOK RX4 19 4 2 := ⟨RX4, TX4, 3, rfl, by decide, wu_X4, wf_X4_19, rfl⟩
theorem fd_X5_9 : FldOK RX5 9 5 2 := ⟨RX5, TX5, 8, rfl, by decide, wu_X5, wf_X5_9, rfl⟩
theorem fd_X5_15 : FldOK RX5 15 5 3 := ⟨RX5, TX5, 8, rfl, by decide, wu_X5, wf_X5_15, rfl⟩
theorem fd_X5_18 : FldOK RX5 18 5 4 := ⟨RX5, TX5, 8, rfl, by decide, wu_X5, wf_X5_18, rfl⟩
theorem fd_X5_21 : FldOK RX5 21 5 5 := ⟨RX5, TX5, 8, rfl, by decide, wu_X5, wf_X5_21, rfl⟩
theorem fd_X5_25 : FldOK RX5 25 5 6 := ⟨RX5, TX5, 8, rfl, by decide, wu_X5, wf_X5_25, rfl⟩
theorem fd_X5_28 : FldOK RX5 28 5 7 := ⟨RX5, TX5, 8, rfl, by decide, wu_X5, wf_X5_28, rfl⟩
theorem fd_X5_31 : FldOK RX5 31 5 0 := ⟨RX5, TX5, 8, rfl, by decide, wu_X5, wf_X5_31, rfl⟩
theorem fd_X5_35 : FldOK RX5 35 5 1 := ⟨RX5, TX5, 8, rfl, by decide, wu_X5, wf_X5_35, rfl⟩
theorem fd_X5_45 : FldOK RX5 45 1 2 := ⟨RX1, TX1, 10, rfl, by decide, wu_X1, wf_X5_45, rfl⟩
theorem fd_X5_83 : FldOK RX5 83 1 5 := ⟨RX1, TX1, 10, rfl, by decide, wu_X1, wf_X5_83, rfl⟩
theorem fd_X5_89 : FldOK RX5 89 1 3 := ⟨RX1, TX1, 10, rfl, by decide, wu_X1, wf_X5_89, rfl⟩
theorem fd_X7_7 : FldOK RX7 7 7 0 := ⟨RX7, TX7, 50, rfl, by decide, wu_X7, wf_X7_7, rfl⟩
theorem fd_X7_13 : FldOK RX7 13 7 2 := ⟨RX7, TX7, 50, rfl, by decide, wu_X7, wf_X7_13, rfl⟩
theorem fd_X7_17 : FldOK RX7 17 7 4 := ⟨RX7, TX7, 50, rfl, by decide, wu_X7, wf_X7_17, rfl⟩
theorem fd_X7_20 : FldOK RX7 20 7 5 := ⟨RX7, TX7, 50, rfl, by decide, wu_X7, wf_X7_20, rfl⟩
theorem fd_X7_23 : FldOK RX7 23 7 7 := ⟨RX7, TX7, 50, rfl, by decide, wu_X7, wf_X7_23, rfl⟩
theorem fd_X7_26 : FldOK RX7 26 7 8 := ⟨RX7, TX7, 50, rfl, by decide, wu_X7, wf_X7_26, rfl⟩
theorem fd_X7_29 : FldOK RX7 29 7 9 := ⟨RX7, TX7, 50, rfl, by decide, wu_X7, wf_X7_29, rfl⟩
theorem fd_X7_32 : FldOK RX7 32 7 12 := ⟨RX7, TX7, 50, rfl, by decide, wu_X7, wf_X7_32, rfl⟩
theorem fd_X7_35 : FldOK RX7 35 7 13 := ⟨RX7, TX7, 50, rfl, by decide, wu_X7, wf_X7_35, rfl⟩
theorem fd_X7_38 : FldOK RX7 38 7 14 := ⟨RX7, TX7, 50, rfl, by decide, wu_X7, wf_X7_38, rfl⟩
theorem fd_X7_41 : FldOK RX7 41 7 15 := ⟨RX7, TX7, 50, rfl, by decide, wu_X7, wf_X7_41, rfl⟩
theorem fd_X7_44 : FldOK RX7 44 7 17 := ⟨RX7, TX7, 50, rfl, by decide, wu_X7, wf_X7_44, rfl⟩
theorem fd_X7_47 : FldOK RX7 47 7 19 := ⟨RX7, TX7, 50, rfl, by decide, wu_X7, wf_X7_47, rfl⟩
theorem fd_X7_50 : FldOK RX7 50 7 28 := ⟨RX7, TX7, 50, rfl, by decide, wu_X7, wf_X7_50, rfl⟩
theorem fd_X7_53 : FldOK RX7 53 7 30 := ⟨RX7, TX7, 50, rfl, by decide, wu_X7, wf_X7_53, rfl⟩
theorem fd_X7_56 : FldOK RX7 56 7 31 := ⟨RX7, TX7, 50, rfl, by decide, wu_X7, wf_X7_56, rfl⟩
theorem fd_X7_59 : FldOK RX7 59 7 33 := ⟨RX7, TX7, 50, rfl, by decide, wu_X7, wf_X7_59, rfl⟩
theorem fd_X7_62 : FldOK RX7 62 7 35 := ⟨RX7, TX7, 50, rfl, by decide, wu_X7, wf_X7_62, rfl⟩
theorem fd_X7_65 : FldOK RX7 65 7 36 := ⟨RX7, TX7, 50, rfl, by decide, wu_X7, wf_X7_65, rfl⟩
theorem fd_X7_68 : FldOK RX7 68 7 37 := ⟨RX7, TX7, 50, rfl, by decide, wu_X7, wf_X7_68, rfl⟩
theorem fd_X7_71 : FldOK RX7 71 7 38 := ⟨RX7, TX7, 50, rfl, by decide, wu_X7, wf_X7_71, rfl⟩
theorem fd_X7_74 : FldOK RX7 74 7 40 := ⟨RX7, TX7, 50, rfl, by decide, wu_X7, wf_X7_74, rfl⟩
theorem fd_X7_77 : FldOK RX7 77 7 41 := ⟨RX7, TX7, 50, rfl, by decide, wu_X7, wf_X7_77, rfl⟩
theorem fd_X7_80 : FldOK RX7 80 7 42 := ⟨RX7, TX7, 50, rfl, by decide, wu_X7, wf_X7_80, rfl⟩
theorem fd_X7_84 : FldOK RX7 84 7 43 := ⟨RX7, TX7, 50, rfl, by decide, wu_X7, wf_X7_84, rfl⟩
theorem fd_X7_87 : FldOK RX7 87 7 44 := ⟨RX7, TX7, 50, rfl, by decide, wu_X7, wf_X7_87, rfl⟩
theorem fd_X7_90 : FldOK RX7 90 7 46 := ⟨RX7, TX7, 50, rfl, by decide, wu_X7, wf_X7_90, rfl⟩
theorem fd_X7_93 : FldOK RX7 93 7 47 := ⟨RX7, TX7, 50, rfl, by decide, wu_X7, wf_X7_93, rfl⟩
theorem fd_X7_96 : FldOK RX7 96 7 48 := ⟨RX7, TX7, 50, rfl, by decide, wu_X7, wf_X7_96, rfl⟩
theorem fd_X7_99 : FldOK RX7 99 7 49 := ⟨RX7, TX7, 50, rfl, by decide, wu_X7, wf_X7_99, rfl⟩
theorem fd_X7_102 : FldOK RX7 102 7 3 := ⟨RX7, TX7, 50, rfl, by decide, wu_X7, wf_X7_102, rfl⟩
theorem fd_X7_105 : FldOK RX7 105 7 1 := ⟨RX7, TX7, 50, rfl, by decide, wu_X7, wf_X7_105, rfl⟩
theorem fd_X7_119 : FldOK RX7 119 7 18 := ⟨RX7, TX7, 50, rfl, by decide, wu_X7, wf_X7_119, rfl⟩
theorem fd_X7_125 : FldOK RX7 125 7 20 := ⟨RX7, TX7, 50, rfl, by decide, wu_X7, wf_X7_125, rfl⟩
theorem fd_X7_132 : FldOK RX7 132 7 21 := ⟨RX7, TX7, 50, rfl, by decide, wu_X7, wf_X7_132, rfl⟩
theorem fd_X7_136 : FldOK RX7 136 7 22 := ⟨RX7, TX7, 50, rfl, by decide, wu_X7, wf_X7_136, rfl⟩
theorem fd_X7_159 : FldOK RX7 159 7 24 := ⟨RX7, TX7, 50, rfl, by decide, wu_X7, wf_X7_159, rfl⟩
theorem fd_X7_162 : FldOK RX7 162 7 23 := ⟨RX7, TX7, 50, rfl, by decide, wu_X7, wf_X7_162, rfl⟩
theorem fd_X7_168 : FldOK RX7 168 7 25 := ⟨RX7, TX7, 50, rfl, by decide, wu_X7, wf_X7_168, rfl⟩
theorem fd_X7_171 : FldOK RX7 171 7 27 := ⟨RX7, TX7, 50, rfl, by decide, wu_X7, wf_X7_171, rfl⟩
theorem fd_X7_178 : FldOK RX7 178 7 29 := ⟨RX7, TX7, 50, rfl, by decide, wu_X7, wf_X7_178, rfl⟩
theorem fd_X7_181 : FldOK RX7 181 7 32 := ⟨RX7, TX7, 50, rfl, by decide, wu_X7, wf_X7_181, rfl⟩
theorem fd_X7_188 : FldOK RX7 188 7 34 := ⟨RX7, TX7, 50, rfl, by decide, wu_X7, wf_X7_188, rfl⟩
theorem fd_X7_202 : FldOK RX7 202 7 26 := ⟨RX7, TX7, 50, rfl, by decide, wu_X7, wf_X7_202, rfl⟩
theorem fd_X7_223 : FldOK RX7 223 7 6 := ⟨RX7, TX7, 50, rfl, by decide, wu_X7, wf_X7_223, rfl⟩
theorem fd_X7_226 : FldOK RX7 226 7 10 := ⟨RX7, TX7, 50, rfl, by decide, wu_X7, wf_X7_226, rfl⟩
theorem fd_X7_229 : FldOK RX7 229 7 11 := ⟨RX7, TX7, 50, rfl, by decide, wu_X7, wf_X7_229, rfl⟩
theorem fd_X7_232 : FldOK RX7 232 7 39 := ⟨RX7, TX7, 50, rfl, by decide, wu_X7, wf_X7_232, rfl⟩
theorem fd_X7_235 : FldOK RX7 235 7 45 := ⟨RX7, TX7, 50, rfl, by decide, wu_X7, wf_X7_235, rfl⟩
theorem fd_X7_270 : FldOK RX7 270 7 16 := ⟨RX7, TX7, 50, rfl, by decide, wu_X7, wf_X7_270, rfl⟩
theorem fp_X0 : PutOK 0 := ⟨RX0, TX0, 9, tyX0, rfl, wu_X0, tyX0_ok, nmX0⟩
theorem fp_X1 : PutOK 1 := ⟨RX1, TX1, 10, tyX1, rfl, wu_X1, tyX1_ok, nmX1⟩
theorem fp_X2 : PutOK 2 := ⟨RX2, TX2, 3, tyX2, rfl, wu_X2, tyX2_ok, nmX2⟩
theorem fp_X3 : PutOK 3 := ⟨RX3, TX3, 9, tyX3, rfl, wu_X3, tyX3_ok, nmX3⟩
theorem fp_X4 : PutOK 4 := ⟨RX4, TX4, 3, tyX4, rfl, wu_X4, tyX4_ok, nmX4⟩
theorem fp_X5 : PutOK 5 := ⟨RX5, TX5, 8, tyX5, rfl, wu_X5, tyX5_ok, nmX5⟩
theorem fp_X6 : PutOK 6 := ⟨RX6, TX6, 10, tyX6, rfl, wu_X6, tyX6_ok, nmX6⟩
theorem fp_X7 : PutOK 7 := ⟨RX7, TX7, 50, tyX7, rfl, wu_X7, tyX7_ok, nmX7⟩
theorem ci_X6_init : CalI yX6_init cX6_init 1 0 := ⟨wc_X6_init, wn_X6, wi_X6_init, rfl, by decide +kernel⟩
theorem cs_X6_bit : CalS yX6_bit cX6_bit 1 (some .int) 1 := ⟨wc_X6_bit, wn_X6, wst_X6_bit, by decide +kernel⟩
theorem cv_X6_bridge : CalV yX6_bridge cX6_bridge 3 (some .int) 2 := ⟨wc_X6_bridge, wn_X6, wi_X6_bridge, wsl_X6_bridge, by decide +kernel⟩
theorem cv_X6_cross : CalV yX6_cross cX6_cross 4 (some .int) 3 := ⟨wc_X6_cross, wn_X6, wi_X6_cross, wsl_X6_cross, by decide +kernel⟩
theorem cv_X6_drift : CalV yX6_drift cX6_drift 3 (some .int) 1 := ⟨wc_X6_drift, wn_X6, wi_X6_drift, wsl_X6_drift, by decide +kernel⟩
theorem cv_X6_evening : CalV yX6_evening cX6_evening 1 (some .int) 0 := ⟨wc_X6_evening, wn_X6, wi_X6_evening, wsl_X6_evening, by decide +kernel⟩
theorem cv_X6_fault : CalV yX6_fault cX6_fault 1 (some .int) 0 := ⟨wc_X6_fault, wn_X6, wi_X6_fault, wsl_X6_fault, by decide +kernel⟩
theorem cv_X6_feed : CalV yX6_feed cX6_feed 4 (some .int) 2 := ⟨wc_X6_feed, wn_X6, wi_X6_feed, wsl_X6_feed, by decide +kernel⟩
theorem cv_X6_found : CalV yX6_found cX6_found 2 (some .int) 1 := ⟨wc_X6_found, wn_X6, wi_X6_found, wsl_X6_found, by decide +kernel⟩
theorem cv_X6_goBack : CalV yX6_goBack cX6_goBack 2 (some .int) 1 := ⟨wc_X6_goBack, wn_X6, wi_X6_goBack, wsl_X6_goBack, by decide +kernel⟩
theorem cs_X6_has : CalS yX6_has cX6_has 2 (some .boolean) 2 := ⟨wc_X6_has, wn_X6, wst_X6_has, by decide +kernel⟩
theorem cv_X6_heavier : CalV yX6_heavier cX6_heavier 2 (some .int) 1 := ⟨wc_X6_heavier, wn_X6, wi_X6_heavier, wsl_X6_heavier, by decide +kernel⟩
theorem cv_X6_hills : CalV yX6_hills cX6_hills 2 (some .int) 0 := ⟨wc_X6_hills, wn_X6, wi_X6_hills, wsl_X6_hills, by decide +kernel⟩
theorem cv_X6_hired : CalV yX6_hired cX6_hired 4 (some .int) 2 := ⟨wc_X6_hired, wn_X6, wi_X6_hired, wsl_X6_hired, by decide +kernel⟩
theorem cv_X6_image : CalV yX6_image cX6_image 2 (some (.object "HeavierToCome$Days")) 1 := ⟨wc_X6_image, wn_X6, wi_X6_image, wsl_X6_image, by decide +kernel⟩
theorem cs_X6_isImage : CalS yX6_isImage cX6_isImage 1 (some .boolean) 1 := ⟨wc_X6_isImage, wn_X6, wst_X6_isImage, by decide +kernel⟩
theorem cv_X6_keep : CalV yX6_keep cX6_keep 2 (some .int) 1 := ⟨wc_X6_keep, wn_X6, wi_X6_keep, wsl_X6_keep, by decide +kernel⟩
theorem cv_X6_know : CalV yX6_know cX6_know 5 (some .int) 3 := ⟨wc_X6_know, wn_X6, wi_X6_know, wsl_X6_know, by decide +kernel⟩
theorem cv_X6_man : CalV yX6_man cX6_man 3 (some .int) 2 := ⟨wc_X6_man, wn_X6, wi_X6_man, wsl_X6_man, by decide +kernel⟩
theorem cv_X6_most : CalV yX6_most cX6_most 4 (some .int) 2 := ⟨wc_X6_most, wn_X6, wi_X6_most, wsl_X6_most, by decide +kernel⟩
theorem cv_X6_named : CalV yX6_named cX6_named 3 (some .int) 2 := ⟨wc_X6_named, wn_X6, wi_X6_named, wsl_X6_named, by decide +kernel⟩
theorem cv_X6_names : CalV yX6_names cX6_names 4 (some .int) 2 := ⟨wc_X6_names, wn_X6, wi_X6_names, wsl_X6_names, by decide +kernel⟩
theorem cv_X6_odds : CalV yX6_odds cX6_odds 1 (some .int) 0 := ⟨wc_X6_odds, wn_X6, wi_X6_odds, wsl_X6_odds, by decide +kernel⟩
theorem cv_X6_orders : CalV yX6_orders cX6_orders 1 (some .int) 0 := ⟨wc_X6_orders, wn_X6, wi_X6_orders, wsl_X6_orders, by decide +kernel⟩
theorem cv_X6_ox : CalV yX6_ox cX6_ox 3 (some .int) 2 := ⟨wc_X6_ox, wn_X6, wi_X6_ox, wsl_X6_ox, by decide +kernel⟩
theorem cv_X6_row : CalV yX6_row cX6_row 3 (some .int) 2 := ⟨wc_X6_row, wn_X6, wi_X6_row, wsl_X6_row, by decide +kernel⟩
theorem cv_X6_see : CalV yX6_see cX6_see 4 (some .int) 3 := ⟨wc_X6_see, wn_X6, wi_X6_see, wsl_X6_see, by decide +kernel⟩
theorem cv_X6_seed : CalV yX6_seed cX6_seed 3 (some .int) 1 := ⟨wc_X6_seed, wn_X6, wi_X6_seed, wsl_X6_seed, by decide +kernel⟩
theorem cs_X6_slot : CalS yX6_slot cX6_slot 2 (some .int) 2 := ⟨wc_X6_slot, wn_X6, wst_X6_slot, by decide +kernel⟩
theorem cv_X6_tear : CalV yX6_tear cX6_tear 2 (some .int) 0 := ⟨wc_X6_tear, wn_X6, wi_X6_tear, wsl_X6_tear, by decide +kernel⟩
theorem cv_X6_tellings : CalV yX6_tellings cX6_tellings 2 (some .int) 1 := ⟨wc_X6_tellings, wn_X6, wi_X6_tellings, wsl_X6_tellings, by decide +kernel⟩
theorem cv_X6_told : CalV yX6_told cX6_told 2 (some .int) 1 := ⟨wc_X6_told, wn_X6, wi_X6_told, wsl_X6_told, by decide +kernel⟩
theorem cv_X6_whom : CalV yX6_whom cX6_whom 3 (some .int) 2 := ⟨wc_X6_whom, wn_X6, wi_X6_whom, wsl_X6_whom, by decide +kernel⟩
theorem cv_X6_wrong : CalV yX6_wrong cX6_wrong 2 (some .int) 1 := ⟨wc_X6_wrong, wn_X6, wi_X6_wrong, wsl_X6_wrong, by decide +kernel⟩
theorem ci_X0_init : CalI yX0_init cX0_init 2 1 := ⟨wc_X0_init, wn_X0, wi_X0_init, rfl, by decide +kernel⟩
theorem cv_X0_allRemembered : CalV yX0_allRemembered cX0_allRemembered 4 (some .int) 1 := ⟨wc_X0_allRemembered, wn_X0, wi_X0_allRemembered, wsl_X0_allRemembered, by decide +kernel⟩
theorem cv_X0_begin : CalV yX0_begin cX0_begin 1 none 0 := ⟨wc_X0_begin, wn_X0, wi_X0_begin, wsl_X0_begin, by decide +kernel⟩
theorem cv_X0_copyFrom : CalV yX0_copyFrom cX0_copyFrom 2 none 1 := ⟨wc_X0_copyFrom, wn_X0, wi_X0_copyFrom, wsl_X0_copyFrom, by decide +kernel⟩
theorem cv_X0_draw : CalV yX0_draw cX0_draw 2 (some .int) 1 := ⟨wc_X0_draw, wn_X0, wi_X0_draw, wsl_X0_draw, by decide +kernel⟩
theorem cv_X0_drawCrossing : CalV yX0_drawCrossing cX0_drawCrossing 4 none 1 := ⟨wc_X0_drawCrossing, wn_X0, wi_X0_drawCrossing, wsl_X0_drawCrossing, by decide +kernel⟩
theorem cv_X0_drawDay : CalV yX0_drawDay cX0_drawDay 2 none 0 := ⟨wc_X0_drawDay, wn_X0, wi_X0_drawDay, wsl_X0_drawDay, by decide +kernel⟩
theorem cv_X0_endDay : CalV yX0_endDay cX0_endDay 5 (some .int) 0 := ⟨wc_X0_endDay, wn_X0, wi_X0_endDay, wsl_X0_endDay, by decide +kernel⟩
theorem cv_X0_forget : CalV yX0_forget cX0_forget 2 none 0 := ⟨wc_X0_forget, wn_X0, wi_X0_forget, wsl_X0_forget, by decide +kernel⟩
theorem cv_X0_go : CalV yX0_go cX0_go 5 (some .int) 3 := ⟨wc_X0_go, wn_X0, wi_X0_go, wsl_X0_go, by decide +kernel⟩
theorem cv_X0_goesAlone : CalV yX0_goesAlone cX0_goesAlone 4 (some .boolean) 2 := ⟨wc_X0_goesAlone, wn_X0, wi_X0_goesAlone, wsl_X0_goesAlone, by decide +kernel⟩
theorem cv_X0_helpers : CalV yX0_helpers cX0_helpers 3 (some .int) 2 := ⟨wc_X0_helpers, wn_X0, wi_X0_helpers, wsl_X0_helpers, by decide +kernel⟩
theorem cv_X0_isRemembered : CalV yX0_isRemembered cX0_isRemembered 4 (some .boolean) 2 := ⟨wc_X0_isRemembered, wn_X0, wi_X0_isRemembered, wsl_X0_isRemembered, by decide +kernel⟩
theorem cv_X0_liarsAt : CalV yX0_liarsAt cX0_liarsAt 5 (some .int) 1 := ⟨wc_X0_liarsAt, wn_X0, wi_X0_liarsAt, wsl_X0_liarsAt, by decide +kernel⟩
theorem cv_X0_saidTheDead : CalV yX0_saidTheDead cX0_saidTheDead 5 (some .int) 0 := ⟨wc_X0_saidTheDead, wn_X0, wi_X0_saidTheDead, wsl_X0_saidTheDead, by decide +kernel⟩
theorem cv_X0_saidUnlike : CalV yX0_saidUnlike cX0_saidUnlike 5 (some .int) 0 := ⟨wc_X0_saidUnlike, wn_X0, wi_X0_saidUnlike, wsl_X0_saidUnlike, by decide +kernel⟩
theorem cv_X0_toCome : CalV yX0_toCome cX0_toCome 2 (some .int) 1 := ⟨wc_X0_toCome, wn_X0, wi_X0_toCome, wsl_X0_toCome, by decide +kernel⟩
theorem ci_X1_init : CalI yX1_init cX1_init 1 0 := ⟨wc_X1_init, wn_X1, wi_X1_init, rfl, by decide +kernel⟩
theorem cv_X1_addBridge : CalV yX1_addBridge cX1_addBridge 2 none 1 := ⟨wc_X1_addBridge, wn_X1, wi_X1_addBridge, wsl_X1_addBridge, by decide +kernel⟩
theorem cv_X1_addMan : CalV yX1_addMan cX1_addMan 3 none 2 := ⟨wc_X1_addMan, wn_X1, wi_X1_addMan, wsl_X1_addMan, by decide +kernel⟩
theorem cv_X1_addOx : CalV yX1_addOx cX1_addOx 3 none 2 := ⟨wc_X1_addOx, wn_X1, wi_X1_addOx, wsl_X1_addOx, by decide +kernel⟩
theorem cv_X1_arePair : CalV yX1_arePair cX1_arePair 3 (some .boolean) 2 := ⟨wc_X1_arePair, wn_X1, wi_X1_arePair, wsl_X1_arePair, by decide +kernel⟩
theorem cv_X1_clear : CalV yX1_clear cX1_clear 1 none 0 := ⟨wc_X1_clear, wn_X1, wi_X1_clear, wsl_X1_clear, by decide +kernel⟩
theorem cv_X1_copyFrom : CalV yX1_copyFrom cX1_copyFrom 2 none 1 := ⟨wc_X1_copyFrom, wn_X1, wi_X1_copyFrom, wsl_X1_copyFrom, by decide +kernel⟩
theorem cv_X1_everybody : CalV yX1_everybody cX1_everybody 1 (some .int) 0 := ⟨wc_X1_everybody, wn_X1, wi_X1_everybody, wsl_X1_everybody, by decide +kernel⟩
theorem cv_X1_hasBridge : CalV yX1_hasBridge cX1_hasBridge 2 (some .boolean) 1 := ⟨wc_X1_hasBridge, wn_X1, wi_X1_hasBridge, wsl_X1_hasBridge, by decide +kernel⟩
theorem cv_X1_hasMan : CalV yX1_hasMan cX1_hasMan 2 (some .boolean) 1 := ⟨wc_X1_hasMan, wn_X1, wi_X1_hasMan, wsl_X1_hasMan, by decide +kernel⟩
theorem cv_X1_hasOx : CalV yX1_hasOx cX1_hasOx 2 (some .boolean) 1 := ⟨wc_X1_hasOx, wn_X1, wi_X1_hasOx, wsl_X1_hasOx, by decide +kernel⟩
theorem cv_X1_heavierThan : CalV yX1_heavierThan cX1_heavierThan 4 (some .int) 1 := ⟨wc_X1_heavierThan, wn_X1, wi_X1_heavierThan, wsl_X1_heavierThan, by decide +kernel⟩
theorem cv_X1_heaviestOx : CalV yX1_heaviestOx cX1_heaviestOx 4 (some .int) 1 := ⟨wc_X1_heaviestOx, wn_X1, wi_X1_heaviestOx, wsl_X1_heaviestOx, by decide +kernel⟩
theorem cv_X1_likeliest : CalV yX1_likeliest cX1_likeliest 4 (some .int) 1 := ⟨wc_X1_likeliest, wn_X1, wi_X1_likeliest, wsl_X1_likeliest, by decide +kernel⟩
theorem cv_X1_mayName : CalV yX1_mayName cX1_mayName 3 (some .boolean) 2 := ⟨wc_X1_mayName, wn_X1, wi_X1_mayName, wsl_X1_mayName, by decide +kernel⟩
theorem cv_X1_oddsOf : CalV yX1_oddsOf cX1_oddsOf 5 (some .int) 1 := ⟨wc_X1_oddsOf, wn_X1, wi_X1_oddsOf, wsl_X1_oddsOf, by decide +kernel⟩
theorem cv_X1_priceOf : CalV yX1_priceOf cX1_priceOf 4 (some .int) 1 := ⟨wc_X1_priceOf, wn_X1, wi_X1_priceOf, wsl_X1_priceOf, by decide +kernel⟩
theorem cv_X1_yearOf : CalV yX1_yearOf cX1_yearOf 2 (some .int) 1 := ⟨wc_X1_yearOf, wn_X1, wi_X1_yearOf, wsl_X1_yearOf, by decide +kernel⟩
theorem ci_X2_init : CalI yX2_init cX2_init 1 0 := ⟨wc_X2_init, wn_X2, wi_X2_init, rfl, by decide +kernel⟩
theorem cv_X2_add : CalV yX2_add cX2_add 3 (some .int) 2 := ⟨wc_X2_add, wn_X2, wi_X2_add, wsl_X2_add, by decide +kernel⟩
theorem cv_X2_allNamed : CalV yX2_allNamed cX2_allNamed 3 (some .int) 0 := ⟨wc_X2_allNamed, wn_X2, wi_X2_allNamed, wsl_X2_allNamed, by decide +kernel⟩
theorem cv_X2_clear : CalV yX2_clear cX2_clear 1 none 0 := ⟨wc_X2_clear, wn_X2, wi_X2_clear, wsl_X2_clear, by decide +kernel⟩
theorem cv_X2_firstEaten : CalV yX2_firstEaten cX2_firstEaten 6 (some .int) 2 := ⟨wc_X2_firstEaten, wn_X2, wi_X2_firstEaten, wsl_X2_firstEaten, by decide +kernel⟩
theorem cv_X2_firstLiar : CalV yX2_firstLiar cX2_firstLiar 4 (some .int) 0 := ⟨wc_X2_firstLiar, wn_X2, wi_X2_firstLiar, wsl_X2_firstLiar, by decide +kernel⟩
theorem cv_X2_firstWrong : CalV yX2_firstWrong cX2_firstWrong 4 (some .int) 2 := ⟨wc_X2_firstWrong, wn_X2, wi_X2_firstWrong, wsl_X2_firstWrong, by decide +kernel⟩
theorem ci_X3_init : CalI yX3_init cX3_init 1 0 := ⟨wc_X3_init, wn_X3, wi_X3_init, rfl, by decide +kernel⟩
theorem cv_X3_add : CalV yX3_add cX3_add 5 (some .int) 2 := ⟨wc_X3_add, wn_X3, wi_X3_add, wsl_X3_add, by decide +kernel⟩
theorem cv_X3_blame : CalV yX3_blame cX3_blame 3 none 2 := ⟨wc_X3_blame, wn_X3, wi_X3_blame, wsl_X3_blame, by decide +kernel⟩
theorem cv_X3_clauseOf : CalV yX3_clauseOf cX3_clauseOf 3 (some .int) 2 := ⟨wc_X3_clauseOf, wn_X3, wi_X3_clauseOf, wsl_X3_clauseOf, by decide +kernel⟩
theorem cv_X3_endClause : CalV yX3_endClause cX3_endClause 1 none 0 := ⟨wc_X3_endClause, wn_X3, wi_X3_endClause, wsl_X3_endClause, by decide +kernel⟩
theorem cv_X3_endOfWord : CalV yX3_endOfWord cX3_endOfWord 2 (some .int) 0 := ⟨wc_X3_endOfWord, wn_X3, wi_X3_endOfWord, wsl_X3_endOfWord, by decide +kernel⟩
theorem cs_X3_isFigure : CalS yX3_isFigure cX3_isFigure 1 (some .boolean) 1 := ⟨wc_X3_isFigure, wn_X3, wst_X3_isFigure, by decide +kernel⟩
theorem cv_X3_isWord : CalV yX3_isWord cX3_isWord 5 (some .boolean) 3 := ⟨wc_X3_isWord, wn_X3, wi_X3_isWord, wsl_X3_isWord, by decide +kernel⟩
theorem cv_X3_number : CalV yX3_number cX3_number 5 (some .int) 2 := ⟨wc_X3_number, wn_X3, wi_X3_number, wsl_X3_number, by decide +kernel⟩
theorem cs_X3_overMost : CalS yX3_overMost cX3_overMost 2 (some .int) 2 := ⟨wc_X3_overMost, wn_X3, wst_X3_overMost, by decide +kernel⟩
theorem cv_X3_readBridge : CalV yX3_readBridge cX3_readBridge 3 none 1 := ⟨wc_X3_readBridge, wn_X3, wi_X3_readBridge, wsl_X3_readBridge, by decide +kernel⟩
theorem cv_X3_readClause : CalV yX3_readClause cX3_readClause 6 none 1 := ⟨wc_X3_readClause, wn_X3, wi_X3_readClause, wsl_X3_readClause, by decide +kernel⟩
theorem cv_X3_readInto : CalV yX3_readInto cX3_readInto 3 (some .int) 1 := ⟨wc_X3_readInto, wn_X3, wi_X3_readInto, wsl_X3_readInto, by decide +kernel⟩
theorem cv_X3_readKnown : CalV yX3_readKnown cX3_readKnown 4 none 3 := ⟨wc_X3_readKnown, wn_X3, wi_X3_readKnown, wsl_X3_readKnown, by decide +kernel⟩
theorem cv_X3_readKnows : CalV yX3_readKnows cX3_readKnows 6 none 1 := ⟨wc_X3_readKnows, wn_X3, wi_X3_readKnows, wsl_X3_readKnows, by decide +kernel⟩
theorem cv_X3_readMan : CalV yX3_readMan cX3_readMan 4 none 1 := ⟨wc_X3_readMan, wn_X3, wi_X3_readMan, wsl_X3_readMan, by decide +kernel⟩
theorem cv_X3_readOx : CalV yX3_readOx cX3_readOx 4 none 1 := ⟨wc_X3_readOx, wn_X3, wi_X3_readOx, wsl_X3_readOx, by decide +kernel⟩
theorem cv_X3_readYear : CalV yX3_readYear cX3_readYear 3 none 1 := ⟨wc_X3_readYear, wn_X3, wi_X3_readYear, wsl_X3_readYear, by decide +kernel⟩
theorem cv_X3_skipBlanks : CalV yX3_skipBlanks cX3_skipBlanks 1 none 0 := ⟨wc_X3_skipBlanks, wn_X3, wi_X3_skipBlanks, wsl_X3_skipBlanks, by decide +kernel⟩
theorem cv_X3_takes : CalV yX3_takes cX3_takes 2 (some .boolean) 1 := ⟨wc_X3_takes, wn_X3, wi_X3_takes, wsl_X3_takes, by decide +kernel⟩
theorem cv_X3_whyNot : CalV yX3_whyNot cX3_whyNot 3 (some .int) 2 := ⟨wc_X3_whyNot, wn_X3, wi_X3_whyNot, wsl_X3_whyNot, by decide +kernel⟩
theorem ci_X4_init : CalI yX4_init cX4_init 1 0 := ⟨wc_X4_init, wn_X4, wi_X4_init, rfl, by decide +kernel⟩
theorem cv_X4_add : CalV yX4_add cX4_add 3 (some .int) 2 := ⟨wc_X4_add, wn_X4, wi_X4_add, wsl_X4_add, by decide +kernel⟩
theorem cv_X4_alwaysBehind : CalV yX4_alwaysBehind cX4_alwaysBehind 6 (some .int) 2 := ⟨wc_X4_alwaysBehind, wn_X4, wi_X4_alwaysBehind, wsl_X4_alwaysBehind, by decide +kernel⟩
theorem cv_X4_clear : CalV yX4_clear cX4_clear 2 none 0 := ⟨wc_X4_clear, wn_X4, wi_X4_clear, wsl_X4_clear, by decide +kernel⟩
theorem cv_X4_countOrders : CalV yX4_countOrders cX4_countOrders 6 (some .int) 1 := ⟨wc_X4_countOrders, wn_X4, wi_X4_countOrders, wsl_X4_countOrders, by decide +kernel⟩
theorem ci_X5_init : CalI yX5_init cX5_init 3 2 := ⟨wc_X5_init, wn_X5, wi_X5_init, rfl, by decide +kernel⟩
theorem cv_X5_allPassBefore : CalV yX5_allPassBefore cX5_allPassBefore 5 (some .boolean) 1 := ⟨wc_X5_allPassBefore, wn_X5, wi_X5_allPassBefore, wsl_X5_allPassBefore, by decide +kernel⟩
theorem cv_X5_cheapestOxen : CalV yX5_cheapestOxen cX5_cheapestOxen 5 (some .int) 1 := ⟨wc_X5_cheapestOxen, wn_X5, wi_X5_cheapestOxen, wsl_X5_cheapestOxen, by decide +kernel⟩
theorem cv_X5_fewestTold : CalV yX5_fewestTold cX5_fewestTold 4 (some .int) 1 := ⟨wc_X5_fewestTold, wn_X5, wi_X5_fewestTold, wsl_X5_fewestTold, by decide +kernel⟩
theorem cv_X5_lineUp : CalV yX5_lineUp cX5_lineUp 5 (some .int) 1 := ⟨wc_X5_lineUp, wn_X5, wi_X5_lineUp, wsl_X5_lineUp, by decide +kernel⟩
theorem cv_X5_lookAt : CalV yX5_lookAt cX5_lookAt 3 none 1 := ⟨wc_X5_lookAt, wn_X5, wi_X5_lookAt, wsl_X5_lookAt, by decide +kernel⟩
theorem cv_X5_mostSet : CalV yX5_mostSet cX5_mostSet 3 (some .int) 0 := ⟨wc_X5_mostSet, wn_X5, wi_X5_mostSet, wsl_X5_mostSet, by decide +kernel⟩
theorem cv_X5_nameInLine : CalV yX5_nameInLine cX5_nameInLine 4 (some .int) 1 := ⟨wc_X5_nameInLine, wn_X5, wi_X5_nameInLine, wsl_X5_nameInLine, by decide +kernel⟩
theorem cv_X5_nextInLine : CalV yX5_nextInLine cX5_nextInLine 4 (some .int) 1 := ⟨wc_X5_nextInLine, wn_X5, wi_X5_nextInLine, wsl_X5_nextInLine, by decide +kernel⟩
theorem cv_X5_passes : CalV yX5_passes cX5_passes 3 (some .boolean) 2 := ⟨wc_X5_passes, wn_X5, wi_X5_passes, wsl_X5_passes, by decide +kernel⟩
theorem cv_X5_passing : CalV yX5_passing cX5_passing 4 (some .int) 1 := ⟨wc_X5_passing, wn_X5, wi_X5_passing, wsl_X5_passing, by decide +kernel⟩
theorem ci_X7_init : CalI yX7_init cX7_init 1 0 := ⟨wc_X7_init, wn_X7, wi_X7_init, rfl, by decide +kernel⟩
theorem cv_X7_areOver : CalV yX7_areOver cX7_areOver 8 (some .boolean) 2 := ⟨wc_X7_areOver, wn_X7, wi_X7_areOver, wsl_X7_areOver, by decide +kernel⟩
theorem cv_X7_bridge : CalV yX7_bridge cX7_bridge 3 (some .int) 2 := ⟨wc_X7_bridge, wn_X7, wi_X7_bridge, wsl_X7_bridge, by decide +kernel⟩
theorem cv_X7_canCross : CalV yX7_canCross cX7_canCross 4 (some .boolean) 3 := ⟨wc_X7_canCross, wn_X7, wi_X7_canCross, wsl_X7_canCross, by decide +kernel⟩
theorem cv_X7_candidates : CalV yX7_candidates cX7_candidates 2 (some .int) 1 := ⟨wc_X7_candidates, wn_X7, wi_X7_candidates, wsl_X7_candidates, by decide +kernel⟩
theorem cs_X7_code : CalS yX7_code cX7_code 3 (some .long) 3 := ⟨wc_X7_code, wn_X7, wst_X7_code, by decide +kernel⟩
theorem cv_X7_couldName : CalV yX7_couldName cX7_couldName 6 (some .boolean) 3 := ⟨wc_X7_couldName, wn_X7, wi_X7_couldName, wsl_X7_couldName, by decide +kernel⟩
theorem cv_X7_cross : CalV yX7_cross cX7_cross 4 (some .int) 3 := ⟨wc_X7_cross, wn_X7, wi_X7_cross, wsl_X7_cross, by decide +kernel⟩
theorem cv_X7_crossNow : CalV yX7_crossNow cX7_crossNow 4 (some .int) 3 := ⟨wc_X7_crossNow, wn_X7, wi_X7_crossNow, wsl_X7_crossNow, by decide +kernel⟩
theorem cv_X7_dayNow : CalV yX7_dayNow cX7_dayNow 6 none 0 := ⟨wc_X7_dayNow, wn_X7, wi_X7_dayNow, wsl_X7_dayNow, by decide +kernel⟩
theorem cv_X7_draw : CalV yX7_draw cX7_draw 2 (some .int) 1 := ⟨wc_X7_draw, wn_X7, wi_X7_draw, wsl_X7_draw, by decide +kernel⟩
theorem cv_X7_drift : CalV yX7_drift cX7_drift 3 (some .int) 1 := ⟨wc_X7_drift, wn_X7, wi_X7_drift, wsl_X7_drift, by decide +kernel⟩
theorem cv_X7_evening : CalV yX7_evening cX7_evening 5 (some .int) 0 := ⟨wc_X7_evening, wn_X7, wi_X7_evening, wsl_X7_evening, by decide +kernel⟩
theorem cv_X7_fails : CalV yX7_fails cX7_fails 3 (some .int) 2 := ⟨wc_X7_fails, wn_X7, wi_X7_fails, wsl_X7_fails, by decide +kernel⟩
theorem cv_X7_fault : CalV yX7_fault cX7_fault 1 (some .int) 0 := ⟨wc_X7_fault, wn_X7, wi_X7_fault, wsl_X7_fault, by decide +kernel⟩
theorem cv_X7_feed : CalV yX7_feed cX7_feed 5 (some .int) 2 := ⟨wc_X7_feed, wn_X7, wi_X7_feed, wsl_X7_feed, by decide +kernel⟩
theorem cv_X7_findOrders : CalV yX7_findOrders cX7_findOrders 6 (some .int) 0 := ⟨wc_X7_findOrders, wn_X7, wi_X7_findOrders, wsl_X7_findOrders, by decide +kernel⟩
theorem cv_X7_findRow : CalV yX7_findRow cX7_findRow 8 (some .int) 1 := ⟨wc_X7_findRow, wn_X7, wi_X7_findRow, wsl_X7_findRow, by decide +kernel⟩
theorem cv_X7_found : CalV yX7_found cX7_found 8 (some .int) 1 := ⟨wc_X7_found, wn_X7, wi_X7_found, wsl_X7_found, by decide +kernel⟩
theorem cv_X7_goBack : CalV yX7_goBack cX7_goBack 4 (some .int) 1 := ⟨wc_X7_goBack, wn_X7, wi_X7_goBack, wsl_X7_goBack, by decide +kernel⟩
theorem cs_X7_has : CalS yX7_has cX7_has 2 (some .boolean) 2 := ⟨wc_X7_has, wn_X7, wst_X7_has, by decide +kernel⟩
theorem cv_X7_heavier : CalV yX7_heavier cX7_heavier 2 (some .int) 1 := ⟨wc_X7_heavier, wn_X7, wi_X7_heavier, wsl_X7_heavier, by decide +kernel⟩
theorem cv_X7_here : CalV yX7_here cX7_here 1 (some .int) 0 := ⟨wc_X7_here, wn_X7, wi_X7_here, wsl_X7_here, by decide +kernel⟩
theorem cv_X7_hills : CalV yX7_hills cX7_hills 3 (some .int) 0 := ⟨wc_X7_hills, wn_X7, wi_X7_hills, wsl_X7_hills, by decide +kernel⟩
theorem cv_X7_hired : CalV yX7_hired cX7_hired 8 (some .int) 2 := ⟨wc_X7_hired, wn_X7, wi_X7_hired, wsl_X7_hired, by decide +kernel⟩
theorem cs_X7_in : CalS yX7_in cX7_in 6 (some .boolean) 3 := ⟨wc_X7_in, wn_X7, wst_X7_in, by decide +kernel⟩
theorem cv_X7_into : CalV yX7_into cX7_into 6 (some .int) 4 := ⟨wc_X7_into, wn_X7, wi_X7_into, wsl_X7_into, by decide +kernel⟩
theorem cv_X7_isAsSeen : CalV yX7_isAsSeen cX7_isAsSeen 4 (some .boolean) 0 := ⟨wc_X7_isAsSeen, wn_X7, wi_X7_isAsSeen, wsl_X7_isAsSeen, by decide +kernel⟩
theorem cv_X7_isBehind : CalV yX7_isBehind cX7_isBehind 4 (some .boolean) 1 := ⟨wc_X7_isBehind, wn_X7, wi_X7_isBehind, wsl_X7_isBehind, by decide +kernel⟩
theorem cv_X7_isBridge : CalV yX7_isBridge cX7_isBridge 2 (some .boolean) 1 := ⟨wc_X7_isBridge, wn_X7, wi_X7_isBridge, wsl_X7_isBridge, by decide +kernel⟩
theorem cv_X7_isLetGo : CalV yX7_isLetGo cX7_isLetGo 4 (some .boolean) 3 := ⟨wc_X7_isLetGo, wn_X7, wi_X7_isLetGo, wsl_X7_isLetGo, by decide +kernel⟩
theorem cv_X7_isMan : CalV yX7_isMan cX7_isMan 2 (some .boolean) 1 := ⟨wc_X7_isMan, wn_X7, wi_X7_isMan, wsl_X7_isMan, by decide +kernel⟩
theorem cv_X7_isManOrNone : CalV yX7_isManOrNone cX7_isManOrNone 2 (some .boolean) 1 := ⟨wc_X7_isManOrNone, wn_X7, wi_X7_isManOrNone, wsl_X7_isManOrNone, by decide +kernel⟩
theorem cv_X7_isRemembered : CalV yX7_isRemembered cX7_isRemembered 4 (some .boolean) 2 := ⟨wc_X7_isRemembered, wn_X7, wi_X7_isRemembered, wsl_X7_isRemembered, by decide +kernel⟩
theorem cv_X7_isSupported : CalV yX7_isSupported cX7_isSupported 4 (some .boolean) 3 := ⟨wc_X7_isSupported, wn_X7, wi_X7_isSupported, wsl_X7_isSupported, by decide +kernel⟩
theorem cv_X7_isWhole : CalV yX7_isWhole cX7_isWhole 5 (some .boolean) 2 := ⟨wc_X7_isWhole, wn_X7, wi_X7_isWhole, wsl_X7_isWhole, by decide +kernel⟩
theorem cv_X7_keep : CalV yX7_keep cX7_keep 4 (some .int) 1 := ⟨wc_X7_keep, wn_X7, wi_X7_keep, wsl_X7_keep, by decide +kernel⟩
theorem cv_X7_know : CalV yX7_know cX7_know 5 (some .int) 3 := ⟨wc_X7_know, wn_X7, wi_X7_know, wsl_X7_know, by decide +kernel⟩
theorem cv_X7_man : CalV yX7_man cX7_man 3 (some .int) 2 := ⟨wc_X7_man, wn_X7, wi_X7_man, wsl_X7_man, by decide +kernel⟩
theorem cv_X7_mayAlone : CalV yX7_mayAlone cX7_mayAlone 5 (some .boolean) 2 := ⟨wc_X7_mayAlone, wn_X7, wi_X7_mayAlone, wsl_X7_mayAlone, by decide +kernel⟩
theorem cv_X7_mayName : CalV yX7_mayName cX7_mayName 4 (some .boolean) 3 := ⟨wc_X7_mayName, wn_X7, wi_X7_mayName, wsl_X7_mayName, by decide +kernel⟩
theorem cs_X7_more : CalS yX7_more cX7_more 3 (some .long) 2 := ⟨wc_X7_more, wn_X7, wst_X7_more, by decide +kernel⟩
theorem cv_X7_most : CalV yX7_most cX7_most 4 (some .int) 2 := ⟨wc_X7_most, wn_X7, wi_X7_most, wsl_X7_most, by decide +kernel⟩
theorem cv_X7_mostOf : CalV yX7_mostOf cX7_mostOf 5 (some .int) 1 := ⟨wc_X7_mostOf, wn_X7, wi_X7_mostOf, wsl_X7_mostOf, by decide +kernel⟩
theorem cv_X7_named : CalV yX7_named cX7_named 3 (some .int) 2 := ⟨wc_X7_named, wn_X7, wi_X7_named, wsl_X7_named, by decide +kernel⟩
theorem cv_X7_names : CalV yX7_names cX7_names 4 (some .int) 2 := ⟨wc_X7_names, wn_X7, wi_X7_names, wsl_X7_names, by decide +kernel⟩
theorem cv_X7_odds : CalV yX7_odds cX7_odds 5 (some .int) 0 := ⟨wc_X7_odds, wn_X7, wi_X7_odds, wsl_X7_odds, by decide +kernel⟩
theorem cv_X7_orders : CalV yX7_orders cX7_orders 1 (some .int) 0 := ⟨wc_X7_orders, wn_X7, wi_X7_orders, wsl_X7_orders, by decide +kernel⟩
theorem cv_X7_ox : CalV yX7_ox cX7_ox 3 (some .int) 2 := ⟨wc_X7_ox, wn_X7, wi_X7_ox, wsl_X7_ox, by decide +kernel⟩
theorem cv_X7_readWord : CalV yX7_readWord cX7_readWord 2 none 0 := ⟨wc_X7_readWord, wn_X7, wi_X7_readWord, wsl_X7_readWord, by decide +kernel⟩
theorem cv_X7_rememberedAt : CalV yX7_rememberedAt cX7_rememberedAt 4 (some .int) 1 := ⟨wc_X7_rememberedAt, wn_X7, wi_X7_rememberedAt, wsl_X7_rememberedAt, by decide +kernel⟩
theorem cv_X7_row : CalV yX7_row cX7_row 3 (some .int) 2 := ⟨wc_X7_row, wn_X7, wi_X7_row, wsl_X7_row, by decide +kernel⟩
theorem cv_X7_see : CalV yX7_see cX7_see 4 (some .int) 3 := ⟨wc_X7_see, wn_X7, wi_X7_see, wsl_X7_see, by decide +kernel⟩
theorem cv_X7_seed : CalV yX7_seed cX7_seed 3 (some .int) 1 := ⟨wc_X7_seed, wn_X7, wi_X7_seed, wsl_X7_seed, by decide +kernel⟩
theorem cv_X7_setPlaces : CalV yX7_setPlaces cX7_setPlaces 5 (some .boolean) 1 := ⟨wc_X7_setPlaces, wn_X7, wi_X7_setPlaces, wsl_X7_setPlaces, by decide +kernel⟩
theorem cv_X7_supports : CalV yX7_supports cX7_supports 6 (some .int) 3 := ⟨wc_X7_supports, wn_X7, wi_X7_supports, wsl_X7_supports, by decide +kernel⟩
theorem cv_X7_takeBridge : CalV yX7_takeBridge cX7_takeBridge 1 (some .int) 0 := ⟨wc_X7_takeBridge, wn_X7, wi_X7_takeBridge, wsl_X7_takeBridge, by decide +kernel⟩
theorem cv_X7_takeClause : CalV yX7_takeClause cX7_takeClause 5 (some .int) 0 := ⟨wc_X7_takeClause, wn_X7, wi_X7_takeClause, wsl_X7_takeClause, by decide +kernel⟩
theorem cv_X7_takeKnows : CalV yX7_takeKnows cX7_takeKnows 4 (some .int) 0 := ⟨wc_X7_takeKnows, wn_X7, wi_X7_takeKnows, wsl_X7_takeKnows, by decide +kernel⟩
theorem cv_X7_takeMan : CalV yX7_takeMan cX7_takeMan 3 (some .int) 0 := ⟨wc_X7_takeMan, wn_X7, wi_X7_takeMan, wsl_X7_takeMan, by decide +kernel⟩
theorem cv_X7_takeNumber : CalV yX7_takeNumber cX7_takeNumber 4 (some .int) 2 := ⟨wc_X7_takeNumber, wn_X7, wi_X7_takeNumber, wsl_X7_takeNumber, by decide +kernel⟩
theorem cv_X7_takeOx : CalV yX7_takeOx cX7_takeOx 3 (some .int) 0 := ⟨wc_X7_takeOx, wn_X7, wi_X7_takeOx, wsl_X7_takeOx, by decide +kernel⟩
theorem cv_X7_takeYear : CalV yX7_takeYear cX7_takeYear 2 (some .int) 0 := ⟨wc_X7_takeYear, wn_X7, wi_X7_takeYear, wsl_X7_takeYear, by decide +kernel⟩
theorem cv_X7_tear : CalV yX7_tear cX7_tear 2 (some .int) 0 := ⟨wc_X7_tear, wn_X7, wi_X7_tear, wsl_X7_tear, by decide +kernel⟩
theorem cv_X7_tellings : CalV yX7_tellings cX7_tellings 5 (some .int) 1 := ⟨wc_X7_tellings, wn_X7, wi_X7_tellings, wsl_X7_tellings, by decide +kernel⟩
theorem cv_X7_told : CalV yX7_told cX7_told 2 (some .int) 1 := ⟨wc_X7_told, wn_X7, wi_X7_told, wsl_X7_told, by decide +kernel⟩
theorem cv_X7_whom : CalV yX7_whom cX7_whom 6 (some .int) 2 := ⟨wc_X7_whom, wn_X7, wi_X7_whom, wsl_X7_whom, by decide +kernel⟩
theorem cv_X7_wrong : CalV yX7_wrong cX7_wrong 6 (some .int) 1 := ⟨wc_X7_wrong, wn_X7, wi_X7_wrong, wsl_X7_wrong, by decide +kernel⟩
