theorem wn_L : Cond.initialized RL ∈ TB := tb1 (List.mem_of_getElem? (i := 0) rfl) rfl
theorem wn_X7 : Cond.initialized RX7 ∈ TB := tb1 (List.mem_of_getElem? (i := 1) rfl) rfl
theorem wn_X1 : Cond.initialized RX1 ∈ TB := tb1 (List.mem_of_getElem? (i := 2) rfl) rfl
theorem wn_X5 : Cond.initialized RX5 ∈ TB := tb1 (List.mem_of_getElem? (i := 3) rfl) rfl
theorem wn_X2 : Cond.initialized RX2 ∈ TB := tb1 (List.mem_of_getElem? (i := 4) rfl) rfl
theorem wn_X3 : Cond.initialized RX3 ∈ TB := tb1 (List.mem_of_getElem? (i := 5) rfl) rfl
theorem wn_X4 : Cond.initialized RX4 ∈ TB := tb1 (List.mem_of_getElem? (i := 6) rfl) rfl
theorem wn_X6 : Cond.initialized RX6 ∈ TB := tb1 (List.mem_of_getElem? (i := 7) rfl) rfl
theorem wn_X8 : Cond.initialized RX8 ∈ TB := tb1 (List.mem_of_getElem? (i := 8) rfl) rfl
theorem wn_Throwable : Cond.initialized "java/lang/Throwable" ∈ TB := tb1 (List.mem_of_getElem? (i := 9) rfl) rfl
theorem wn_Exception : Cond.initialized "java/lang/Exception" ∈ TB := tb1 (List.mem_of_getElem? (i := 10) rfl) rfl
theorem wn_RuntimeException : Cond.initialized "java/lang/RuntimeException" ∈ TB := tb1 (List.mem_of_getElem? (i := 11) rfl) rfl
theorem wn_IllegalArgumentException : Cond.initialized "java/lang/IllegalArgumentException" ∈ TB := tb1 (List.mem_of_getElem? (i := 12) rfl) rfl
theorem wn_X0 : Cond.initialized RX0 ∈ TB := tb1 (List.mem_of_getElem? (i := 13) rfl) rfl
theorem wn_UnsupportedOperationException : Cond.initialized "java/lang/UnsupportedOperationException" ∈ TB := tb1 (List.mem_of_getElem? (i := 14) rfl) rfl
theorem wn_IndexOutOfBoundsException : Cond.initialized "java/lang/IndexOutOfBoundsException" ∈ TB := tb1 (List.mem_of_getElem? (i := 15) rfl) rfl
theorem wn_Math : Cond.initialized "java/lang/Math" ∈ TB := tb1 (List.mem_of_getElem? (i := 16) rfl) rfl
theorem wn_System : Cond.initialized "java/lang/System" ∈ TB := tb1 (List.mem_of_getElem? (i := 17) rfl) rfl
theorem wa_L_8 : Cond.classLink RL 8 RX7 ∈ TB := tb1 (List.mem_of_getElem? (i := 18) rfl) rfl
theorem wb_X7 : Cond.instantiable RX7 7 ∈ TB := tb1 (List.mem_of_getElem? (i := 19) rfl) rfl
theorem wl_L_68 : Cond.methodLink RL 68 yX7_init ∈ TB := tb1 (List.mem_of_getElem? (i := 20) rfl) rfl
theorem wi_X7_init : Cond.instanceMethod yX7_init ∈ TB := tb1 (List.mem_of_getElem? (i := 21) rfl) rfl
theorem wc_X7_init : Cond.code yX7_init cX7_init 1 none ∈ TB := tb1 (List.mem_of_getElem? (i := 22) rfl) rfl
theorem wl_X7_1 : Cond.methodLink RX7 1 objectInit ∈ TB := tb1 (List.mem_of_getElem? (i := 23) rfl) rfl
theorem wc_objectInit : Cond.code objectInit ⟨#[0xb1]⟩ 1 none ∈ TB := tb1 (List.mem_of_getElem? (i := 25) rfl) rfl
theorem wa_X7_7 : Cond.classLink RX7 7 RX1 ∈ TB := tb1 (List.mem_of_getElem? (i := 26) rfl) rfl
theorem wb_X1 : Cond.instantiable RX1 5 ∈ TB := tb1 (List.mem_of_getElem? (i := 27) rfl) rfl
theorem wl_X7_9 : Cond.methodLink RX7 9 yX1_init ∈ TB := tb1 (List.mem_of_getElem? (i := 28) rfl) rfl
theorem wi_X1_init : Cond.instanceMethod yX1_init ∈ TB := tb1 (List.mem_of_getElem? (i := 29) rfl) rfl
theorem wc_X1_init : Cond.code yX1_init cX1_init 1 none ∈ TB := tb1 (List.mem_of_getElem? (i := 30) rfl) rfl
theorem wl_X1_3 : Cond.methodLink RX1 3 objectInit ∈ TB := tb1 (List.mem_of_getElem? (i := 31) rfl) rfl
theorem wf_X1_27 : Cond.fieldLink RX1 27 "TypeKernel$Levels" "count" "I" ∈ TB := tb1 (List.mem_of_getElem? (i := 32) rfl) rfl
theorem wf_X7_202 : Cond.fieldLink RX7 202 "TypeKernel$Levels" "count" "I" ∈ TB := tb1 (List.mem_of_getElem? (i := 33) rfl) rfl
theorem wf_X1_9 : Cond.fieldLink RX1 9 "TypeKernel$Levels" "code" "[J" ∈ TB := tb1 (List.mem_of_getElem? (i := 34) rfl) rfl
theorem wf_X1_15 : Cond.fieldLink RX1 15 "TypeKernel$Levels" "one" "[I" ∈ TB := tb1 (List.mem_of_getElem? (i := 35) rfl) rfl
theorem wf_X7_184 : Cond.fieldLink RX7 184 "TypeKernel$Levels" "one" "[I" ∈ TB := tb1 (List.mem_of_getElem? (i := 36) rfl) rfl
theorem wf_X1_19 : Cond.fieldLink RX1 19 "TypeKernel$Levels" "two" "[I" ∈ TB := tb1 (List.mem_of_getElem? (i := 37) rfl) rfl
theorem wf_X7_185 : Cond.fieldLink RX7 185 "TypeKernel$Levels" "two" "[I" ∈ TB := tb1 (List.mem_of_getElem? (i := 38) rfl) rfl
theorem wf_X1_22 : Cond.fieldLink RX1 22 "TypeKernel$Levels" "stack" "[I" ∈ TB := tb1 (List.mem_of_getElem? (i := 39) rfl) rfl
theorem wy_X1_count : Cond.lays RX1 "TypeKernel$Levels" "count" "I" ∈ TB := tb1 (List.mem_of_getElem? (i := 40) rfl) rfl
theorem wy_X1_code : Cond.laysFinal RX1 "TypeKernel$Levels" "code" "[J" ∈ TB := tb1 (List.mem_of_getElem? (i := 42) rfl) rfl
theorem wy_X1_one : Cond.laysFinal RX1 "TypeKernel$Levels" "one" "[I" ∈ TB := tb1 (List.mem_of_getElem? (i := 44) rfl) rfl
theorem wy_X1_two : Cond.laysFinal RX1 "TypeKernel$Levels" "two" "[I" ∈ TB := tb1 (List.mem_of_getElem? (i := 46) rfl) rfl
theorem wy_X1_stack : Cond.laysFinal RX1 "TypeKernel$Levels" "stack" "[I" ∈ TB := tb1 (List.mem_of_getElem? (i := 48) rfl) rfl
theorem wa_X7_16 : Cond.classLink RX7 16 RX5 ∈ TB := tb1 (List.mem_of_getElem? (i := 53) rfl) rfl
theorem wb_X5 : Cond.instantiable RX5 12 ∈ TB := tb1 (List.mem_of_getElem? (i := 54) rfl) rfl
theorem wl_X7_18 : Cond.methodLink RX7 18 yX5_init ∈ TB := tb1 (List.mem_of_getElem? (i := 55) rfl) rfl
theorem wi_X5_init : Cond.instanceMethod yX5_init ∈ TB := tb1 (List.mem_of_getElem? (i := 56) rfl) rfl
theorem wc_X5_init : Cond.code yX5_init cX5_init 2 none ∈ TB := tb1 (List.mem_of_getElem? (i := 57) rfl) rfl
theorem wl_X5_3 : Cond.methodLink RX5 3 objectInit ∈ TB := tb1 (List.mem_of_getElem? (i := 58) rfl) rfl
theorem wf_X5_40 : Cond.fieldLink RX5 40 "TypeKernel$Terms" "count" "I" ∈ TB := tb1 (List.mem_of_getElem? (i := 59) rfl) rfl
theorem wf_X7_203 : Cond.fieldLink RX7 203 "TypeKernel$Terms" "count" "I" ∈ TB := tb1 (List.mem_of_getElem? (i := 60) rfl) rfl
theorem wf_X5_15 : Cond.fieldLink RX5 15 "TypeKernel$Terms" "kind" "[I" ∈ TB := tb1 (List.mem_of_getElem? (i := 61) rfl) rfl
theorem wf_X6_55 : Cond.fieldLink RX6 55 "TypeKernel$Terms" "kind" "[I" ∈ TB := tb1 (List.mem_of_getElem? (i := 62) rfl) rfl
theorem wf_X7_161 : Cond.fieldLink RX7 161 "TypeKernel$Terms" "kind" "[I" ∈ TB := tb1 (List.mem_of_getElem? (i := 63) rfl) rfl
theorem wf_X5_19 : Cond.fieldLink RX5 19 "TypeKernel$Terms" "one" "[I" ∈ TB := tb1 (List.mem_of_getElem? (i := 64) rfl) rfl
theorem wf_X6_58 : Cond.fieldLink RX6 58 "TypeKernel$Terms" "one" "[I" ∈ TB := tb1 (List.mem_of_getElem? (i := 65) rfl) rfl
theorem wf_X7_165 : Cond.fieldLink RX7 165 "TypeKernel$Terms" "one" "[I" ∈ TB := tb1 (List.mem_of_getElem? (i := 66) rfl) rfl
theorem wf_X5_22 : Cond.fieldLink RX5 22 "TypeKernel$Terms" "two" "[I" ∈ TB := tb1 (List.mem_of_getElem? (i := 67) rfl) rfl
theorem wf_X6_117 : Cond.fieldLink RX6 117 "TypeKernel$Terms" "two" "[I" ∈ TB := tb1 (List.mem_of_getElem? (i := 68) rfl) rfl
theorem wf_X7_168 : Cond.fieldLink RX7 168 "TypeKernel$Terms" "two" "[I" ∈ TB := tb1 (List.mem_of_getElem? (i := 69) rfl) rfl
theorem wf_X5_25 : Cond.fieldLink RX5 25 "TypeKernel$Terms" "three" "[I" ∈ TB := tb1 (List.mem_of_getElem? (i := 70) rfl) rfl
theorem wf_X6_120 : Cond.fieldLink RX6 120 "TypeKernel$Terms" "three" "[I" ∈ TB := tb1 (List.mem_of_getElem? (i := 71) rfl) rfl
theorem wf_X7_171 : Cond.fieldLink RX7 171 "TypeKernel$Terms" "three" "[I" ∈ TB := tb1 (List.mem_of_getElem? (i := 72) rfl) rfl
theorem wf_X5_28 : Cond.fieldLink RX5 28 "TypeKernel$Terms" "size" "[I" ∈ TB := tb1 (List.mem_of_getElem? (i := 73) rfl) rfl
theorem wf_X7_174 : Cond.fieldLink RX7 174 "TypeKernel$Terms" "size" "[I" ∈ TB := tb1 (List.mem_of_getElem? (i := 74) rfl) rfl
theorem wf_X5_31 : Cond.fieldLink RX5 31 "TypeKernel$Terms" "open" "[I" ∈ TB := tb1 (List.mem_of_getElem? (i := 75) rfl) rfl
theorem wf_X7_176 : Cond.fieldLink RX7 176 "TypeKernel$Terms" "open" "[I" ∈ TB := tb1 (List.mem_of_getElem? (i := 76) rfl) rfl
theorem wf_X5_9 : Cond.fieldLink RX5 9 "TypeKernel$Terms" "levels" "LTypeKernel$Levels;" ∈ TB := tb1 (List.mem_of_getElem? (i := 77) rfl) rfl
theorem wf_X5_34 : Cond.fieldLink RX5 34 "TypeKernel$Terms" "waiting" "[I" ∈ TB := tb1 (List.mem_of_getElem? (i := 78) rfl) rfl
theorem wf_X5_37 : Cond.fieldLink RX5 37 "TypeKernel$Terms" "waitingDepth" "[I" ∈ TB := tb1 (List.mem_of_getElem? (i := 79) rfl) rfl
theorem wf_X5_107 : Cond.fieldLink RX5 107 "TypeKernel$Terms" "waits" "I" ∈ TB := tb1 (List.mem_of_getElem? (i := 80) rfl) rfl
theorem wf_X5_76 : Cond.fieldLink RX5 76 "TypeKernel$Terms" "reading" "I" ∈ TB := tb1 (List.mem_of_getElem? (i := 81) rfl) rfl
theorem wf_X7_233 : Cond.fieldLink RX7 233 "TypeKernel$Terms" "reading" "I" ∈ TB := tb1 (List.mem_of_getElem? (i := 82) rfl) rfl
theorem wy_X5_count : Cond.lays RX5 "TypeKernel$Terms" "count" "I" ∈ TB := tb1 (List.mem_of_getElem? (i := 83) rfl) rfl
theorem wy_X5_kind : Cond.laysFinal RX5 "TypeKernel$Terms" "kind" "[I" ∈ TB := tb1 (List.mem_of_getElem? (i := 85) rfl) rfl
theorem wy_X5_one : Cond.laysFinal RX5 "TypeKernel$Terms" "one" "[I" ∈ TB := tb1 (List.mem_of_getElem? (i := 87) rfl) rfl
theorem wy_X5_two : Cond.laysFinal RX5 "TypeKernel$Terms" "two" "[I" ∈ TB := tb1 (List.mem_of_getElem? (i := 89) rfl) rfl
theorem wy_X5_three : Cond.laysFinal RX5 "TypeKernel$Terms" "three" "[I" ∈ TB := tb1 (List.mem_of_getElem? (i := 91) rfl) rfl
theorem wy_X5_size : Cond.laysFinal RX5 "TypeKernel$Terms" "size" "[I" ∈ TB := tb1 (List.mem_of_getElem? (i := 93) rfl) rfl
theorem wy_X5_open : Cond.laysFinal RX5 "TypeKernel$Terms" "open" "[I" ∈ TB := tb1 (List.mem_of_getElem? (i := 95) rfl) rfl
theorem wy_X5_levels : Cond.laysFinal RX5 "TypeKernel$Terms" "levels" "LTypeKernel$Levels;" ∈ TB := tb1 (List.mem_of_getElem? (i := 97) rfl) rfl
theorem wy_X5_waiting : Cond.laysFinal RX5 "TypeKernel$Terms" "waiting" "[I" ∈ TB := tb1 (List.mem_of_getElem? (i := 99) rfl) rfl
theorem wy_X5_waitingDepth : Cond.laysFinal RX5 "TypeKernel$Terms" "waitingDepth" "[I" ∈ TB := tb1 (List.mem_of_getElem? (i := 101) rfl) rfl
theorem wy_X5_waits : Cond.lays RX5 "TypeKernel$Terms" "waits" "I" ∈ TB := tb1 (List.mem_of_getElem? (i := 103) rfl) rfl
theorem wy_X5_reading : Cond.lays RX5 "TypeKernel$Terms" "reading" "I" ∈ TB := tb1 (List.mem_of_getElem? (i := 105) rfl) rfl
theorem wa_X7_25 : Cond.classLink RX7 25 RX2 ∈ TB := tb1 (List.mem_of_getElem? (i := 108) rfl) rfl
theorem wb_X2 : Cond.instantiable RX2 4 ∈ TB := tb1 (List.mem_of_getElem? (i := 109) rfl) rfl
theorem wl_X7_27 : Cond.methodLink RX7 27 yX2_init ∈ TB := tb1 (List.mem_of_getElem? (i := 110) rfl) rfl
theorem wi_X2_init : Cond.instanceMethod yX2_init ∈ TB := tb1 (List.mem_of_getElem? (i := 111) rfl) rfl
theorem wc_X2_init : Cond.code yX2_init cX2_init 1 none ∈ TB := tb1 (List.mem_of_getElem? (i := 112) rfl) rfl
theorem wl_X2_3 : Cond.methodLink RX2 3 objectInit ∈ TB := tb1 (List.mem_of_getElem? (i := 113) rfl) rfl
theorem wf_X2_21 : Cond.fieldLink RX2 21 "TypeKernel$Names" "count" "I" ∈ TB := tb1 (List.mem_of_getElem? (i := 114) rfl) rfl
theorem wf_X7_147 : Cond.fieldLink RX7 147 "TypeKernel$Names" "count" "I" ∈ TB := tb1 (List.mem_of_getElem? (i := 115) rfl) rfl
theorem wf_X2_9 : Cond.fieldLink RX2 9 "TypeKernel$Names" "parameters" "[I" ∈ TB := tb1 (List.mem_of_getElem? (i := 116) rfl) rfl
theorem wf_X7_191 : Cond.fieldLink RX7 191 "TypeKernel$Names" "parameters" "[I" ∈ TB := tb1 (List.mem_of_getElem? (i := 117) rfl) rfl
theorem wf_X2_15 : Cond.fieldLink RX2 15 "TypeKernel$Names" "typeTerm" "[I" ∈ TB := tb1 (List.mem_of_getElem? (i := 118) rfl) rfl
theorem wf_X7_194 : Cond.fieldLink RX7 194 "TypeKernel$Names" "typeTerm" "[I" ∈ TB := tb1 (List.mem_of_getElem? (i := 119) rfl) rfl
theorem wf_X2_18 : Cond.fieldLink RX2 18 "TypeKernel$Names" "valueTerm" "[I" ∈ TB := tb1 (List.mem_of_getElem? (i := 120) rfl) rfl
theorem wf_X7_197 : Cond.fieldLink RX7 197 "TypeKernel$Names" "valueTerm" "[I" ∈ TB := tb1 (List.mem_of_getElem? (i := 121) rfl) rfl
theorem wy_X2_count : Cond.lays RX2 "TypeKernel$Names" "count" "I" ∈ TB := tb1 (List.mem_of_getElem? (i := 122) rfl) rfl
theorem wy_X2_parameters : Cond.laysFinal RX2 "TypeKernel$Names" "parameters" "[I" ∈ TB := tb1 (List.mem_of_getElem? (i := 124) rfl) rfl
theorem wy_X2_typeTerm : Cond.laysFinal RX2 "TypeKernel$Names" "typeTerm" "[I" ∈ TB := tb1 (List.mem_of_getElem? (i := 126) rfl) rfl
theorem wy_X2_valueTerm : Cond.laysFinal RX2 "TypeKernel$Names" "valueTerm" "[I" ∈ TB := tb1 (List.mem_of_getElem? (i := 128) rfl) rfl
theorem wa_X7_32 : Cond.classLink RX7 32 RX3 ∈ TB := tb1 (List.mem_of_getElem? (i := 131) rfl) rfl
theorem wb_X3 : Cond.instantiable RX3 5 ∈ TB := tb1 (List.mem_of_getElem? (i := 132) rfl) rfl
theorem wl_X7_34 : Cond.methodLink RX7 34 yX3_init ∈ TB := tb1 (List.mem_of_getElem? (i := 133) rfl) rfl
theorem wi_X3_init : Cond.instanceMethod yX3_init ∈ TB := tb1 (List.mem_of_getElem? (i := 134) rfl) rfl
theorem wc_X3_init : Cond.code yX3_init cX3_init 3 none ∈ TB := tb1 (List.mem_of_getElem? (i := 135) rfl) rfl
theorem wl_X3_3 : Cond.methodLink RX3 3 objectInit ∈ TB := tb1 (List.mem_of_getElem? (i := 136) rfl) rfl
theorem wa_X3_19 : Cond.classLink RX3 19 RX4 ∈ TB := tb1 (List.mem_of_getElem? (i := 137) rfl) rfl
theorem wb_X4 : Cond.instantiable RX4 6 ∈ TB := tb1 (List.mem_of_getElem? (i := 138) rfl) rfl
theorem wl_X3_21 : Cond.methodLink RX3 21 yX4_init ∈ TB := tb1 (List.mem_of_getElem? (i := 139) rfl) rfl
theorem wi_X4_init : Cond.instanceMethod yX4_init ∈ TB := tb1 (List.mem_of_getElem? (i := 140) rfl) rfl
theorem wc_X4_init : Cond.code yX4_init cX4_init 1 none ∈ TB := tb1 (List.mem_of_getElem? (i := 141) rfl) rfl
theorem wl_X4_3 : Cond.methodLink RX4 3 objectInit ∈ TB := tb1 (List.mem_of_getElem? (i := 142) rfl) rfl
theorem wf_X3_36 : Cond.fieldLink RX3 36 "TypeKernel$Row" "size" "I" ∈ TB := tb1 (List.mem_of_getElem? (i := 143) rfl) rfl
theorem wf_X4_28 : Cond.fieldLink RX4 28 "TypeKernel$Row" "size" "I" ∈ TB := tb1 (List.mem_of_getElem? (i := 144) rfl) rfl
theorem wf_X6_147 : Cond.fieldLink RX6 147 "TypeKernel$Row" "size" "I" ∈ TB := tb1 (List.mem_of_getElem? (i := 145) rfl) rfl
theorem wf_X5_79 : Cond.fieldLink RX5 79 "TypeKernel$Row" "size" "I" ∈ TB := tb1 (List.mem_of_getElem? (i := 146) rfl) rfl
theorem wf_X7_137 : Cond.fieldLink RX7 137 "TypeKernel$Row" "size" "I" ∈ TB := tb1 (List.mem_of_getElem? (i := 147) rfl) rfl
theorem wf_X4_9 : Cond.fieldLink RX4 9 "TypeKernel$Row" "kind" "[I" ∈ TB := tb1 (List.mem_of_getElem? (i := 148) rfl) rfl
theorem wf_X3_48 : Cond.fieldLink RX3 48 "TypeKernel$Row" "kind" "[I" ∈ TB := tb1 (List.mem_of_getElem? (i := 149) rfl) rfl
theorem wf_X5_81 : Cond.fieldLink RX5 81 "TypeKernel$Row" "kind" "[I" ∈ TB := tb1 (List.mem_of_getElem? (i := 150) rfl) rfl
theorem wf_X4_15 : Cond.fieldLink RX4 15 "TypeKernel$Row" "index" "[I" ∈ TB := tb1 (List.mem_of_getElem? (i := 151) rfl) rfl
theorem wf_X3_56 : Cond.fieldLink RX3 56 "TypeKernel$Row" "index" "[I" ∈ TB := tb1 (List.mem_of_getElem? (i := 152) rfl) rfl
theorem wf_X5_92 : Cond.fieldLink RX5 92 "TypeKernel$Row" "index" "[I" ∈ TB := tb1 (List.mem_of_getElem? (i := 153) rfl) rfl
theorem wf_X4_18 : Cond.fieldLink RX4 18 "TypeKernel$Row" "depth" "[I" ∈ TB := tb1 (List.mem_of_getElem? (i := 154) rfl) rfl
theorem wf_X4_21 : Cond.fieldLink RX4 21 "TypeKernel$Row" "first" "[J" ∈ TB := tb1 (List.mem_of_getElem? (i := 155) rfl) rfl
theorem wf_X3_70 : Cond.fieldLink RX3 70 "TypeKernel$Row" "first" "[J" ∈ TB := tb1 (List.mem_of_getElem? (i := 156) rfl) rfl
theorem wf_X6_139 : Cond.fieldLink RX6 139 "TypeKernel$Row" "first" "[J" ∈ TB := tb1 (List.mem_of_getElem? (i := 157) rfl) rfl
theorem wf_X5_95 : Cond.fieldLink RX5 95 "TypeKernel$Row" "first" "[J" ∈ TB := tb1 (List.mem_of_getElem? (i := 158) rfl) rfl
theorem wf_X4_25 : Cond.fieldLink RX4 25 "TypeKernel$Row" "second" "[J" ∈ TB := tb1 (List.mem_of_getElem? (i := 159) rfl) rfl
theorem wf_X3_74 : Cond.fieldLink RX3 74 "TypeKernel$Row" "second" "[J" ∈ TB := tb1 (List.mem_of_getElem? (i := 160) rfl) rfl
theorem wf_X5_104 : Cond.fieldLink RX5 104 "TypeKernel$Row" "second" "[J" ∈ TB := tb1 (List.mem_of_getElem? (i := 161) rfl) rfl
theorem wy_X4_size : Cond.lays RX4 "TypeKernel$Row" "size" "I" ∈ TB := tb1 (List.mem_of_getElem? (i := 162) rfl) rfl
theorem wy_X4_kind : Cond.laysFinal RX4 "TypeKernel$Row" "kind" "[I" ∈ TB := tb1 (List.mem_of_getElem? (i := 164) rfl) rfl
theorem wy_X4_index : Cond.laysFinal RX4 "TypeKernel$Row" "index" "[I" ∈ TB := tb1 (List.mem_of_getElem? (i := 166) rfl) rfl
theorem wy_X4_depth : Cond.laysFinal RX4 "TypeKernel$Row" "depth" "[I" ∈ TB := tb1 (List.mem_of_getElem? (i := 168) rfl) rfl
theorem wy_X4_first : Cond.laysFinal RX4 "TypeKernel$Row" "first" "[J" ∈ TB := tb1 (List.mem_of_getElem? (i := 170) rfl) rfl
theorem wy_X4_second : Cond.laysFinal RX4 "TypeKernel$Row" "second" "[J" ∈ TB := tb1 (List.mem_of_getElem? (i := 172) rfl) rfl
theorem wf_X3_9 : Cond.fieldLink RX3 9 "TypeKernel$Reducer" "terms" "LTypeKernel$Terms;" ∈ TB := tb1 (List.mem_of_getElem? (i := 175) rfl) rfl
theorem wf_X3_15 : Cond.fieldLink RX3 15 "TypeKernel$Reducer" "names" "LTypeKernel$Names;" ∈ TB := tb1 (List.mem_of_getElem? (i := 176) rfl) rfl
theorem wf_X3_22 : Cond.fieldLink RX3 22 "TypeKernel$Reducer" "body" "LTypeKernel$Row;" ∈ TB := tb1 (List.mem_of_getElem? (i := 177) rfl) rfl
theorem wf_X3_26 : Cond.fieldLink RX3 26 "TypeKernel$Reducer" "argument" "LTypeKernel$Row;" ∈ TB := tb1 (List.mem_of_getElem? (i := 178) rfl) rfl
theorem wf_X3_29 : Cond.fieldLink RX3 29 "TypeKernel$Reducer" "made" "LTypeKernel$Row;" ∈ TB := tb1 (List.mem_of_getElem? (i := 179) rfl) rfl
theorem wy_X3_terms : Cond.laysFinal RX3 "TypeKernel$Reducer" "terms" "LTypeKernel$Terms;" ∈ TB := tb1 (List.mem_of_getElem? (i := 180) rfl) rfl
theorem wy_X3_names : Cond.laysFinal RX3 "TypeKernel$Reducer" "names" "LTypeKernel$Names;" ∈ TB := tb1 (List.mem_of_getElem? (i := 182) rfl) rfl
theorem wy_X3_body : Cond.laysFinal RX3 "TypeKernel$Reducer" "body" "LTypeKernel$Row;" ∈ TB := tb1 (List.mem_of_getElem? (i := 184) rfl) rfl
theorem wy_X3_argument : Cond.laysFinal RX3 "TypeKernel$Reducer" "argument" "LTypeKernel$Row;" ∈ TB := tb1 (List.mem_of_getElem? (i := 186) rfl) rfl
theorem wy_X3_made : Cond.laysFinal RX3 "TypeKernel$Reducer" "made" "LTypeKernel$Row;" ∈ TB := tb1 (List.mem_of_getElem? (i := 188) rfl) rfl
theorem wa_X7_41 : Cond.classLink RX7 41 RX6 ∈ TB := tb1 (List.mem_of_getElem? (i := 191) rfl) rfl
theorem wb_X6 : Cond.instantiable RX6 8 ∈ TB := tb1 (List.mem_of_getElem? (i := 192) rfl) rfl
theorem wl_X7_43 : Cond.methodLink RX7 43 yX6_init ∈ TB := tb1 (List.mem_of_getElem? (i := 193) rfl) rfl
theorem wi_X6_init : Cond.instanceMethod yX6_init ∈ TB := tb1 (List.mem_of_getElem? (i := 194) rfl) rfl
theorem wc_X6_init : Cond.code yX6_init cX6_init 6 none ∈ TB := tb1 (List.mem_of_getElem? (i := 195) rfl) rfl
theorem wl_X6_3 : Cond.methodLink RX6 3 objectInit ∈ TB := tb1 (List.mem_of_getElem? (i := 196) rfl) rfl
theorem wa_X6_27 : Cond.classLink RX6 27 RX4 ∈ TB := tb1 (List.mem_of_getElem? (i := 197) rfl) rfl
theorem wl_X6_33 : Cond.methodLink RX6 33 yX4_init ∈ TB := tb1 (List.mem_of_getElem? (i := 199) rfl) rfl
theorem wf_X6_9 : Cond.fieldLink RX6 9 "TypeKernel$Typer" "levels" "LTypeKernel$Levels;" ∈ TB := tb1 (List.mem_of_getElem? (i := 200) rfl) rfl
theorem wf_X6_15 : Cond.fieldLink RX6 15 "TypeKernel$Typer" "terms" "LTypeKernel$Terms;" ∈ TB := tb1 (List.mem_of_getElem? (i := 201) rfl) rfl
theorem wf_X6_19 : Cond.fieldLink RX6 19 "TypeKernel$Typer" "names" "LTypeKernel$Names;" ∈ TB := tb1 (List.mem_of_getElem? (i := 202) rfl) rfl
theorem wf_X6_23 : Cond.fieldLink RX6 23 "TypeKernel$Typer" "reducer" "LTypeKernel$Reducer;" ∈ TB := tb1 (List.mem_of_getElem? (i := 203) rfl) rfl
theorem wf_X6_34 : Cond.fieldLink RX6 34 "TypeKernel$Typer" "found" "LTypeKernel$Row;" ∈ TB := tb1 (List.mem_of_getElem? (i := 204) rfl) rfl
theorem wf_X7_123 : Cond.fieldLink RX7 123 "TypeKernel$Typer" "found" "LTypeKernel$Row;" ∈ TB := tb1 (List.mem_of_getElem? (i := 205) rfl) rfl
theorem wf_X6_29 : Cond.fieldLink RX6 29 "TypeKernel$Typer" "rows" "[LTypeKernel$Row;" ∈ TB := tb1 (List.mem_of_getElem? (i := 206) rfl) rfl
theorem wf_X6_38 : Cond.fieldLink RX6 38 "TypeKernel$Typer" "binderType" "[I" ∈ TB := tb1 (List.mem_of_getElem? (i := 207) rfl) rfl
theorem wf_X6_42 : Cond.fieldLink RX6 42 "TypeKernel$Typer" "written" "LTypeKernel$Row;" ∈ TB := tb1 (List.mem_of_getElem? (i := 208) rfl) rfl
theorem wy_X6_levels : Cond.laysFinal RX6 "TypeKernel$Typer" "levels" "LTypeKernel$Levels;" ∈ TB := tb1 (List.mem_of_getElem? (i := 209) rfl) rfl
theorem wy_X6_terms : Cond.laysFinal RX6 "TypeKernel$Typer" "terms" "LTypeKernel$Terms;" ∈ TB := tb1 (List.mem_of_getElem? (i := 211) rfl) rfl
theorem wy_X6_names : Cond.laysFinal RX6 "TypeKernel$Typer" "names" "LTypeKernel$Names;" ∈ TB := tb1 (List.mem_of_getElem? (i := 213) rfl) rfl
theorem wy_X6_reducer : Cond.laysFinal RX6 "TypeKernel$Typer" "reducer" "LTypeKernel$Reducer;" ∈ TB := tb1 (List.mem_of_getElem? (i := 215) rfl) rfl
theorem wy_X6_found : Cond.laysFinal RX6 "TypeKernel$Typer" "found" "LTypeKernel$Row;" ∈ TB := tb1 (List.mem_of_getElem? (i := 217) rfl) rfl
theorem wy_X6_rows : Cond.laysFinal RX6 "TypeKernel$Typer" "rows" "[LTypeKernel$Row;" ∈ TB := tb1 (List.mem_of_getElem? (i := 219) rfl) rfl
theorem wy_X6_binderType : Cond.laysFinal RX6 "TypeKernel$Typer" "binderType" "[I" ∈ TB := tb1 (List.mem_of_getElem? (i := 221) rfl) rfl
theorem wy_X6_written : Cond.laysFinal RX6 "TypeKernel$Typer" "written" "LTypeKernel$Row;" ∈ TB := tb1 (List.mem_of_getElem? (i := 223) rfl) rfl
theorem wa_X7_50 : Cond.classLink RX7 50 RX4 ∈ TB := tb1 (List.mem_of_getElem? (i := 226) rfl) rfl
theorem wl_X7_52 : Cond.methodLink RX7 52 yX4_init ∈ TB := tb1 (List.mem_of_getElem? (i := 227) rfl) rfl
theorem wf_X7_10 : Cond.fieldLink RX7 10 "TypeKernel" "levels" "LTypeKernel$Levels;" ∈ TB := tb1 (List.mem_of_getElem? (i := 228) rfl) rfl
theorem wf_X7_21 : Cond.fieldLink RX7 21 "TypeKernel" "terms" "LTypeKernel$Terms;" ∈ TB := tb1 (List.mem_of_getElem? (i := 229) rfl) rfl
theorem wf_X7_28 : Cond.fieldLink RX7 28 "TypeKernel" "names" "LTypeKernel$Names;" ∈ TB := tb1 (List.mem_of_getElem? (i := 230) rfl) rfl
theorem wf_X7_37 : Cond.fieldLink RX7 37 "TypeKernel" "reducer" "LTypeKernel$Reducer;" ∈ TB := tb1 (List.mem_of_getElem? (i := 231) rfl) rfl
theorem wf_X7_46 : Cond.fieldLink RX7 46 "TypeKernel" "typer" "LTypeKernel$Typer;" ∈ TB := tb1 (List.mem_of_getElem? (i := 232) rfl) rfl
theorem wf_X7_53 : Cond.fieldLink RX7 53 "TypeKernel" "here" "LTypeKernel$Row;" ∈ TB := tb1 (List.mem_of_getElem? (i := 233) rfl) rfl
theorem wf_X7_57 : Cond.fieldLink RX7 57 "TypeKernel" "there" "LTypeKernel$Row;" ∈ TB := tb1 (List.mem_of_getElem? (i := 234) rfl) rfl
theorem wy_X7_levels : Cond.laysFinal RX7 "TypeKernel" "levels" "LTypeKernel$Levels;" ∈ TB := tb1 (List.mem_of_getElem? (i := 235) rfl) rfl
theorem wy_X7_terms : Cond.laysFinal RX7 "TypeKernel" "terms" "LTypeKernel$Terms;" ∈ TB := tb1 (List.mem_of_getElem? (i := 237) rfl) rfl
theorem wy_X7_names : Cond.laysFinal RX7 "TypeKernel" "names" "LTypeKernel$Names;" ∈ TB := tb1 (List.mem_of_getElem? (i := 239) rfl) rfl
theorem wy_X7_reducer : Cond.laysFinal RX7 "TypeKernel" "reducer" "LTypeKernel$Reducer;" ∈ TB := tb2 (List.mem_of_getElem? (i := 1) rfl) rfl
theorem wy_X7_typer : Cond.laysFinal RX7 "TypeKernel" "typer" "LTypeKernel$Typer;" ∈ TB := tb2 (List.mem_of_getElem? (i := 3) rfl) rfl
theorem wy_X7_here : Cond.laysFinal RX7 "TypeKernel" "here" "LTypeKernel$Row;" ∈ TB := tb2 (List.mem_of_getElem? (i := 5) rfl) rfl
theorem wy_X7_there : Cond.laysFinal RX7 "TypeKernel" "there" "LTypeKernel$Row;" ∈ TB := tb2 (List.mem_of_getElem? (i := 7) rfl) rfl
theorem wl_L_130 : Cond.methodLink RL 130 yX7_told ∈ TB := tb2 (List.mem_of_getElem? (i := 10) rfl) rfl
theorem wi_X7_told : Cond.instanceMethod yX7_told ∈ TB := tb2 (List.mem_of_getElem? (i := 11) rfl) rfl
theorem we_X7_told : Cond.selects RX7 yX7_told yX7_told ∈ TB := tb2 (List.mem_of_getElem? (i := 12) rfl) rfl
theorem wc_X7_told : Cond.code yX7_told cX7_told 2 (some .int) ∈ TB := tb2 (List.mem_of_getElem? (i := 13) rfl) rfl
theorem wl_L_134 : Cond.methodLink RL 134 yX7_clear ∈ TB := tb2 (List.mem_of_getElem? (i := 14) rfl) rfl
theorem wi_X7_clear : Cond.instanceMethod yX7_clear ∈ TB := tb2 (List.mem_of_getElem? (i := 15) rfl) rfl
theorem we_X7_clear : Cond.selects RX7 yX7_clear yX7_clear ∈ TB := tb2 (List.mem_of_getElem? (i := 16) rfl) rfl
theorem wc_X7_clear : Cond.code yX7_clear cX7_clear 1 none ∈ TB := tb2 (List.mem_of_getElem? (i := 17) rfl) rfl
theorem wl_L_72 : Cond.methodLink RL 72 yL_level ∈ TB := tb2 (List.mem_of_getElem? (i := 18) rfl) rfl
theorem wt_L_level : Cond.static yL_level ∈ TB := tb2 (List.mem_of_getElem? (i := 19) rfl) rfl
theorem wa_L_13 : Cond.classLink RL 13 "java/lang/IllegalArgumentException" ∈ TB := tb2 (List.mem_of_getElem? (i := 21) rfl) rfl
theorem wa_L_15 : Cond.classLink RL 15 "java/lang/IndexOutOfBoundsException" ∈ TB := tb2 (List.mem_of_getElem? (i := 22) rfl) rfl
theorem wa_L_17 : Cond.classLink RL 17 "java/lang/UnsupportedOperationException" ∈ TB := tb2 (List.mem_of_getElem? (i := 23) rfl) rfl
theorem wl_L_7 : Cond.methodLink RL 7 yX7_level ∈ TB := tb2 (List.mem_of_getElem? (i := 24) rfl) rfl
theorem wi_X7_level : Cond.instanceMethod yX7_level ∈ TB := tb2 (List.mem_of_getElem? (i := 25) rfl) rfl
theorem we_X7_level : Cond.selects RX7 yX7_level yX7_level ∈ TB := tb2 (List.mem_of_getElem? (i := 26) rfl) rfl
theorem wc_X7_level : Cond.code yX7_level cX7_level 4 (some .int) ∈ TB := tb2 (List.mem_of_getElem? (i := 27) rfl) rfl
theorem wa_X7_60 : Cond.classLink RX7 60 "java/lang/IllegalArgumentException" ∈ TB := tb2 (List.mem_of_getElem? (i := 28) rfl) rfl
theorem wl_X7_69 : Cond.methodLink RX7 69 yX0_ofParameter ∈ TB := tb2 (List.mem_of_getElem? (i := 97) rfl) rfl
theorem wt_X0_ofParameter : Cond.static yX0_ofParameter ∈ TB := tb2 (List.mem_of_getElem? (i := 98) rfl) rfl
theorem wc_X0_ofParameter : Cond.code yX0_ofParameter cX0_ofParameter 1 (some .long) ∈ TB := tb2 (List.mem_of_getElem? (i := 99) rfl) rfl
theorem wl_X7_75 : Cond.methodLink RX7 75 yX7_askedLevel ∈ TB := tb2 (List.mem_of_getElem? (i := 100) rfl) rfl
theorem wi_X7_askedLevel : Cond.instanceMethod yX7_askedLevel ∈ TB := tb2 (List.mem_of_getElem? (i := 102) rfl) rfl
theorem wc_X7_askedLevel : Cond.code yX7_askedLevel cX7_askedLevel 4 (some .int) ∈ TB := tb2 (List.mem_of_getElem? (i := 103) rfl) rfl
theorem wk_X7_215 : Cond.constantLong RX7 215 (-1) ∈ TB := tb2 (List.mem_of_getElem? (i := 104) rfl) rfl
theorem wl_X7_186 : Cond.methodLink RX7 186 yX0_sizeOf ∈ TB := tb2 (List.mem_of_getElem? (i := 105) rfl) rfl
theorem wt_X0_sizeOf : Cond.static yX0_sizeOf ∈ TB := tb2 (List.mem_of_getElem? (i := 106) rfl) rfl
theorem wc_X0_sizeOf : Cond.code yX0_sizeOf cX0_sizeOf 3 (some .int) ∈ TB := tb2 (List.mem_of_getElem? (i := 107) rfl) rfl
theorem wl_X0_19 : Cond.methodLink RX0 19 yX0_markAt ∈ TB := tb2 (List.mem_of_getElem? (i := 108) rfl) rfl
theorem wt_X0_markAt : Cond.static yX0_markAt ∈ TB := tb2 (List.mem_of_getElem? (i := 109) rfl) rfl
theorem wc_X0_markAt : Cond.code yX0_markAt cX0_markAt 3 (some .int) ∈ TB := tb2 (List.mem_of_getElem? (i := 110) rfl) rfl
theorem wa_X7_150 : Cond.classLink RX7 150 "java/lang/UnsupportedOperationException" ∈ TB := tb2 (List.mem_of_getElem? (i := 111) rfl) rfl
theorem wl_X7_219 : Cond.methodLink RX7 219 yX1_keep ∈ TB := tb2 (List.mem_of_getElem? (i := 127) rfl) rfl
theorem wi_X1_keep : Cond.instanceMethod yX1_keep ∈ TB := tb2 (List.mem_of_getElem? (i := 128) rfl) rfl
theorem we_X1_keep : Cond.selects RX1 yX1_keep yX1_keep ∈ TB := tb2 (List.mem_of_getElem? (i := 129) rfl) rfl
theorem wc_X1_keep : Cond.code yX1_keep cX1_keep 9 (some .int) ∈ TB := tb2 (List.mem_of_getElem? (i := 130) rfl) rfl
theorem wl_X1_31 : Cond.methodLink RX1 31 yX1_find ∈ TB := tb2 (List.mem_of_getElem? (i := 131) rfl) rfl
theorem wi_X1_find : Cond.instanceMethod yX1_find ∈ TB := tb2 (List.mem_of_getElem? (i := 133) rfl) rfl
theorem wc_X1_find : Cond.code yX1_find cX1_find 4 (some .int) ∈ TB := tb2 (List.mem_of_getElem? (i := 134) rfl) rfl
theorem wl_X1_35 : Cond.methodLink RX1 35 yX0_sizeOf ∈ TB := tb2 (List.mem_of_getElem? (i := 135) rfl) rfl
theorem wl_X1_38 : Cond.methodLink RX1 38 yX0_markAt ∈ TB := tb2 (List.mem_of_getElem? (i := 136) rfl) rfl
theorem wl_X1_42 : Cond.methodLink RX1 42 yX0_partsOf ∈ TB := tb2 (List.mem_of_getElem? (i := 137) rfl) rfl
theorem wt_X0_partsOf : Cond.static yX0_partsOf ∈ TB := tb2 (List.mem_of_getElem? (i := 138) rfl) rfl
theorem wc_X0_partsOf : Cond.code yX0_partsOf cX0_partsOf 2 (some .int) ∈ TB := tb2 (List.mem_of_getElem? (i := 139) rfl) rfl
theorem wl_X1_46 : Cond.methodLink RX1 46 yX0_firstPartSize ∈ TB := tb2 (List.mem_of_getElem? (i := 140) rfl) rfl
theorem wt_X0_firstPartSize : Cond.static yX0_firstPartSize ∈ TB := tb2 (List.mem_of_getElem? (i := 141) rfl) rfl
theorem wc_X0_firstPartSize : Cond.code yX0_firstPartSize cX0_firstPartSize 4 (some .int) ∈ TB := tb2 (List.mem_of_getElem? (i := 142) rfl) rfl
theorem wl_X0_29 : Cond.methodLink RX0 29 yX0_partsOf ∈ TB := tb2 (List.mem_of_getElem? (i := 143) rfl) rfl
theorem wl_X1_49 : Cond.methodLink RX1 49 yX0_cut ∈ TB := tb2 (List.mem_of_getElem? (i := 144) rfl) rfl
theorem wt_X0_cut : Cond.static yX0_cut ∈ TB := tb2 (List.mem_of_getElem? (i := 145) rfl) rfl
theorem wc_X0_cut : Cond.code yX0_cut cX0_cut 4 (some .long) ∈ TB := tb2 (List.mem_of_getElem? (i := 146) rfl) rfl
theorem wl_X1_53 : Cond.methodLink RX1 53 yX1_keep ∈ TB := tb2 (List.mem_of_getElem? (i := 147) rfl) rfl
theorem wl_X1_56 : Cond.methodLink RX1 56 yX0_parameterOf ∈ TB := tb2 (List.mem_of_getElem? (i := 148) rfl) rfl
theorem wt_X0_parameterOf : Cond.static yX0_parameterOf ∈ TB := tb2 (List.mem_of_getElem? (i := 149) rfl) rfl
theorem wc_X0_parameterOf : Cond.code yX0_parameterOf cX0_parameterOf 2 (some .int) ∈ TB := tb2 (List.mem_of_getElem? (i := 150) rfl) rfl
theorem wl_X7_79 : Cond.methodLink RX7 79 yX7_needLevel ∈ TB := tb2 (List.mem_of_getElem? (i := 152) rfl) rfl
theorem wi_X7_needLevel : Cond.instanceMethod yX7_needLevel ∈ TB := tb2 (List.mem_of_getElem? (i := 154) rfl) rfl
theorem wc_X7_needLevel : Cond.code yX7_needLevel cX7_needLevel 2 none ∈ TB := tb2 (List.mem_of_getElem? (i := 155) rfl) rfl
theorem wa_X7_204 : Cond.classLink RX7 204 "java/lang/IndexOutOfBoundsException" ∈ TB := tb2 (List.mem_of_getElem? (i := 156) rfl) rfl
theorem wl_X7_83 : Cond.methodLink RX7 83 yX1_codeOf ∈ TB := tb2 (List.mem_of_getElem? (i := 172) rfl) rfl
theorem wi_X1_codeOf : Cond.instanceMethod yX1_codeOf ∈ TB := tb2 (List.mem_of_getElem? (i := 173) rfl) rfl
theorem we_X1_codeOf : Cond.selects RX1 yX1_codeOf yX1_codeOf ∈ TB := tb2 (List.mem_of_getElem? (i := 174) rfl) rfl
theorem wc_X1_codeOf : Cond.code yX1_codeOf cX1_codeOf 2 (some .long) ∈ TB := tb2 (List.mem_of_getElem? (i := 175) rfl) rfl
theorem wl_X7_86 : Cond.methodLink RX7 86 yX0_ofUp ∈ TB := tb2 (List.mem_of_getElem? (i := 176) rfl) rfl
theorem wt_X0_ofUp : Cond.static yX0_ofUp ∈ TB := tb2 (List.mem_of_getElem? (i := 177) rfl) rfl
theorem wc_X0_ofUp : Cond.code yX0_ofUp cX0_ofUp 2 (some .long) ∈ TB := tb2 (List.mem_of_getElem? (i := 178) rfl) rfl
theorem wl_X0_11 : Cond.methodLink RX0 11 yX0_sizeOf ∈ TB := tb2 (List.mem_of_getElem? (i := 179) rfl) rfl
theorem wk_X0_15 : Cond.constantLong RX0 15 (2) ∈ TB := tb2 (List.mem_of_getElem? (i := 180) rfl) rfl
theorem wk_X0_17 : Cond.constantLong RX0 17 (-1) ∈ TB := tb2 (List.mem_of_getElem? (i := 181) rfl) rfl
theorem wl_X7_90 : Cond.methodLink RX7 90 yX0_ofTwo ∈ TB := tb2 (List.mem_of_getElem? (i := 182) rfl) rfl
theorem wt_X0_ofTwo : Cond.static yX0_ofTwo ∈ TB := tb2 (List.mem_of_getElem? (i := 183) rfl) rfl
theorem wc_X0_ofTwo : Cond.code yX0_ofTwo cX0_ofTwo 6 (some .long) ∈ TB := tb2 (List.mem_of_getElem? (i := 184) rfl) rfl
theorem wl_L_82 : Cond.methodLink RL 82 yL_atMost ∈ TB := tb2 (List.mem_of_getElem? (i := 185) rfl) rfl
theorem wt_L_atMost : Cond.static yL_atMost ∈ TB := tb2 (List.mem_of_getElem? (i := 186) rfl) rfl
theorem wl_L_19 : Cond.methodLink RL 19 yX7_atMost ∈ TB := tb2 (List.mem_of_getElem? (i := 188) rfl) rfl
theorem wi_X7_atMost : Cond.instanceMethod yX7_atMost ∈ TB := tb2 (List.mem_of_getElem? (i := 189) rfl) rfl
theorem we_X7_atMost : Cond.selects RX7 yX7_atMost yX7_atMost ∈ TB := tb2 (List.mem_of_getElem? (i := 190) rfl) rfl
theorem wc_X7_atMost : Cond.code yX7_atMost cX7_atMost 3 (some .boolean) ∈ TB := tb2 (List.mem_of_getElem? (i := 191) rfl) rfl
theorem wl_X7_94 : Cond.methodLink RX7 94 yX1_isAtMost ∈ TB := tb2 (List.mem_of_getElem? (i := 192) rfl) rfl
theorem wi_X1_isAtMost : Cond.instanceMethod yX1_isAtMost ∈ TB := tb2 (List.mem_of_getElem? (i := 193) rfl) rfl
theorem we_X1_isAtMost : Cond.selects RX1 yX1_isAtMost yX1_isAtMost ∈ TB := tb2 (List.mem_of_getElem? (i := 194) rfl) rfl
theorem wc_X1_isAtMost : Cond.code yX1_isAtMost cX1_isAtMost 17 (some .boolean) ∈ TB := tb2 (List.mem_of_getElem? (i := 195) rfl) rfl
theorem wf_X1_67 : Cond.fieldLink RX1 67 "TypeKernel$Levels" "TELLING_VALUES" "[I" ∈ TB := tb2 (List.mem_of_getElem? (i := 196) rfl) rfl
theorem wl_X1_70 : Cond.methodLink RX1 70 yX1_worth ∈ TB := tb2 (List.mem_of_getElem? (i := 198) rfl) rfl
theorem wi_X1_worth : Cond.instanceMethod yX1_worth ∈ TB := tb2 (List.mem_of_getElem? (i := 199) rfl) rfl
theorem we_X1_worth : Cond.selects RX1 yX1_worth yX1_worth ∈ TB := tb2 (List.mem_of_getElem? (i := 200) rfl) rfl
theorem wc_X1_worth : Cond.code yX1_worth cX1_worth 11 (some .int) ∈ TB := tb2 (List.mem_of_getElem? (i := 201) rfl) rfl
theorem wk_X1_59 : Cond.constantLong RX1 59 (7) ∈ TB := tb2 (List.mem_of_getElem? (i := 202) rfl) rfl
theorem wl_X1_61 : Cond.methodLink RX1 61 Lib.Math.max.name ∈ TB := tb2 (List.mem_of_getElem? (i := 203) rfl) rfl
theorem wt_max : Cond.static Lib.Math.max.name ∈ TB := tb2 (List.mem_of_getElem? (i := 204) rfl) rfl
theorem wc_max : Cond.code Lib.Math.max.name Lib.Math.max.code 2 (some .int) ∈ TB := tb2 (List.mem_of_getElem? (i := 205) rfl) rfl
theorem wl_L_86 : Cond.methodLink RL 86 yL_value ∈ TB := tb2 (List.mem_of_getElem? (i := 206) rfl) rfl
theorem wt_L_value : Cond.static yL_value ∈ TB := tb2 (List.mem_of_getElem? (i := 207) rfl) rfl
theorem wl_L_23 : Cond.methodLink RL 23 yX7_value ∈ TB := tb2 (List.mem_of_getElem? (i := 209) rfl) rfl
theorem wi_X7_value : Cond.instanceMethod yX7_value ∈ TB := tb2 (List.mem_of_getElem? (i := 210) rfl) rfl
theorem we_X7_value : Cond.selects RX7 yX7_value yX7_value ∈ TB := tb2 (List.mem_of_getElem? (i := 211) rfl) rfl
theorem wc_X7_value : Cond.code yX7_value cX7_value 5 (some .int) ∈ TB := tb2 (List.mem_of_getElem? (i := 212) rfl) rfl
theorem wl_X7_98 : Cond.methodLink RX7 98 yX7_needParameterValue ∈ TB := tb2 (List.mem_of_getElem? (i := 213) rfl) rfl
theorem wi_X7_needParameterValue : Cond.instanceMethod yX7_needParameterValue ∈ TB := tb2 (List.mem_of_getElem? (i := 215) rfl) rfl
theorem wc_X7_needParameterValue : Cond.code yX7_needParameterValue cX7_needParameterValue 2 none ∈ TB := tb2 (List.mem_of_getElem? (i := 216) rfl) rfl
theorem wl_X7_101 : Cond.methodLink RX7 101 yX1_worth ∈ TB := tb2 (List.mem_of_getElem? (i := 218) rfl) rfl
theorem wl_L_90 : Cond.methodLink RL 90 yL_sort ∈ TB := tb2 (List.mem_of_getElem? (i := 219) rfl) rfl
theorem wt_L_sort : Cond.static yL_sort ∈ TB := tb2 (List.mem_of_getElem? (i := 220) rfl) rfl
theorem wl_L_27 : Cond.methodLink RL 27 yX7_sort ∈ TB := tb2 (List.mem_of_getElem? (i := 222) rfl) rfl
theorem wi_X7_sort : Cond.instanceMethod yX7_sort ∈ TB := tb2 (List.mem_of_getElem? (i := 223) rfl) rfl
theorem we_X7_sort : Cond.selects RX7 yX7_sort yX7_sort ∈ TB := tb2 (List.mem_of_getElem? (i := 224) rfl) rfl
theorem wc_X7_sort : Cond.code yX7_sort cX7_sort 2 (some .int) ∈ TB := tb2 (List.mem_of_getElem? (i := 225) rfl) rfl
theorem wl_X7_105 : Cond.methodLink RX7 105 yX7_askedTerm ∈ TB := tb2 (List.mem_of_getElem? (i := 226) rfl) rfl
theorem wi_X7_askedTerm : Cond.instanceMethod yX7_askedTerm ∈ TB := tb2 (List.mem_of_getElem? (i := 228) rfl) rfl
theorem wc_X7_askedTerm : Cond.code yX7_askedTerm cX7_askedTerm 6 (some .int) ∈ TB := tb2 (List.mem_of_getElem? (i := 229) rfl) rfl
theorem wl_X7_224 : Cond.methodLink RX7 224 yX5_sizeFor ∈ TB := tb2 (List.mem_of_getElem? (i := 230) rfl) rfl
theorem wi_X5_sizeFor : Cond.instanceMethod yX5_sizeFor ∈ TB := tb2 (List.mem_of_getElem? (i := 231) rfl) rfl
theorem we_X5_sizeFor : Cond.selects RX5 yX5_sizeFor yX5_sizeFor ∈ TB := tb2 (List.mem_of_getElem? (i := 232) rfl) rfl
theorem wc_X5_sizeFor : Cond.code yX5_sizeFor cX5_sizeFor 5 (some .int) ∈ TB := tb2 (List.mem_of_getElem? (i := 233) rfl) rfl
theorem wl_X5_48 : Cond.methodLink RX5 48 yX4_partsOf ∈ TB := tb2 (List.mem_of_getElem? (i := 234) rfl) rfl
theorem wt_X4_partsOf : Cond.static yX4_partsOf ∈ TB := tb2 (List.mem_of_getElem? (i := 235) rfl) rfl
theorem wc_X4_partsOf : Cond.code yX4_partsOf cX4_partsOf 1 (some .int) ∈ TB := tb2 (List.mem_of_getElem? (i := 236) rfl) rfl
theorem wl_X5_54 : Cond.methodLink RX5 54 yX5_sizeOf ∈ TB := tb2 (List.mem_of_getElem? (i := 237) rfl) rfl
theorem wi_X5_sizeOf : Cond.instanceMethod yX5_sizeOf ∈ TB := tb2 (List.mem_of_getElem? (i := 239) rfl) rfl
theorem wc_X5_sizeOf : Cond.code yX5_sizeOf cX5_sizeOf 2 (some .int) ∈ TB := tb3 (List.mem_of_getElem? (i := 0) rfl) rfl
theorem wl_X5_44 : Cond.methodLink RX5 44 yX5_has ∈ TB := tb3 (List.mem_of_getElem? (i := 1) rfl) rfl
theorem wi_X5_has : Cond.instanceMethod yX5_has ∈ TB := tb3 (List.mem_of_getElem? (i := 2) rfl) rfl
theorem we_X5_has : Cond.selects RX5 yX5_has yX5_has ∈ TB := tb3 (List.mem_of_getElem? (i := 3) rfl) rfl
theorem wc_X5_has : Cond.code yX5_has cX5_has 2 (some .boolean) ∈ TB := tb3 (List.mem_of_getElem? (i := 4) rfl) rfl
theorem wl_X7_229 : Cond.methodLink RX7 229 yX5_keep ∈ TB := tb3 (List.mem_of_getElem? (i := 6) rfl) rfl
theorem wi_X5_keep : Cond.instanceMethod yX5_keep ∈ TB := tb3 (List.mem_of_getElem? (i := 7) rfl) rfl
theorem we_X5_keep : Cond.selects RX5 yX5_keep yX5_keep ∈ TB := tb3 (List.mem_of_getElem? (i := 8) rfl) rfl
theorem wc_X5_keep : Cond.code yX5_keep cX5_keep 6 (some .int) ∈ TB := tb3 (List.mem_of_getElem? (i := 9) rfl) rfl
theorem wl_X5_66 : Cond.methodLink RX5 66 yX5_find ∈ TB := tb3 (List.mem_of_getElem? (i := 10) rfl) rfl
theorem wi_X5_find : Cond.instanceMethod yX5_find ∈ TB := tb3 (List.mem_of_getElem? (i := 12) rfl) rfl
theorem wc_X5_find : Cond.code yX5_find cX5_find 6 (some .int) ∈ TB := tb3 (List.mem_of_getElem? (i := 13) rfl) rfl
theorem wl_X5_70 : Cond.methodLink RX5 70 yX5_sizeFor ∈ TB := tb3 (List.mem_of_getElem? (i := 14) rfl) rfl
theorem wl_X5_73 : Cond.methodLink RX5 73 yX5_openFor ∈ TB := tb3 (List.mem_of_getElem? (i := 15) rfl) rfl
theorem wi_X5_openFor : Cond.instanceMethod yX5_openFor ∈ TB := tb3 (List.mem_of_getElem? (i := 17) rfl) rfl
theorem wc_X5_openFor : Cond.code yX5_openFor cX5_openFor 5 (some .int) ∈ TB := tb3 (List.mem_of_getElem? (i := 18) rfl) rfl
theorem wl_X5_57 : Cond.methodLink RX5 57 yX5_openOf ∈ TB := tb3 (List.mem_of_getElem? (i := 19) rfl) rfl
theorem wi_X5_openOf : Cond.instanceMethod yX5_openOf ∈ TB := tb3 (List.mem_of_getElem? (i := 21) rfl) rfl
theorem wc_X5_openOf : Cond.code yX5_openOf cX5_openOf 2 (some .int) ∈ TB := tb3 (List.mem_of_getElem? (i := 22) rfl) rfl
theorem wl_X5_60 : Cond.methodLink RX5 60 Lib.Math.max.name ∈ TB := tb3 (List.mem_of_getElem? (i := 23) rfl) rfl
theorem wl_L_94 : Cond.methodLink RL 94 yL_variable ∈ TB := tb3 (List.mem_of_getElem? (i := 25) rfl) rfl
theorem wt_L_variable : Cond.static yL_variable ∈ TB := tb3 (List.mem_of_getElem? (i := 26) rfl) rfl
theorem wl_L_31 : Cond.methodLink RL 31 yX7_variable ∈ TB := tb3 (List.mem_of_getElem? (i := 28) rfl) rfl
theorem wi_X7_variable : Cond.instanceMethod yX7_variable ∈ TB := tb3 (List.mem_of_getElem? (i := 29) rfl) rfl
theorem we_X7_variable : Cond.selects RX7 yX7_variable yX7_variable ∈ TB := tb3 (List.mem_of_getElem? (i := 30) rfl) rfl
theorem wc_X7_variable : Cond.code yX7_variable cX7_variable 2 (some .int) ∈ TB := tb3 (List.mem_of_getElem? (i := 31) rfl) rfl
theorem wl_L_97 : Cond.methodLink RL 97 yL_name ∈ TB := tb3 (List.mem_of_getElem? (i := 33) rfl) rfl
theorem wt_L_name : Cond.static yL_name ∈ TB := tb3 (List.mem_of_getElem? (i := 34) rfl) rfl
theorem wl_L_34 : Cond.methodLink RL 34 yX7_name ∈ TB := tb3 (List.mem_of_getElem? (i := 36) rfl) rfl
theorem wi_X7_name : Cond.instanceMethod yX7_name ∈ TB := tb3 (List.mem_of_getElem? (i := 37) rfl) rfl
theorem we_X7_name : Cond.selects RX7 yX7_name yX7_name ∈ TB := tb3 (List.mem_of_getElem? (i := 38) rfl) rfl
theorem wc_X7_name : Cond.code yX7_name cX7_name 4 (some .int) ∈ TB := tb3 (List.mem_of_getElem? (i := 39) rfl) rfl
theorem wl_X7_111 : Cond.methodLink RX7 111 yX7_needName ∈ TB := tb3 (List.mem_of_getElem? (i := 40) rfl) rfl
theorem wi_X7_needName : Cond.instanceMethod yX7_needName ∈ TB := tb3 (List.mem_of_getElem? (i := 42) rfl) rfl
theorem wc_X7_needName : Cond.code yX7_needName cX7_needName 2 none ∈ TB := tb3 (List.mem_of_getElem? (i := 43) rfl) rfl
theorem wl_L_100 : Cond.methodLink RL 100 yL_term ∈ TB := tb3 (List.mem_of_getElem? (i := 45) rfl) rfl
theorem wt_L_term : Cond.static yL_term ∈ TB := tb3 (List.mem_of_getElem? (i := 46) rfl) rfl
theorem wl_L_37 : Cond.methodLink RL 37 yX7_term ∈ TB := tb3 (List.mem_of_getElem? (i := 48) rfl) rfl
theorem wi_X7_term : Cond.instanceMethod yX7_term ∈ TB := tb3 (List.mem_of_getElem? (i := 49) rfl) rfl
theorem we_X7_term : Cond.selects RX7 yX7_term yX7_term ∈ TB := tb3 (List.mem_of_getElem? (i := 50) rfl) rfl
theorem wc_X7_term : Cond.code yX7_term cX7_term 4 (some .int) ∈ TB := tb3 (List.mem_of_getElem? (i := 51) rfl) rfl
theorem wl_X7_116 : Cond.methodLink RX7 116 yX7_needTerm ∈ TB := tb3 (List.mem_of_getElem? (i := 53) rfl) rfl
theorem wi_X7_needTerm : Cond.instanceMethod yX7_needTerm ∈ TB := tb3 (List.mem_of_getElem? (i := 55) rfl) rfl
theorem wc_X7_needTerm : Cond.code yX7_needTerm cX7_needTerm 2 none ∈ TB := tb3 (List.mem_of_getElem? (i := 56) rfl) rfl
theorem wl_L_103 : Cond.methodLink RL 103 yL_let ∈ TB := tb3 (List.mem_of_getElem? (i := 58) rfl) rfl
theorem wt_L_let : Cond.static yL_let ∈ TB := tb3 (List.mem_of_getElem? (i := 59) rfl) rfl
theorem wl_L_40 : Cond.methodLink RL 40 yX7_let ∈ TB := tb3 (List.mem_of_getElem? (i := 61) rfl) rfl
theorem wi_X7_let : Cond.instanceMethod yX7_let ∈ TB := tb3 (List.mem_of_getElem? (i := 62) rfl) rfl
theorem we_X7_let : Cond.selects RX7 yX7_let yX7_let ∈ TB := tb3 (List.mem_of_getElem? (i := 63) rfl) rfl
theorem wc_X7_let : Cond.code yX7_let cX7_let 4 (some .int) ∈ TB := tb3 (List.mem_of_getElem? (i := 64) rfl) rfl
theorem wl_L_106 : Cond.methodLink RL 106 yL_type ∈ TB := tb3 (List.mem_of_getElem? (i := 65) rfl) rfl
theorem wt_L_type : Cond.static yL_type ∈ TB := tb3 (List.mem_of_getElem? (i := 66) rfl) rfl
theorem wl_L_43 : Cond.methodLink RL 43 yX7_type ∈ TB := tb3 (List.mem_of_getElem? (i := 68) rfl) rfl
theorem wi_X7_type : Cond.instanceMethod yX7_type ∈ TB := tb3 (List.mem_of_getElem? (i := 69) rfl) rfl
theorem we_X7_type : Cond.selects RX7 yX7_type yX7_type ∈ TB := tb3 (List.mem_of_getElem? (i := 70) rfl) rfl
theorem wc_X7_type : Cond.code yX7_type cX7_type 3 (some .int) ∈ TB := tb3 (List.mem_of_getElem? (i := 71) rfl) rfl
theorem wl_X7_119 : Cond.methodLink RX7 119 yX6_find ∈ TB := tb3 (List.mem_of_getElem? (i := 72) rfl) rfl
theorem wi_X6_find : Cond.instanceMethod yX6_find ∈ TB := tb3 (List.mem_of_getElem? (i := 73) rfl) rfl
theorem we_X6_find : Cond.selects RX6 yX6_find yX6_find ∈ TB := tb3 (List.mem_of_getElem? (i := 74) rfl) rfl
theorem wc_X6_find : Cond.code yX6_find cX6_find 4 (some .int) ∈ TB := tb3 (List.mem_of_getElem? (i := 75) rfl) rfl
theorem wl_X6_49 : Cond.methodLink RX6 49 yX5_has ∈ TB := tb3 (List.mem_of_getElem? (i := 76) rfl) rfl
theorem wl_X6_61 : Cond.methodLink RX6 61 yX1_codeOf ∈ TB := tb3 (List.mem_of_getElem? (i := 77) rfl) rfl
theorem wl_X6_67 : Cond.methodLink RX6 67 yX0_ofUp ∈ TB := tb3 (List.mem_of_getElem? (i := 78) rfl) rfl
theorem wl_X6_73 : Cond.methodLink RX6 73 yX6_putSort ∈ TB := tb3 (List.mem_of_getElem? (i := 79) rfl) rfl
theorem wi_X6_putSort : Cond.instanceMethod yX6_putSort ∈ TB := tb3 (List.mem_of_getElem? (i := 81) rfl) rfl
theorem wc_X6_putSort : Cond.code yX6_putSort cX6_putSort 4 (some .int) ∈ TB := tb3 (List.mem_of_getElem? (i := 82) rfl) rfl
theorem wk_X6_98 : Cond.constantLong RX6 98 (-1) ∈ TB := tb3 (List.mem_of_getElem? (i := 83) rfl) rfl
theorem wl_X6_100 : Cond.methodLink RX6 100 yX4_beSort ∈ TB := tb3 (List.mem_of_getElem? (i := 84) rfl) rfl
theorem wi_X4_beSort : Cond.instanceMethod yX4_beSort ∈ TB := tb3 (List.mem_of_getElem? (i := 85) rfl) rfl
theorem we_X4_beSort : Cond.selects RX4 yX4_beSort yX4_beSort ∈ TB := tb3 (List.mem_of_getElem? (i := 86) rfl) rfl
theorem wc_X4_beSort : Cond.code yX4_beSort cX4_beSort 3 none ∈ TB := tb3 (List.mem_of_getElem? (i := 87) rfl) rfl
theorem wl_X4_32 : Cond.methodLink RX4 32 yX4_add ∈ TB := tb3 (List.mem_of_getElem? (i := 88) rfl) rfl
theorem wi_X4_add : Cond.instanceMethod yX4_add ∈ TB := tb3 (List.mem_of_getElem? (i := 89) rfl) rfl
theorem we_X4_add : Cond.selects RX4 yX4_add yX4_add ∈ TB := tb3 (List.mem_of_getElem? (i := 90) rfl) rfl
theorem wc_X4_add : Cond.code yX4_add cX4_add 8 none ∈ TB := tb3 (List.mem_of_getElem? (i := 91) rfl) rfl
theorem wl_X6_77 : Cond.methodLink RX6 77 yX6_putBinderType ∈ TB := tb3 (List.mem_of_getElem? (i := 92) rfl) rfl
theorem wi_X6_putBinderType : Cond.instanceMethod yX6_putBinderType ∈ TB := tb3 (List.mem_of_getElem? (i := 94) rfl) rfl
theorem wc_X6_putBinderType : Cond.code yX6_putBinderType cX6_putBinderType 4 (some .int) ∈ TB := tb3 (List.mem_of_getElem? (i := 95) rfl) rfl
theorem wl_X6_104 : Cond.methodLink RX6 104 yX5_spread ∈ TB := tb3 (List.mem_of_getElem? (i := 96) rfl) rfl
theorem wi_X5_spread : Cond.instanceMethod yX5_spread ∈ TB := tb3 (List.mem_of_getElem? (i := 97) rfl) rfl
theorem we_X5_spread : Cond.selects RX5 yX5_spread yX5_spread ∈ TB := tb3 (List.mem_of_getElem? (i := 98) rfl) rfl
theorem wc_X5_spread : Cond.code yX5_spread cX5_spread 6 none ∈ TB := tb3 (List.mem_of_getElem? (i := 99) rfl) rfl
theorem wl_X5_110 : Cond.methodLink RX5 110 yX5_await ∈ TB := tb3 (List.mem_of_getElem? (i := 100) rfl) rfl
theorem wi_X5_await : Cond.instanceMethod yX5_await ∈ TB := tb3 (List.mem_of_getElem? (i := 102) rfl) rfl
theorem wc_X5_await : Cond.code yX5_await cX5_await 3 none ∈ TB := tb3 (List.mem_of_getElem? (i := 103) rfl) rfl
theorem wl_X5_114 : Cond.methodLink RX5 114 yX1_codeOf ∈ TB := tb3 (List.mem_of_getElem? (i := 104) rfl) rfl
theorem wl_X5_118 : Cond.methodLink RX5 118 yX4_add ∈ TB := tb3 (List.mem_of_getElem? (i := 105) rfl) rfl
theorem wl_X6_108 : Cond.methodLink RX6 108 yX4_raise ∈ TB := tb3 (List.mem_of_getElem? (i := 106) rfl) rfl
theorem wi_X4_raise : Cond.instanceMethod yX4_raise ∈ TB := tb3 (List.mem_of_getElem? (i := 107) rfl) rfl
theorem we_X4_raise : Cond.selects RX4 yX4_raise yX4_raise ∈ TB := tb3 (List.mem_of_getElem? (i := 108) rfl) rfl
theorem wc_X4_raise : Cond.code yX4_raise cX4_raise 3 none ∈ TB := tb3 (List.mem_of_getElem? (i := 109) rfl) rfl
theorem wl_X6_81 : Cond.methodLink RX6 81 yX6_putNameType ∈ TB := tb3 (List.mem_of_getElem? (i := 110) rfl) rfl
theorem wi_X6_putNameType : Cond.instanceMethod yX6_putNameType ∈ TB := tb3 (List.mem_of_getElem? (i := 112) rfl) rfl
theorem wc_X6_putNameType : Cond.code yX6_putNameType cX6_putNameType 7 (some .int) ∈ TB := tb3 (List.mem_of_getElem? (i := 113) rfl) rfl
theorem wl_X6_112 : Cond.methodLink RX6 112 yX2_typeOf ∈ TB := tb3 (List.mem_of_getElem? (i := 114) rfl) rfl
theorem wi_X2_typeOf : Cond.instanceMethod yX2_typeOf ∈ TB := tb3 (List.mem_of_getElem? (i := 115) rfl) rfl
theorem we_X2_typeOf : Cond.selects RX2 yX2_typeOf yX2_typeOf ∈ TB := tb3 (List.mem_of_getElem? (i := 116) rfl) rfl
theorem wc_X2_typeOf : Cond.code yX2_typeOf cX2_typeOf 2 (some .int) ∈ TB := tb3 (List.mem_of_getElem? (i := 117) rfl) rfl
theorem wl_X6_123 : Cond.methodLink RX6 123 yX4_giveLevels ∈ TB := tb3 (List.mem_of_getElem? (i := 118) rfl) rfl
theorem wi_X4_giveLevels : Cond.instanceMethod yX4_giveLevels ∈ TB := tb3 (List.mem_of_getElem? (i := 119) rfl) rfl
theorem we_X4_giveLevels : Cond.selects RX4 yX4_giveLevels yX4_giveLevels ∈ TB := tb3 (List.mem_of_getElem? (i := 120) rfl) rfl
theorem wc_X4_giveLevels : Cond.code yX4_giveLevels cX4_giveLevels 6 (some .boolean) ∈ TB := tb3 (List.mem_of_getElem? (i := 121) rfl) rfl
theorem wl_X4_64 : Cond.methodLink RX4 64 yX0_withLevels ∈ TB := tb3 (List.mem_of_getElem? (i := 122) rfl) rfl
theorem wt_X0_withLevels : Cond.static yX0_withLevels ∈ TB := tb3 (List.mem_of_getElem? (i := 123) rfl) rfl
theorem wc_X0_withLevels : Cond.code yX0_withLevels cX0_withLevels 15 (some .long) ∈ TB := tb3 (List.mem_of_getElem? (i := 124) rfl) rfl
theorem wk_X0_33 : Cond.constantLong RX0 33 (7) ∈ TB := tb3 (List.mem_of_getElem? (i := 125) rfl) rfl
theorem wk_X0_35 : Cond.constantLong RX0 35 (5) ∈ TB := tb3 (List.mem_of_getElem? (i := 126) rfl) rfl
theorem wk_X0_37 : Cond.constantLong RX0 37 (6) ∈ TB := tb3 (List.mem_of_getElem? (i := 127) rfl) rfl
theorem wk_X4_70 : Cond.constantLong RX4 70 (-1) ∈ TB := tb3 (List.mem_of_getElem? (i := 128) rfl) rfl
theorem wl_X6_85 : Cond.methodLink RX6 85 yX6_findOfPi ∈ TB := tb3 (List.mem_of_getElem? (i := 129) rfl) rfl
theorem wi_X6_findOfPi : Cond.instanceMethod yX6_findOfPi ∈ TB := tb3 (List.mem_of_getElem? (i := 131) rfl) rfl
theorem wc_X6_findOfPi : Cond.code yX6_findOfPi cX6_findOfPi 8 (some .int) ∈ TB := tb3 (List.mem_of_getElem? (i := 132) rfl) rfl
theorem wl_X6_127 : Cond.methodLink RX6 127 yX6_find ∈ TB := tb3 (List.mem_of_getElem? (i := 133) rfl) rfl
theorem wl_X6_130 : Cond.methodLink RX6 130 yX3_reduce ∈ TB := tb3 (List.mem_of_getElem? (i := 134) rfl) rfl
theorem wi_X3_reduce : Cond.instanceMethod yX3_reduce ∈ TB := tb3 (List.mem_of_getElem? (i := 135) rfl) rfl
theorem we_X3_reduce : Cond.selects RX3 yX3_reduce yX3_reduce ∈ TB := tb3 (List.mem_of_getElem? (i := 136) rfl) rfl
theorem wc_X3_reduce : Cond.code yX3_reduce cX3_reduce 5 (some .int) ∈ TB := tb3 (List.mem_of_getElem? (i := 137) rfl) rfl
theorem wl_X3_32 : Cond.methodLink RX3 32 yX3_nextStep ∈ TB := tb3 (List.mem_of_getElem? (i := 138) rfl) rfl
theorem wi_X3_nextStep : Cond.instanceMethod yX3_nextStep ∈ TB := tb3 (List.mem_of_getElem? (i := 140) rfl) rfl
theorem wc_X3_nextStep : Cond.code yX3_nextStep cX3_nextStep 4 (some .int) ∈ TB := tb3 (List.mem_of_getElem? (i := 141) rfl) rfl
theorem wl_X3_52 : Cond.methodLink RX3 52 yX4_kindAt ∈ TB := tb3 (List.mem_of_getElem? (i := 142) rfl) rfl
theorem wi_X4_kindAt : Cond.instanceMethod yX4_kindAt ∈ TB := tb3 (List.mem_of_getElem? (i := 143) rfl) rfl
theorem we_X4_kindAt : Cond.selects RX4 yX4_kindAt yX4_kindAt ∈ TB := tb3 (List.mem_of_getElem? (i := 144) rfl) rfl
theorem wc_X4_kindAt : Cond.code yX4_kindAt cX4_kindAt 2 (some .int) ∈ TB := tb3 (List.mem_of_getElem? (i := 145) rfl) rfl
theorem wl_X3_59 : Cond.methodLink RX3 59 yX2_valueOf ∈ TB := tb3 (List.mem_of_getElem? (i := 146) rfl) rfl
theorem wi_X2_valueOf : Cond.instanceMethod yX2_valueOf ∈ TB := tb3 (List.mem_of_getElem? (i := 147) rfl) rfl
theorem we_X2_valueOf : Cond.selects RX2 yX2_valueOf yX2_valueOf ∈ TB := tb3 (List.mem_of_getElem? (i := 148) rfl) rfl
theorem wc_X2_valueOf : Cond.code yX2_valueOf cX2_valueOf 2 (some .int) ∈ TB := tb3 (List.mem_of_getElem? (i := 149) rfl) rfl
theorem wl_X3_40 : Cond.methodLink RX3 40 yX3_shrink ∈ TB := tb3 (List.mem_of_getElem? (i := 150) rfl) rfl
theorem wi_X3_shrink : Cond.instanceMethod yX3_shrink ∈ TB := tb3 (List.mem_of_getElem? (i := 152) rfl) rfl
theorem wc_X3_shrink : Cond.code yX3_shrink cX3_shrink 5 none ∈ TB := tb3 (List.mem_of_getElem? (i := 153) rfl) rfl
theorem wl_X3_85 : Cond.methodLink RX3 85 yX4_endOf ∈ TB := tb3 (List.mem_of_getElem? (i := 154) rfl) rfl
theorem wi_X4_endOf : Cond.instanceMethod yX4_endOf ∈ TB := tb3 (List.mem_of_getElem? (i := 155) rfl) rfl
theorem we_X4_endOf : Cond.selects RX4 yX4_endOf yX4_endOf ∈ TB := tb3 (List.mem_of_getElem? (i := 156) rfl) rfl
theorem wc_X4_endOf : Cond.code yX4_endOf cX4_endOf 4 (some .int) ∈ TB := tb3 (List.mem_of_getElem? (i := 157) rfl) rfl
theorem wl_X4_36 : Cond.methodLink RX4 36 Lib.Math.max.name ∈ TB := tb3 (List.mem_of_getElem? (i := 158) rfl) rfl
theorem wl_X4_42 : Cond.methodLink RX4 42 yX4_partsOf ∈ TB := tb3 (List.mem_of_getElem? (i := 159) rfl) rfl
theorem wl_X3_88 : Cond.methodLink RX3 88 yX4_takePart ∈ TB := tb3 (List.mem_of_getElem? (i := 160) rfl) rfl
theorem wi_X4_takePart : Cond.instanceMethod yX4_takePart ∈ TB := tb3 (List.mem_of_getElem? (i := 161) rfl) rfl
theorem we_X4_takePart : Cond.selects RX4 yX4_takePart yX4_takePart ∈ TB := tb3 (List.mem_of_getElem? (i := 162) rfl) rfl
theorem wc_X4_takePart : Cond.code yX4_takePart cX4_takePart 6 none ∈ TB := tb3 (List.mem_of_getElem? (i := 163) rfl) rfl
theorem wl_X4_46 : Cond.methodLink RX4 46 yX4_copyMark ∈ TB := tb3 (List.mem_of_getElem? (i := 164) rfl) rfl
theorem wi_X4_copyMark : Cond.instanceMethod yX4_copyMark ∈ TB := tb3 (List.mem_of_getElem? (i := 166) rfl) rfl
theorem wc_X4_copyMark : Cond.code yX4_copyMark cX4_copyMark 6 none ∈ TB := tb3 (List.mem_of_getElem? (i := 167) rfl) rfl
theorem wl_X3_96 : Cond.methodLink RX3 96 yX4_countNextOuter ∈ TB := tb3 (List.mem_of_getElem? (i := 168) rfl) rfl
theorem wi_X4_countNextOuter : Cond.instanceMethod yX4_countNextOuter ∈ TB := tb3 (List.mem_of_getElem? (i := 169) rfl) rfl
theorem we_X4_countNextOuter : Cond.selects RX4 yX4_countNextOuter yX4_countNextOuter ∈ TB := tb3 (List.mem_of_getElem? (i := 170) rfl) rfl
theorem wc_X4_countNextOuter : Cond.code yX4_countNextOuter cX4_countNextOuter 3 (some .int) ∈ TB := tb3 (List.mem_of_getElem? (i := 171) rfl) rfl
theorem wl_X3_100 : Cond.methodLink RX3 100 yX4_raise ∈ TB := tb3 (List.mem_of_getElem? (i := 172) rfl) rfl
theorem wl_X3_81 : Cond.methodLink RX3 81 yX4_replace ∈ TB := tb3 (List.mem_of_getElem? (i := 173) rfl) rfl
theorem wi_X4_replace : Cond.instanceMethod yX4_replace ∈ TB := tb3 (List.mem_of_getElem? (i := 174) rfl) rfl
theorem we_X4_replace : Cond.selects RX4 yX4_replace yX4_replace ∈ TB := tb3 (List.mem_of_getElem? (i := 175) rfl) rfl
theorem wc_X4_replace : Cond.code yX4_replace cX4_replace 6 (some .boolean) ∈ TB := tb3 (List.mem_of_getElem? (i := 176) rfl) rfl
theorem wl_X4_54 : Cond.methodLink RX4 54 yX4_moveTail ∈ TB := tb3 (List.mem_of_getElem? (i := 177) rfl) rfl
theorem wi_X4_moveTail : Cond.instanceMethod yX4_moveTail ∈ TB := tb3 (List.mem_of_getElem? (i := 179) rfl) rfl
theorem wc_X4_moveTail : Cond.code yX4_moveTail cX4_moveTail 4 none ∈ TB := tb3 (List.mem_of_getElem? (i := 180) rfl) rfl
theorem wl_X4_58 : Cond.methodLink RX4 58 arraycopyName ∈ TB := tb3 (List.mem_of_getElem? (i := 181) rfl) rfl
theorem wt_arraycopy : Cond.static arraycopyName ∈ TB := tb3 (List.mem_of_getElem? (i := 182) rfl) rfl
theorem wv_arraycopy : Cond.native arraycopyName ∈ TB := tb3 (List.mem_of_getElem? (i := 183) rfl) rfl
theorem wl_X3_44 : Cond.methodLink RX3 44 yX3_takeStep ∈ TB := tb3 (List.mem_of_getElem? (i := 184) rfl) rfl
theorem wi_X3_takeStep : Cond.instanceMethod yX3_takeStep ∈ TB := tb3 (List.mem_of_getElem? (i := 186) rfl) rfl
theorem wc_X3_takeStep : Cond.code yX3_takeStep cX3_takeStep 8 (some .boolean) ∈ TB := tb3 (List.mem_of_getElem? (i := 187) rfl) rfl
theorem wl_X3_64 : Cond.methodLink RX3 64 yX5_spread ∈ TB := tb3 (List.mem_of_getElem? (i := 188) rfl) rfl
theorem wl_X3_77 : Cond.methodLink RX3 77 yX4_giveLevels ∈ TB := tb3 (List.mem_of_getElem? (i := 189) rfl) rfl
theorem wl_X3_92 : Cond.methodLink RX3 92 yX4_fillWith ∈ TB := tb3 (List.mem_of_getElem? (i := 190) rfl) rfl
theorem wi_X4_fillWith : Cond.instanceMethod yX4_fillWith ∈ TB := tb3 (List.mem_of_getElem? (i := 191) rfl) rfl
theorem we_X4_fillWith : Cond.selects RX4 yX4_fillWith yX4_fillWith ∈ TB := tb3 (List.mem_of_getElem? (i := 192) rfl) rfl
theorem wc_X4_fillWith : Cond.code yX4_fillWith cX4_fillWith 6 (some .boolean) ∈ TB := tb3 (List.mem_of_getElem? (i := 193) rfl) rfl
theorem wl_X4_50 : Cond.methodLink RX4 50 yX4_countNextOuter ∈ TB := tb3 (List.mem_of_getElem? (i := 194) rfl) rfl
theorem wl_X6_136 : Cond.methodLink RX6 136 yX6_needSort ∈ TB := tb3 (List.mem_of_getElem? (i := 195) rfl) rfl
theorem wi_X6_needSort : Cond.instanceMethod yX6_needSort ∈ TB := tb3 (List.mem_of_getElem? (i := 196) rfl) rfl
theorem we_X6_needSort : Cond.selects RX6 yX6_needSort yX6_needSort ∈ TB := tb3 (List.mem_of_getElem? (i := 197) rfl) rfl
theorem wc_X6_needSort : Cond.code yX6_needSort cX6_needSort 3 (some .int) ∈ TB := tb3 (List.mem_of_getElem? (i := 198) rfl) rfl
theorem wl_X6_45 : Cond.methodLink RX6 45 yX4_kindAt ∈ TB := tb3 (List.mem_of_getElem? (i := 199) rfl) rfl
theorem wl_X6_143 : Cond.methodLink RX6 143 yX0_ofTwo ∈ TB := tb3 (List.mem_of_getElem? (i := 200) rfl) rfl
theorem wl_X6_89 : Cond.methodLink RX6 89 yX6_findOfLambda ∈ TB := tb3 (List.mem_of_getElem? (i := 201) rfl) rfl
theorem wi_X6_findOfLambda : Cond.instanceMethod yX6_findOfLambda ∈ TB := tb3 (List.mem_of_getElem? (i := 203) rfl) rfl
theorem wc_X6_findOfLambda : Cond.code yX6_findOfLambda cX6_findOfLambda 7 (some .int) ∈ TB := tb3 (List.mem_of_getElem? (i := 204) rfl) rfl
theorem wl_X6_151 : Cond.methodLink RX6 151 yX4_add ∈ TB := tb3 (List.mem_of_getElem? (i := 205) rfl) rfl
theorem wl_X6_155 : Cond.methodLink RX6 155 yX4_append ∈ TB := tb3 (List.mem_of_getElem? (i := 206) rfl) rfl
theorem wi_X4_append : Cond.instanceMethod yX4_append ∈ TB := tb3 (List.mem_of_getElem? (i := 207) rfl) rfl
theorem we_X4_append : Cond.selects RX4 yX4_append yX4_append ∈ TB := tb3 (List.mem_of_getElem? (i := 208) rfl) rfl
theorem wc_X4_append : Cond.code yX4_append cX4_append 4 none ∈ TB := tb3 (List.mem_of_getElem? (i := 209) rfl) rfl
theorem wl_X6_92 : Cond.methodLink RX6 92 yX6_findOfApply ∈ TB := tb3 (List.mem_of_getElem? (i := 210) rfl) rfl
theorem wi_X6_findOfApply : Cond.instanceMethod yX6_findOfApply ∈ TB := tb3 (List.mem_of_getElem? (i := 212) rfl) rfl
theorem wc_X6_findOfApply : Cond.code yX6_findOfApply cX6_findOfApply 8 (some .int) ∈ TB := tb3 (List.mem_of_getElem? (i := 213) rfl) rfl
theorem wl_X6_159 : Cond.methodLink RX6 159 yX4_takePart ∈ TB := tb3 (List.mem_of_getElem? (i := 214) rfl) rfl
theorem wl_X6_163 : Cond.methodLink RX6 163 yX4_endOf ∈ TB := tb3 (List.mem_of_getElem? (i := 215) rfl) rfl
theorem wl_X6_166 : Cond.methodLink RX6 166 yX4_matches ∈ TB := tb3 (List.mem_of_getElem? (i := 216) rfl) rfl
theorem wi_X4_matches : Cond.instanceMethod yX4_matches ∈ TB := tb3 (List.mem_of_getElem? (i := 217) rfl) rfl
theorem we_X4_matches : Cond.selects RX4 yX4_matches yX4_matches ∈ TB := tb3 (List.mem_of_getElem? (i := 218) rfl) rfl
theorem wc_X4_matches : Cond.code yX4_matches cX4_matches 6 (some .boolean) ∈ TB := tb3 (List.mem_of_getElem? (i := 219) rfl) rfl
theorem wl_X4_76 : Cond.methodLink RX4 76 yX1_areSame ∈ TB := tb3 (List.mem_of_getElem? (i := 220) rfl) rfl
theorem wi_X1_areSame : Cond.instanceMethod yX1_areSame ∈ TB := tb3 (List.mem_of_getElem? (i := 221) rfl) rfl
theorem we_X1_areSame : Cond.selects RX1 yX1_areSame yX1_areSame ∈ TB := tb3 (List.mem_of_getElem? (i := 222) rfl) rfl
theorem wc_X1_areSame : Cond.code yX1_areSame cX1_areSame 5 (some .boolean) ∈ TB := tb3 (List.mem_of_getElem? (i := 223) rfl) rfl
theorem wl_X1_74 : Cond.methodLink RX1 74 yX1_isAtMost ∈ TB := tb3 (List.mem_of_getElem? (i := 224) rfl) rfl
theorem wl_X6_170 : Cond.methodLink RX6 170 yX4_fillWith ∈ TB := tb3 (List.mem_of_getElem? (i := 225) rfl) rfl
theorem wl_X6_95 : Cond.methodLink RX6 95 yX6_findOfLet ∈ TB := tb3 (List.mem_of_getElem? (i := 226) rfl) rfl
theorem wi_X6_findOfLet : Cond.instanceMethod yX6_findOfLet ∈ TB := tb3 (List.mem_of_getElem? (i := 228) rfl) rfl
theorem wc_X6_findOfLet : Cond.code yX6_findOfLet cX6_findOfLet 7 (some .int) ∈ TB := tb3 (List.mem_of_getElem? (i := 229) rfl) rfl
theorem wl_X7_126 : Cond.methodLink RX7 126 yX7_numbered ∈ TB := tb3 (List.mem_of_getElem? (i := 230) rfl) rfl
theorem wi_X7_numbered : Cond.instanceMethod yX7_numbered ∈ TB := tb3 (List.mem_of_getElem? (i := 232) rfl) rfl
theorem wc_X7_numbered : Cond.code yX7_numbered cX7_numbered 5 (some .int) ∈ TB := tb3 (List.mem_of_getElem? (i := 233) rfl) rfl
theorem wl_X7_236 : Cond.methodLink RX7 236 yX5_keepNext ∈ TB := tb3 (List.mem_of_getElem? (i := 234) rfl) rfl
theorem wi_X5_keepNext : Cond.instanceMethod yX5_keepNext ∈ TB := tb3 (List.mem_of_getElem? (i := 235) rfl) rfl
theorem we_X5_keepNext : Cond.selects RX5 yX5_keepNext yX5_keepNext ∈ TB := tb3 (List.mem_of_getElem? (i := 236) rfl) rfl
theorem wc_X5_keepNext : Cond.code yX5_keepNext cX5_keepNext 8 (some .int) ∈ TB := tb3 (List.mem_of_getElem? (i := 237) rfl) rfl
theorem wl_X5_82 : Cond.methodLink RX5 82 yX5_keepLeaf ∈ TB := tb3 (List.mem_of_getElem? (i := 238) rfl) rfl
theorem wi_X5_keepLeaf : Cond.instanceMethod yX5_keepLeaf ∈ TB := tb4 (List.mem_of_getElem? (i := 0) rfl) rfl
theorem wc_X5_keepLeaf : Cond.code yX5_keepLeaf cX5_keepLeaf 5 (some .int) ∈ TB := tb4 (List.mem_of_getElem? (i := 1) rfl) rfl
theorem wl_X5_89 : Cond.methodLink RX5 89 yX5_keep ∈ TB := tb4 (List.mem_of_getElem? (i := 2) rfl) rfl
theorem wl_X5_99 : Cond.methodLink RX5 99 yX1_keep ∈ TB := tb4 (List.mem_of_getElem? (i := 3) rfl) rfl
theorem wl_X5_86 : Cond.methodLink RX5 86 yX5_keepNext ∈ TB := tb4 (List.mem_of_getElem? (i := 4) rfl) rfl
theorem wl_L_109 : Cond.methodLink RL 109 yL_normal ∈ TB := tb4 (List.mem_of_getElem? (i := 6) rfl) rfl
theorem wt_L_normal : Cond.static yL_normal ∈ TB := tb4 (List.mem_of_getElem? (i := 7) rfl) rfl
theorem wl_L_46 : Cond.methodLink RL 46 yX7_normal ∈ TB := tb4 (List.mem_of_getElem? (i := 9) rfl) rfl
theorem wi_X7_normal : Cond.instanceMethod yX7_normal ∈ TB := tb4 (List.mem_of_getElem? (i := 10) rfl) rfl
theorem we_X7_normal : Cond.selects RX7 yX7_normal yX7_normal ∈ TB := tb4 (List.mem_of_getElem? (i := 11) rfl) rfl
theorem wc_X7_normal : Cond.code yX7_normal cX7_normal 2 (some .int) ∈ TB := tb4 (List.mem_of_getElem? (i := 12) rfl) rfl
theorem wl_X7_130 : Cond.methodLink RX7 130 yX5_spread ∈ TB := tb4 (List.mem_of_getElem? (i := 13) rfl) rfl
theorem wl_X7_134 : Cond.methodLink RX7 134 yX3_reduce ∈ TB := tb4 (List.mem_of_getElem? (i := 14) rfl) rfl
theorem wl_L_112 : Cond.methodLink RL 112 yL_steps ∈ TB := tb4 (List.mem_of_getElem? (i := 15) rfl) rfl
theorem wt_L_steps : Cond.static yL_steps ∈ TB := tb4 (List.mem_of_getElem? (i := 16) rfl) rfl
theorem wl_L_49 : Cond.methodLink RL 49 yX7_steps ∈ TB := tb4 (List.mem_of_getElem? (i := 18) rfl) rfl
theorem wi_X7_steps : Cond.instanceMethod yX7_steps ∈ TB := tb4 (List.mem_of_getElem? (i := 19) rfl) rfl
theorem we_X7_steps : Cond.selects RX7 yX7_steps yX7_steps ∈ TB := tb4 (List.mem_of_getElem? (i := 20) rfl) rfl
theorem wc_X7_steps : Cond.code yX7_steps cX7_steps 2 (some .int) ∈ TB := tb4 (List.mem_of_getElem? (i := 21) rfl) rfl
theorem wl_L_115 : Cond.methodLink RL 115 yL_same ∈ TB := tb4 (List.mem_of_getElem? (i := 22) rfl) rfl
theorem wt_L_same : Cond.static yL_same ∈ TB := tb4 (List.mem_of_getElem? (i := 23) rfl) rfl
theorem wl_L_52 : Cond.methodLink RL 52 yX7_same ∈ TB := tb4 (List.mem_of_getElem? (i := 25) rfl) rfl
theorem wi_X7_same : Cond.instanceMethod yX7_same ∈ TB := tb4 (List.mem_of_getElem? (i := 26) rfl) rfl
theorem we_X7_same : Cond.selects RX7 yX7_same yX7_same ∈ TB := tb4 (List.mem_of_getElem? (i := 27) rfl) rfl
theorem wc_X7_same : Cond.code yX7_same cX7_same 3 (some .int) ∈ TB := tb4 (List.mem_of_getElem? (i := 28) rfl) rfl
theorem wl_X7_141 : Cond.methodLink RX7 141 yX4_matches ∈ TB := tb4 (List.mem_of_getElem? (i := 29) rfl) rfl
theorem wl_L_118 : Cond.methodLink RL 118 yL_declare ∈ TB := tb4 (List.mem_of_getElem? (i := 30) rfl) rfl
theorem wt_L_declare : Cond.static yL_declare ∈ TB := tb4 (List.mem_of_getElem? (i := 31) rfl) rfl
theorem wl_L_56 : Cond.methodLink RL 56 yX7_declare ∈ TB := tb4 (List.mem_of_getElem? (i := 33) rfl) rfl
theorem wi_X7_declare : Cond.instanceMethod yX7_declare ∈ TB := tb4 (List.mem_of_getElem? (i := 34) rfl) rfl
theorem we_X7_declare : Cond.selects RX7 yX7_declare yX7_declare ∈ TB := tb4 (List.mem_of_getElem? (i := 35) rfl) rfl
theorem wc_X7_declare : Cond.code yX7_declare cX7_declare 5 (some .int) ∈ TB := tb4 (List.mem_of_getElem? (i := 36) rfl) rfl
theorem wl_X7_155 : Cond.methodLink RX7 155 yX7_reasonAgainst ∈ TB := tb4 (List.mem_of_getElem? (i := 39) rfl) rfl
theorem wi_X7_reasonAgainst : Cond.instanceMethod yX7_reasonAgainst ∈ TB := tb4 (List.mem_of_getElem? (i := 41) rfl) rfl
theorem wc_X7_reasonAgainst : Cond.code yX7_reasonAgainst cX7_reasonAgainst 5 (some .int) ∈ TB := tb4 (List.mem_of_getElem? (i := 42) rfl) rfl
theorem wl_X7_242 : Cond.methodLink RX7 242 yX7_hasStrangeParameter ∈ TB := tb4 (List.mem_of_getElem? (i := 43) rfl) rfl
theorem wi_X7_hasStrangeParameter : Cond.instanceMethod yX7_hasStrangeParameter ∈ TB := tb4 (List.mem_of_getElem? (i := 45) rfl) rfl
theorem wc_X7_hasStrangeParameter : Cond.code yX7_hasStrangeParameter cX7_hasStrangeParameter 3 (some .boolean) ∈ TB := tb4 (List.mem_of_getElem? (i := 46) rfl) rfl
theorem wl_X7_250 : Cond.methodLink RX7 250 yX4_hasParameterFrom ∈ TB := tb4 (List.mem_of_getElem? (i := 47) rfl) rfl
theorem wi_X4_hasParameterFrom : Cond.instanceMethod yX4_hasParameterFrom ∈ TB := tb4 (List.mem_of_getElem? (i := 48) rfl) rfl
theorem we_X4_hasParameterFrom : Cond.selects RX4 yX4_hasParameterFrom yX4_hasParameterFrom ∈ TB := tb4 (List.mem_of_getElem? (i := 49) rfl) rfl
theorem wc_X4_hasParameterFrom : Cond.code yX4_hasParameterFrom cX4_hasParameterFrom 3 (some .boolean) ∈ TB := tb4 (List.mem_of_getElem? (i := 50) rfl) rfl
theorem wl_X4_72 : Cond.methodLink RX4 72 yX0_hasParameterFrom ∈ TB := tb4 (List.mem_of_getElem? (i := 51) rfl) rfl
theorem wt_X0_hasParameterFrom : Cond.static yX0_hasParameterFrom ∈ TB := tb4 (List.mem_of_getElem? (i := 52) rfl) rfl
theorem wc_X0_hasParameterFrom : Cond.code yX0_hasParameterFrom cX0_hasParameterFrom 4 (some .boolean) ∈ TB := tb4 (List.mem_of_getElem? (i := 53) rfl) rfl
theorem wl_X7_246 : Cond.methodLink RX7 246 yX6_needSort ∈ TB := tb4 (List.mem_of_getElem? (i := 54) rfl) rfl
theorem wl_X7_158 : Cond.methodLink RX7 158 yX2_add ∈ TB := tb4 (List.mem_of_getElem? (i := 55) rfl) rfl
theorem wi_X2_add : Cond.instanceMethod yX2_add ∈ TB := tb4 (List.mem_of_getElem? (i := 56) rfl) rfl
theorem we_X2_add : Cond.selects RX2 yX2_add yX2_add ∈ TB := tb4 (List.mem_of_getElem? (i := 57) rfl) rfl
theorem wc_X2_add : Cond.code yX2_add cX2_add 4 (some .int) ∈ TB := tb4 (List.mem_of_getElem? (i := 58) rfl) rfl
theorem wl_L_121 : Cond.methodLink RL 121 yL_part ∈ TB := tb4 (List.mem_of_getElem? (i := 59) rfl) rfl
theorem wt_L_part : Cond.static yL_part ∈ TB := tb4 (List.mem_of_getElem? (i := 60) rfl) rfl
theorem wl_L_59 : Cond.methodLink RL 59 yX7_part ∈ TB := tb4 (List.mem_of_getElem? (i := 62) rfl) rfl
theorem wi_X7_part : Cond.instanceMethod yX7_part ∈ TB := tb4 (List.mem_of_getElem? (i := 63) rfl) rfl
theorem we_X7_part : Cond.selects RX7 yX7_part yX7_part ∈ TB := tb4 (List.mem_of_getElem? (i := 64) rfl) rfl
theorem wc_X7_part : Cond.code yX7_part cX7_part 3 (some .int) ∈ TB := tb4 (List.mem_of_getElem? (i := 65) rfl) rfl
theorem wl_L_124 : Cond.methodLink RL 124 yL_levelPart ∈ TB := tb4 (List.mem_of_getElem? (i := 67) rfl) rfl
theorem wt_L_levelPart : Cond.static yL_levelPart ∈ TB := tb4 (List.mem_of_getElem? (i := 68) rfl) rfl
theorem wl_L_62 : Cond.methodLink RL 62 yX7_levelPart ∈ TB := tb4 (List.mem_of_getElem? (i := 70) rfl) rfl
theorem wi_X7_levelPart : Cond.instanceMethod yX7_levelPart ∈ TB := tb4 (List.mem_of_getElem? (i := 71) rfl) rfl
theorem we_X7_levelPart : Cond.selects RX7 yX7_levelPart yX7_levelPart ∈ TB := tb4 (List.mem_of_getElem? (i := 72) rfl) rfl
theorem wc_X7_levelPart : Cond.code yX7_levelPart cX7_levelPart 3 (some .int) ∈ TB := tb4 (List.mem_of_getElem? (i := 73) rfl) rfl
theorem wl_X7_181 : Cond.methodLink RX7 181 yX0_kindOf ∈ TB := tb4 (List.mem_of_getElem? (i := 74) rfl) rfl
theorem wt_X0_kindOf : Cond.static yX0_kindOf ∈ TB := tb4 (List.mem_of_getElem? (i := 75) rfl) rfl
theorem wc_X0_kindOf : Cond.code yX0_kindOf cX0_kindOf 2 (some .int) ∈ TB := tb4 (List.mem_of_getElem? (i := 76) rfl) rfl
theorem wl_X0_23 : Cond.methodLink RX0 23 Lib.Math.min.name ∈ TB := tb4 (List.mem_of_getElem? (i := 77) rfl) rfl
theorem wt_min : Cond.static Lib.Math.min.name ∈ TB := tb4 (List.mem_of_getElem? (i := 78) rfl) rfl
theorem wc_min : Cond.code Lib.Math.min.name Lib.Math.min.code 2 (some .int) ∈ TB := tb4 (List.mem_of_getElem? (i := 79) rfl) rfl
theorem wl_L_127 : Cond.methodLink RL 127 yL_declared ∈ TB := tb4 (List.mem_of_getElem? (i := 81) rfl) rfl
theorem wt_L_declared : Cond.static yL_declared ∈ TB := tb4 (List.mem_of_getElem? (i := 82) rfl) rfl
theorem wl_L_65 : Cond.methodLink RL 65 yX7_declared ∈ TB := tb4 (List.mem_of_getElem? (i := 84) rfl) rfl
theorem wi_X7_declared : Cond.instanceMethod yX7_declared ∈ TB := tb4 (List.mem_of_getElem? (i := 85) rfl) rfl
theorem we_X7_declared : Cond.selects RX7 yX7_declared yX7_declared ∈ TB := tb4 (List.mem_of_getElem? (i := 86) rfl) rfl
theorem wc_X7_declared : Cond.code yX7_declared cX7_declared 3 (some .int) ∈ TB := tb4 (List.mem_of_getElem? (i := 87) rfl) rfl
theorem wa_L_69 : Cond.classLink RL 69 RX8 ∈ TB := tb4 (List.mem_of_getElem? (i := 89) rfl) rfl
theorem wb_X8 : Cond.instantiable RX8 40 ∈ TB := tb4 (List.mem_of_getElem? (i := 90) rfl) rfl
theorem wl_L_71 : Cond.methodLink RL 71 yX8_init ∈ TB := tb4 (List.mem_of_getElem? (i := 91) rfl) rfl
theorem wi_X8_init : Cond.instanceMethod yX8_init ∈ TB := tb4 (List.mem_of_getElem? (i := 92) rfl) rfl
theorem wc_X8_init : Cond.code yX8_init cX8_init 1 none ∈ TB := tb4 (List.mem_of_getElem? (i := 93) rfl) rfl
theorem wl_X8_1 : Cond.methodLink RX8 1 objectInit ∈ TB := tb4 (List.mem_of_getElem? (i := 94) rfl) rfl
theorem wk_X8_65 : Cond.constant RX8 65 (1500000) ∈ TB := tb4 (List.mem_of_getElem? (i := 95) rfl) rfl
theorem wl_X8_103 : Cond.methodLink RX8 103 yX8_clear ∈ TB := tb4 (List.mem_of_getElem? (i := 96) rfl) rfl
theorem wi_X8_clear : Cond.instanceMethod yX8_clear ∈ TB := tb4 (List.mem_of_getElem? (i := 97) rfl) rfl
theorem we_X8_clear : Cond.selects RX8 yX8_clear yX8_clear ∈ TB := tb4 (List.mem_of_getElem? (i := 98) rfl) rfl
theorem wc_X8_clear : Cond.code yX8_clear cX8_clear 1 none ∈ TB := tb4 (List.mem_of_getElem? (i := 99) rfl) rfl
theorem wf_X8_106 : Cond.fieldLink RX8 106 "TypeKernelModel" "code" "I" ∈ TB := tb4 (List.mem_of_getElem? (i := 100) rfl) rfl
theorem wf_X8_7 : Cond.fieldLink RX8 7 "TypeKernelModel" "levelKind" "[I" ∈ TB := tb4 (List.mem_of_getElem? (i := 101) rfl) rfl
theorem wf_X8_13 : Cond.fieldLink RX8 13 "TypeKernelModel" "levelA" "[I" ∈ TB := tb4 (List.mem_of_getElem? (i := 102) rfl) rfl
theorem wf_X8_16 : Cond.fieldLink RX8 16 "TypeKernelModel" "levelB" "[I" ∈ TB := tb4 (List.mem_of_getElem? (i := 103) rfl) rfl
theorem wf_X8_19 : Cond.fieldLink RX8 19 "TypeKernelModel" "levelSize" "[I" ∈ TB := tb4 (List.mem_of_getElem? (i := 104) rfl) rfl
theorem wf_X8_22 : Cond.fieldLink RX8 22 "TypeKernelModel" "levels" "I" ∈ TB := tb4 (List.mem_of_getElem? (i := 105) rfl) rfl
theorem wf_X8_26 : Cond.fieldLink RX8 26 "TypeKernelModel" "termKind" "[I" ∈ TB := tb4 (List.mem_of_getElem? (i := 106) rfl) rfl
theorem wf_X8_29 : Cond.fieldLink RX8 29 "TypeKernelModel" "partA" "[I" ∈ TB := tb4 (List.mem_of_getElem? (i := 107) rfl) rfl
theorem wf_X8_32 : Cond.fieldLink RX8 32 "TypeKernelModel" "partB" "[I" ∈ TB := tb4 (List.mem_of_getElem? (i := 108) rfl) rfl
theorem wf_X8_35 : Cond.fieldLink RX8 35 "TypeKernelModel" "partC" "[I" ∈ TB := tb4 (List.mem_of_getElem? (i := 109) rfl) rfl
theorem wf_X8_38 : Cond.fieldLink RX8 38 "TypeKernelModel" "termSize" "[I" ∈ TB := tb4 (List.mem_of_getElem? (i := 110) rfl) rfl
theorem wf_X8_41 : Cond.fieldLink RX8 41 "TypeKernelModel" "termOpen" "[I" ∈ TB := tb4 (List.mem_of_getElem? (i := 111) rfl) rfl
theorem wf_X8_109 : Cond.fieldLink RX8 109 "TypeKernelModel" "terms" "I" ∈ TB := tb4 (List.mem_of_getElem? (i := 112) rfl) rfl
theorem wf_X8_44 : Cond.fieldLink RX8 44 "TypeKernelModel" "nameParameters" "[I" ∈ TB := tb4 (List.mem_of_getElem? (i := 113) rfl) rfl
theorem wf_X8_47 : Cond.fieldLink RX8 47 "TypeKernelModel" "nameType" "[I" ∈ TB := tb4 (List.mem_of_getElem? (i := 114) rfl) rfl
theorem wf_X8_50 : Cond.fieldLink RX8 50 "TypeKernelModel" "nameValue" "[I" ∈ TB := tb4 (List.mem_of_getElem? (i := 115) rfl) rfl
theorem wf_X8_112 : Cond.fieldLink RX8 112 "TypeKernelModel" "names" "I" ∈ TB := tb4 (List.mem_of_getElem? (i := 116) rfl) rfl
theorem wf_X8_53 : Cond.fieldLink RX8 53 "TypeKernelModel" "term" "[I" ∈ TB := tb4 (List.mem_of_getElem? (i := 117) rfl) rfl
theorem wf_X8_56 : Cond.fieldLink RX8 56 "TypeKernelModel" "now" "[I" ∈ TB := tb4 (List.mem_of_getElem? (i := 118) rfl) rfl
theorem wf_X8_59 : Cond.fieldLink RX8 59 "TypeKernelModel" "next" "[I" ∈ TB := tb4 (List.mem_of_getElem? (i := 119) rfl) rfl
theorem wf_X8_62 : Cond.fieldLink RX8 62 "TypeKernelModel" "told" "[I" ∈ TB := tb4 (List.mem_of_getElem? (i := 120) rfl) rfl
theorem wf_X8_66 : Cond.fieldLink RX8 66 "TypeKernelModel" "pool" "[I" ∈ TB := tb4 (List.mem_of_getElem? (i := 121) rfl) rfl
theorem wf_X8_186 : Cond.fieldLink RX8 186 "TypeKernelModel" "nowSize" "I" ∈ TB := tb4 (List.mem_of_getElem? (i := 122) rfl) rfl
theorem wf_X8_159 : Cond.fieldLink RX8 159 "TypeKernelModel" "nextSize" "I" ∈ TB := tb4 (List.mem_of_getElem? (i := 123) rfl) rfl
theorem wf_X8_179 : Cond.fieldLink RX8 179 "TypeKernelModel" "toldSize" "I" ∈ TB := tb4 (List.mem_of_getElem? (i := 124) rfl) rfl
theorem wf_X8_228 : Cond.fieldLink RX8 228 "TypeKernelModel" "top" "I" ∈ TB := tb4 (List.mem_of_getElem? (i := 125) rfl) rfl
theorem wf_X8_69 : Cond.fieldLink RX8 69 "TypeKernelModel" "stack" "[I" ∈ TB := tb4 (List.mem_of_getElem? (i := 126) rfl) rfl
theorem wf_X8_72 : Cond.fieldLink RX8 72 "TypeKernelModel" "deeper" "[I" ∈ TB := tb4 (List.mem_of_getElem? (i := 127) rfl) rfl
theorem wf_X8_75 : Cond.fieldLink RX8 75 "TypeKernelModel" "work" "[I" ∈ TB := tb4 (List.mem_of_getElem? (i := 128) rfl) rfl
theorem wf_X8_78 : Cond.fieldLink RX8 78 "TypeKernelModel" "isAsked" "Z" ∈ TB := tb4 (List.mem_of_getElem? (i := 129) rfl) rfl
theorem wf_X8_162 : Cond.fieldLink RX8 162 "TypeKernelModel" "wide" "Z" ∈ TB := tb4 (List.mem_of_getElem? (i := 130) rfl) rfl
theorem wf_X8_82 : Cond.fieldLink RX8 82 "TypeKernelModel" "places" "[I" ∈ TB := tb4 (List.mem_of_getElem? (i := 131) rfl) rfl
theorem wf_X8_85 : Cond.fieldLink RX8 85 "TypeKernelModel" "binders" "[I" ∈ TB := tb4 (List.mem_of_getElem? (i := 132) rfl) rfl
theorem wf_X8_261 : Cond.fieldLink RX8 261 "TypeKernelModel" "binderCount" "I" ∈ TB := tb4 (List.mem_of_getElem? (i := 133) rfl) rfl
theorem wf_X8_88 : Cond.fieldLink RX8 88 "TypeKernelModel" "openKind" "[I" ∈ TB := tb4 (List.mem_of_getElem? (i := 134) rfl) rfl
theorem wf_X8_91 : Cond.fieldLink RX8 91 "TypeKernelModel" "openHas" "[I" ∈ TB := tb4 (List.mem_of_getElem? (i := 135) rfl) rfl
theorem wf_X8_94 : Cond.fieldLink RX8 94 "TypeKernelModel" "openParts" "[I" ∈ TB := tb4 (List.mem_of_getElem? (i := 136) rfl) rfl
theorem wf_X8_273 : Cond.fieldLink RX8 273 "TypeKernelModel" "readEnd" "I" ∈ TB := tb4 (List.mem_of_getElem? (i := 137) rfl) rfl
theorem wf_X8_97 : Cond.fieldLink RX8 97 "TypeKernelModel" "levelOpen" "[I" ∈ TB := tb4 (List.mem_of_getElem? (i := 138) rfl) rfl
theorem wf_X8_100 : Cond.fieldLink RX8 100 "TypeKernelModel" "levelFirst" "[I" ∈ TB := tb4 (List.mem_of_getElem? (i := 139) rfl) rfl
theorem wy_X8_code : Cond.lays RX8 "TypeKernelModel" "code" "I" ∈ TB := tb4 (List.mem_of_getElem? (i := 140) rfl) rfl
theorem wy_X8_levelKind : Cond.laysFinal RX8 "TypeKernelModel" "levelKind" "[I" ∈ TB := tb4 (List.mem_of_getElem? (i := 142) rfl) rfl
theorem wy_X8_levelA : Cond.laysFinal RX8 "TypeKernelModel" "levelA" "[I" ∈ TB := tb4 (List.mem_of_getElem? (i := 144) rfl) rfl
theorem wy_X8_levelB : Cond.laysFinal RX8 "TypeKernelModel" "levelB" "[I" ∈ TB := tb4 (List.mem_of_getElem? (i := 146) rfl) rfl
theorem wy_X8_levelSize : Cond.laysFinal RX8 "TypeKernelModel" "levelSize" "[I" ∈ TB := tb4 (List.mem_of_getElem? (i := 148) rfl) rfl
theorem wy_X8_levels : Cond.lays RX8 "TypeKernelModel" "levels" "I" ∈ TB := tb4 (List.mem_of_getElem? (i := 150) rfl) rfl
theorem wy_X8_termKind : Cond.laysFinal RX8 "TypeKernelModel" "termKind" "[I" ∈ TB := tb4 (List.mem_of_getElem? (i := 152) rfl) rfl
theorem wy_X8_partA : Cond.laysFinal RX8 "TypeKernelModel" "partA" "[I" ∈ TB := tb4 (List.mem_of_getElem? (i := 154) rfl) rfl
theorem wy_X8_partB : Cond.laysFinal RX8 "TypeKernelModel" "partB" "[I" ∈ TB := tb4 (List.mem_of_getElem? (i := 156) rfl) rfl
theorem wy_X8_partC : Cond.laysFinal RX8 "TypeKernelModel" "partC" "[I" ∈ TB := tb4 (List.mem_of_getElem? (i := 158) rfl) rfl
theorem wy_X8_termSize : Cond.laysFinal RX8 "TypeKernelModel" "termSize" "[I" ∈ TB := tb4 (List.mem_of_getElem? (i := 160) rfl) rfl
theorem wy_X8_termOpen : Cond.laysFinal RX8 "TypeKernelModel" "termOpen" "[I" ∈ TB := tb4 (List.mem_of_getElem? (i := 162) rfl) rfl
theorem wy_X8_terms : Cond.lays RX8 "TypeKernelModel" "terms" "I" ∈ TB := tb4 (List.mem_of_getElem? (i := 164) rfl) rfl
theorem wy_X8_nameParameters : Cond.laysFinal RX8 "TypeKernelModel" "nameParameters" "[I" ∈ TB := tb4 (List.mem_of_getElem? (i := 166) rfl) rfl
theorem wy_X8_nameType : Cond.laysFinal RX8 "TypeKernelModel" "nameType" "[I" ∈ TB := tb4 (List.mem_of_getElem? (i := 168) rfl) rfl
theorem wy_X8_nameValue : Cond.laysFinal RX8 "TypeKernelModel" "nameValue" "[I" ∈ TB := tb4 (List.mem_of_getElem? (i := 170) rfl) rfl
theorem wy_X8_names : Cond.lays RX8 "TypeKernelModel" "names" "I" ∈ TB := tb4 (List.mem_of_getElem? (i := 172) rfl) rfl
theorem wy_X8_term : Cond.laysFinal RX8 "TypeKernelModel" "term" "[I" ∈ TB := tb4 (List.mem_of_getElem? (i := 174) rfl) rfl
theorem wy_X8_now : Cond.laysFinal RX8 "TypeKernelModel" "now" "[I" ∈ TB := tb4 (List.mem_of_getElem? (i := 176) rfl) rfl
theorem wy_X8_next : Cond.laysFinal RX8 "TypeKernelModel" "next" "[I" ∈ TB := tb4 (List.mem_of_getElem? (i := 178) rfl) rfl
theorem wy_X8_told : Cond.laysFinal RX8 "TypeKernelModel" "told" "[I" ∈ TB := tb4 (List.mem_of_getElem? (i := 180) rfl) rfl
theorem wy_X8_pool : Cond.laysFinal RX8 "TypeKernelModel" "pool" "[I" ∈ TB := tb4 (List.mem_of_getElem? (i := 182) rfl) rfl
theorem wy_X8_nowSize : Cond.lays RX8 "TypeKernelModel" "nowSize" "I" ∈ TB := tb4 (List.mem_of_getElem? (i := 184) rfl) rfl
theorem wy_X8_nextSize : Cond.lays RX8 "TypeKernelModel" "nextSize" "I" ∈ TB := tb4 (List.mem_of_getElem? (i := 186) rfl) rfl
theorem wy_X8_toldSize : Cond.lays RX8 "TypeKernelModel" "toldSize" "I" ∈ TB := tb4 (List.mem_of_getElem? (i := 188) rfl) rfl
theorem wy_X8_top : Cond.lays RX8 "TypeKernelModel" "top" "I" ∈ TB := tb4 (List.mem_of_getElem? (i := 190) rfl) rfl
theorem wy_X8_stack : Cond.laysFinal RX8 "TypeKernelModel" "stack" "[I" ∈ TB := tb4 (List.mem_of_getElem? (i := 192) rfl) rfl
theorem wy_X8_deeper : Cond.laysFinal RX8 "TypeKernelModel" "deeper" "[I" ∈ TB := tb4 (List.mem_of_getElem? (i := 194) rfl) rfl
theorem wy_X8_work : Cond.laysFinal RX8 "TypeKernelModel" "work" "[I" ∈ TB := tb4 (List.mem_of_getElem? (i := 196) rfl) rfl
theorem wy_X8_isAsked : Cond.lays RX8 "TypeKernelModel" "isAsked" "Z" ∈ TB := tb4 (List.mem_of_getElem? (i := 198) rfl) rfl
theorem wy_X8_wide : Cond.lays RX8 "TypeKernelModel" "wide" "Z" ∈ TB := tb4 (List.mem_of_getElem? (i := 200) rfl) rfl
theorem wy_X8_places : Cond.laysFinal RX8 "TypeKernelModel" "places" "[I" ∈ TB := tb4 (List.mem_of_getElem? (i := 202) rfl) rfl
theorem wy_X8_binders : Cond.laysFinal RX8 "TypeKernelModel" "binders" "[I" ∈ TB := tb4 (List.mem_of_getElem? (i := 204) rfl) rfl
theorem wy_X8_binderCount : Cond.lays RX8 "TypeKernelModel" "binderCount" "I" ∈ TB := tb4 (List.mem_of_getElem? (i := 206) rfl) rfl
theorem wy_X8_openKind : Cond.laysFinal RX8 "TypeKernelModel" "openKind" "[I" ∈ TB := tb4 (List.mem_of_getElem? (i := 208) rfl) rfl
theorem wy_X8_openHas : Cond.laysFinal RX8 "TypeKernelModel" "openHas" "[I" ∈ TB := tb4 (List.mem_of_getElem? (i := 210) rfl) rfl
theorem wy_X8_openParts : Cond.laysFinal RX8 "TypeKernelModel" "openParts" "[I" ∈ TB := tb4 (List.mem_of_getElem? (i := 212) rfl) rfl
theorem wy_X8_readEnd : Cond.lays RX8 "TypeKernelModel" "readEnd" "I" ∈ TB := tb4 (List.mem_of_getElem? (i := 214) rfl) rfl
theorem wy_X8_levelOpen : Cond.laysFinal RX8 "TypeKernelModel" "levelOpen" "[I" ∈ TB := tb4 (List.mem_of_getElem? (i := 216) rfl) rfl
theorem wy_X8_levelFirst : Cond.laysFinal RX8 "TypeKernelModel" "levelFirst" "[I" ∈ TB := tb4 (List.mem_of_getElem? (i := 218) rfl) rfl
theorem wl_L_78 : Cond.methodLink RL 78 yX8_thrown ∈ TB := tb4 (List.mem_of_getElem? (i := 221) rfl) rfl
theorem wi_X8_thrown : Cond.instanceMethod yX8_thrown ∈ TB := tb4 (List.mem_of_getElem? (i := 222) rfl) rfl
theorem we_X8_thrown : Cond.selects RX8 yX8_thrown yX8_thrown ∈ TB := tb4 (List.mem_of_getElem? (i := 223) rfl) rfl
theorem wc_X8_thrown : Cond.code yX8_thrown cX8_thrown 1 (some .int) ∈ TB := tb4 (List.mem_of_getElem? (i := 224) rfl) rfl
theorem wl_L_137 : Cond.methodLink RL 137 yX8_clear ∈ TB := tb4 (List.mem_of_getElem? (i := 225) rfl) rfl
theorem wl_L_77 : Cond.methodLink RL 77 yX8_level ∈ TB := tb4 (List.mem_of_getElem? (i := 226) rfl) rfl
theorem wi_X8_level : Cond.instanceMethod yX8_level ∈ TB := tb4 (List.mem_of_getElem? (i := 227) rfl) rfl
theorem we_X8_level : Cond.selects RX8 yX8_level yX8_level ∈ TB := tb4 (List.mem_of_getElem? (i := 228) rfl) rfl
theorem wc_X8_level : Cond.code yX8_level cX8_level 5 (some .int) ∈ TB := tb4 (List.mem_of_getElem? (i := 229) rfl) rfl
theorem wl_X8_115 : Cond.methodLink RX8 115 yX8_isIn ∈ TB := tb4 (List.mem_of_getElem? (i := 230) rfl) rfl
theorem wt_X8_isIn : Cond.static yX8_isIn ∈ TB := tb4 (List.mem_of_getElem? (i := 231) rfl) rfl
theorem wc_X8_isIn : Cond.code yX8_isIn cX8_isIn 3 (some .boolean) ∈ TB := tb4 (List.mem_of_getElem? (i := 232) rfl) rfl
theorem wl_X8_123 : Cond.methodLink RX8 123 yX8_isLevel ∈ TB := tb4 (List.mem_of_getElem? (i := 233) rfl) rfl
theorem wi_X8_isLevel : Cond.instanceMethod yX8_isLevel ∈ TB := tb4 (List.mem_of_getElem? (i := 235) rfl) rfl
theorem wc_X8_isLevel : Cond.code yX8_isLevel cX8_isLevel 2 (some .boolean) ∈ TB := tb4 (List.mem_of_getElem? (i := 236) rfl) rfl
theorem wl_X8_127 : Cond.methodLink RX8 127 yX8_numberOfLevel ∈ TB := tb4 (List.mem_of_getElem? (i := 237) rfl) rfl
theorem wi_X8_numberOfLevel : Cond.instanceMethod yX8_numberOfLevel ∈ TB := tb4 (List.mem_of_getElem? (i := 239) rfl) rfl
theorem wc_X8_numberOfLevel : Cond.code yX8_numberOfLevel cX8_numberOfLevel 6 (some .int) ∈ TB := tb5 (List.mem_of_getElem? (i := 0) rfl) rfl
theorem wl_L_93 : Cond.methodLink RL 93 yX8_sort ∈ TB := tb5 (List.mem_of_getElem? (i := 1) rfl) rfl
theorem wi_X8_sort : Cond.instanceMethod yX8_sort ∈ TB := tb5 (List.mem_of_getElem? (i := 2) rfl) rfl
theorem we_X8_sort : Cond.selects RX8 yX8_sort yX8_sort ∈ TB := tb5 (List.mem_of_getElem? (i := 3) rfl) rfl
theorem wc_X8_sort : Cond.code yX8_sort cX8_sort 2 (some .int) ∈ TB := tb5 (List.mem_of_getElem? (i := 4) rfl) rfl
theorem wl_X8_131 : Cond.methodLink RX8 131 yX8_numberOfTerm ∈ TB := tb5 (List.mem_of_getElem? (i := 5) rfl) rfl
theorem wi_X8_numberOfTerm : Cond.instanceMethod yX8_numberOfTerm ∈ TB := tb5 (List.mem_of_getElem? (i := 7) rfl) rfl
theorem wc_X8_numberOfTerm : Cond.code yX8_numberOfTerm cX8_numberOfTerm 7 (some .int) ∈ TB := tb5 (List.mem_of_getElem? (i := 8) rfl) rfl
theorem wl_X8_119 : Cond.methodLink RX8 119 yX8_openOf ∈ TB := tb5 (List.mem_of_getElem? (i := 9) rfl) rfl
theorem wi_X8_openOf : Cond.instanceMethod yX8_openOf ∈ TB := tb5 (List.mem_of_getElem? (i := 11) rfl) rfl
theorem wc_X8_openOf : Cond.code yX8_openOf cX8_openOf 8 (some .int) ∈ TB := tb5 (List.mem_of_getElem? (i := 12) rfl) rfl
theorem wl_X8_134 : Cond.methodLink RX8 134 yX8_orFull ∈ TB := tb5 (List.mem_of_getElem? (i := 13) rfl) rfl
theorem wi_X8_orFull : Cond.instanceMethod yX8_orFull ∈ TB := tb5 (List.mem_of_getElem? (i := 15) rfl) rfl
theorem wc_X8_orFull : Cond.code yX8_orFull cX8_orFull 3 (some .int) ∈ TB := tb5 (List.mem_of_getElem? (i := 16) rfl) rfl
theorem wl_L_96 : Cond.methodLink RL 96 yX8_variable ∈ TB := tb5 (List.mem_of_getElem? (i := 17) rfl) rfl
theorem wi_X8_variable : Cond.instanceMethod yX8_variable ∈ TB := tb5 (List.mem_of_getElem? (i := 18) rfl) rfl
theorem we_X8_variable : Cond.selects RX8 yX8_variable yX8_variable ∈ TB := tb5 (List.mem_of_getElem? (i := 19) rfl) rfl
theorem wc_X8_variable : Cond.code yX8_variable cX8_variable 2 (some .int) ∈ TB := tb5 (List.mem_of_getElem? (i := 20) rfl) rfl
theorem wl_L_99 : Cond.methodLink RL 99 yX8_name ∈ TB := tb5 (List.mem_of_getElem? (i := 21) rfl) rfl
theorem wi_X8_name : Cond.instanceMethod yX8_name ∈ TB := tb5 (List.mem_of_getElem? (i := 22) rfl) rfl
theorem we_X8_name : Cond.selects RX8 yX8_name yX8_name ∈ TB := tb5 (List.mem_of_getElem? (i := 23) rfl) rfl
theorem wc_X8_name : Cond.code yX8_name cX8_name 4 (some .int) ∈ TB := tb5 (List.mem_of_getElem? (i := 24) rfl) rfl
theorem wl_X8_138 : Cond.methodLink RX8 138 yX8_isName ∈ TB := tb5 (List.mem_of_getElem? (i := 25) rfl) rfl
theorem wi_X8_isName : Cond.instanceMethod yX8_isName ∈ TB := tb5 (List.mem_of_getElem? (i := 27) rfl) rfl
theorem wc_X8_isName : Cond.code yX8_isName cX8_isName 2 (some .boolean) ∈ TB := tb5 (List.mem_of_getElem? (i := 28) rfl) rfl
theorem wl_L_102 : Cond.methodLink RL 102 yX8_term ∈ TB := tb5 (List.mem_of_getElem? (i := 29) rfl) rfl
theorem wi_X8_term : Cond.instanceMethod yX8_term ∈ TB := tb5 (List.mem_of_getElem? (i := 30) rfl) rfl
theorem we_X8_term : Cond.selects RX8 yX8_term yX8_term ∈ TB := tb5 (List.mem_of_getElem? (i := 31) rfl) rfl
theorem wc_X8_term : Cond.code yX8_term cX8_term 4 (some .int) ∈ TB := tb5 (List.mem_of_getElem? (i := 32) rfl) rfl
theorem wl_X8_141 : Cond.methodLink RX8 141 yX8_isTerm ∈ TB := tb5 (List.mem_of_getElem? (i := 33) rfl) rfl
theorem wi_X8_isTerm : Cond.instanceMethod yX8_isTerm ∈ TB := tb5 (List.mem_of_getElem? (i := 35) rfl) rfl
theorem wc_X8_isTerm : Cond.code yX8_isTerm cX8_isTerm 2 (some .boolean) ∈ TB := tb5 (List.mem_of_getElem? (i := 36) rfl) rfl
theorem wl_L_105 : Cond.methodLink RL 105 yX8_let ∈ TB := tb5 (List.mem_of_getElem? (i := 37) rfl) rfl
theorem wi_X8_let : Cond.instanceMethod yX8_let ∈ TB := tb5 (List.mem_of_getElem? (i := 38) rfl) rfl
theorem we_X8_let : Cond.selects RX8 yX8_let yX8_let ∈ TB := tb5 (List.mem_of_getElem? (i := 39) rfl) rfl
theorem wc_X8_let : Cond.code yX8_let cX8_let 4 (some .int) ∈ TB := tb5 (List.mem_of_getElem? (i := 40) rfl) rfl
theorem wl_L_108 : Cond.methodLink RL 108 yX8_type ∈ TB := tb5 (List.mem_of_getElem? (i := 41) rfl) rfl
theorem wi_X8_type : Cond.instanceMethod yX8_type ∈ TB := tb5 (List.mem_of_getElem? (i := 42) rfl) rfl
theorem we_X8_type : Cond.selects RX8 yX8_type yX8_type ∈ TB := tb5 (List.mem_of_getElem? (i := 43) rfl) rfl
theorem wc_X8_type : Cond.code yX8_type cX8_type 3 (some .int) ∈ TB := tb5 (List.mem_of_getElem? (i := 44) rfl) rfl
theorem wl_X8_285 : Cond.methodLink RX8 285 yX8_begin ∈ TB := tb5 (List.mem_of_getElem? (i := 45) rfl) rfl
theorem wi_X8_begin : Cond.instanceMethod yX8_begin ∈ TB := tb5 (List.mem_of_getElem? (i := 47) rfl) rfl
theorem wc_X8_begin : Cond.code yX8_begin cX8_begin 3 none ∈ TB := tb5 (List.mem_of_getElem? (i := 48) rfl) rfl
theorem wl_X8_176 : Cond.methodLink RX8 176 yX8_layTerm ∈ TB := tb5 (List.mem_of_getElem? (i := 49) rfl) rfl
theorem wi_X8_layTerm : Cond.instanceMethod yX8_layTerm ∈ TB := tb5 (List.mem_of_getElem? (i := 51) rfl) rfl
theorem wc_X8_layTerm : Cond.code yX8_layTerm cX8_layTerm 7 (some .int) ∈ TB := tb5 (List.mem_of_getElem? (i := 52) rfl) rfl
theorem wl_X8_155 : Cond.methodLink RX8 155 yX8_layLevel ∈ TB := tb5 (List.mem_of_getElem? (i := 53) rfl) rfl
theorem wi_X8_layLevel : Cond.instanceMethod yX8_layLevel ∈ TB := tb5 (List.mem_of_getElem? (i := 55) rfl) rfl
theorem wc_X8_layLevel : Cond.code yX8_layLevel cX8_layLevel 7 (some .int) ∈ TB := tb5 (List.mem_of_getElem? (i := 56) rfl) rfl
theorem wl_X8_240 : Cond.methodLink RX8 240 yX8_typeOf ∈ TB := tb5 (List.mem_of_getElem? (i := 57) rfl) rfl
theorem wi_X8_typeOf : Cond.instanceMethod yX8_typeOf ∈ TB := tb5 (List.mem_of_getElem? (i := 59) rfl) rfl
theorem wc_X8_typeOf : Cond.code yX8_typeOf cX8_typeOf 2 (some .int) ∈ TB := tb5 (List.mem_of_getElem? (i := 60) rfl) rfl
theorem wl_X8_246 : Cond.methodLink RX8 246 yX8_typeOfSingle ∈ TB := tb5 (List.mem_of_getElem? (i := 61) rfl) rfl
theorem wi_X8_typeOfSingle : Cond.instanceMethod yX8_typeOfSingle ∈ TB := tb5 (List.mem_of_getElem? (i := 63) rfl) rfl
theorem wc_X8_typeOfSingle : Cond.code yX8_typeOfSingle cX8_typeOfSingle 3 (some .int) ∈ TB := tb5 (List.mem_of_getElem? (i := 64) rfl) rfl
theorem wl_X8_165 : Cond.methodLink RX8 165 yX8_put ∈ TB := tb5 (List.mem_of_getElem? (i := 65) rfl) rfl
theorem wi_X8_put : Cond.instanceMethod yX8_put ∈ TB := tb5 (List.mem_of_getElem? (i := 67) rfl) rfl
theorem wc_X8_put : Cond.code yX8_put cX8_put 2 none ∈ TB := tb5 (List.mem_of_getElem? (i := 68) rfl) rfl
theorem wl_X8_144 : Cond.methodLink RX8 144 yX8_behindLevel ∈ TB := tb5 (List.mem_of_getElem? (i := 69) rfl) rfl
theorem wt_X8_behindLevel : Cond.static yX8_behindLevel ∈ TB := tb5 (List.mem_of_getElem? (i := 70) rfl) rfl
theorem wc_X8_behindLevel : Cond.code yX8_behindLevel cX8_behindLevel 4 (some .int) ∈ TB := tb5 (List.mem_of_getElem? (i := 71) rfl) rfl
theorem wl_X8_169 : Cond.methodLink RX8 169 yX8_copy ∈ TB := tb5 (List.mem_of_getElem? (i := 72) rfl) rfl
theorem wi_X8_copy : Cond.instanceMethod yX8_copy ∈ TB := tb5 (List.mem_of_getElem? (i := 74) rfl) rfl
theorem wc_X8_copy : Cond.code yX8_copy cX8_copy 5 none ∈ TB := tb5 (List.mem_of_getElem? (i := 75) rfl) rfl
theorem wl_X8_173 : Cond.methodLink RX8 173 yX8_lift ∈ TB := tb5 (List.mem_of_getElem? (i := 76) rfl) rfl
theorem wi_X8_lift : Cond.instanceMethod yX8_lift ∈ TB := tb5 (List.mem_of_getElem? (i := 78) rfl) rfl
theorem wc_X8_lift : Cond.code yX8_lift cX8_lift 10 none ∈ TB := tb5 (List.mem_of_getElem? (i := 79) rfl) rfl
theorem wl_X8_152 : Cond.methodLink RX8 152 yX8_behindToken ∈ TB := tb5 (List.mem_of_getElem? (i := 80) rfl) rfl
theorem wt_X8_behindToken : Cond.static yX8_behindToken ∈ TB := tb5 (List.mem_of_getElem? (i := 81) rfl) rfl
theorem wc_X8_behindToken : Cond.code yX8_behindToken cX8_behindToken 2 (some .int) ∈ TB := tb5 (List.mem_of_getElem? (i := 82) rfl) rfl
theorem wl_X8_148 : Cond.methodLink RX8 148 yX8_partsOf ∈ TB := tb5 (List.mem_of_getElem? (i := 83) rfl) rfl
theorem wt_X8_partsOf : Cond.static yX8_partsOf ∈ TB := tb5 (List.mem_of_getElem? (i := 84) rfl) rfl
theorem wc_X8_partsOf : Cond.code yX8_partsOf cX8_partsOf 1 (some .int) ∈ TB := tb5 (List.mem_of_getElem? (i := 85) rfl) rfl
theorem wl_X8_200 : Cond.methodLink RX8 200 yX8_named ∈ TB := tb5 (List.mem_of_getElem? (i := 86) rfl) rfl
theorem wi_X8_named : Cond.instanceMethod yX8_named ∈ TB := tb5 (List.mem_of_getElem? (i := 88) rfl) rfl
theorem wc_X8_named : Cond.code yX8_named cX8_named 6 none ∈ TB := tb5 (List.mem_of_getElem? (i := 89) rfl) rfl
theorem wl_X8_182 : Cond.methodLink RX8 182 yX8_withLevels ∈ TB := tb5 (List.mem_of_getElem? (i := 90) rfl) rfl
theorem wi_X8_withLevels : Cond.instanceMethod yX8_withLevels ∈ TB := tb5 (List.mem_of_getElem? (i := 92) rfl) rfl
theorem wc_X8_withLevels : Cond.code yX8_withLevels cX8_withLevels 8 none ∈ TB := tb5 (List.mem_of_getElem? (i := 93) rfl) rfl
theorem wl_X8_264 : Cond.methodLink RX8 264 yX8_settle ∈ TB := tb5 (List.mem_of_getElem? (i := 94) rfl) rfl
theorem wi_X8_settle : Cond.instanceMethod yX8_settle ∈ TB := tb5 (List.mem_of_getElem? (i := 96) rfl) rfl
theorem wc_X8_settle : Cond.code yX8_settle cX8_settle 2 (some .int) ∈ TB := tb5 (List.mem_of_getElem? (i := 97) rfl) rfl
theorem wl_X8_193 : Cond.methodLink RX8 193 yX8_fits ∈ TB := tb5 (List.mem_of_getElem? (i := 98) rfl) rfl
theorem wt_X8_fits : Cond.static yX8_fits ∈ TB := tb5 (List.mem_of_getElem? (i := 99) rfl) rfl
theorem wc_X8_fits : Cond.code yX8_fits cX8_fits 8 (some .boolean) ∈ TB := tb5 (List.mem_of_getElem? (i := 100) rfl) rfl
theorem wl_X8_231 : Cond.methodLink RX8 231 yX8_push ∈ TB := tb5 (List.mem_of_getElem? (i := 101) rfl) rfl
theorem wi_X8_push : Cond.instanceMethod yX8_push ∈ TB := tb5 (List.mem_of_getElem? (i := 103) rfl) rfl
theorem wc_X8_push : Cond.code yX8_push cX8_push 5 none ∈ TB := tb5 (List.mem_of_getElem? (i := 104) rfl) rfl
theorem wl_X8_249 : Cond.methodLink RX8 249 yX8_typeOfPi ∈ TB := tb5 (List.mem_of_getElem? (i := 105) rfl) rfl
theorem wi_X8_typeOfPi : Cond.instanceMethod yX8_typeOfPi ∈ TB := tb5 (List.mem_of_getElem? (i := 107) rfl) rfl
theorem wc_X8_typeOfPi : Cond.code yX8_typeOfPi cX8_typeOfPi 5 (some .int) ∈ TB := tb5 (List.mem_of_getElem? (i := 108) rfl) rfl
theorem wl_X8_267 : Cond.methodLink RX8 267 yX8_ofSort ∈ TB := tb5 (List.mem_of_getElem? (i := 109) rfl) rfl
theorem wi_X8_ofSort : Cond.instanceMethod yX8_ofSort ∈ TB := tb5 (List.mem_of_getElem? (i := 111) rfl) rfl
theorem wc_X8_ofSort : Cond.code yX8_ofSort cX8_ofSort 4 (some .int) ∈ TB := tb5 (List.mem_of_getElem? (i := 112) rfl) rfl
theorem wl_X8_243 : Cond.methodLink RX8 243 yX8_normalAt ∈ TB := tb5 (List.mem_of_getElem? (i := 113) rfl) rfl
theorem wi_X8_normalAt : Cond.instanceMethod yX8_normalAt ∈ TB := tb5 (List.mem_of_getElem? (i := 115) rfl) rfl
theorem wc_X8_normalAt : Cond.code yX8_normalAt cX8_normalAt 2 (some .int) ∈ TB := tb5 (List.mem_of_getElem? (i := 116) rfl) rfl
theorem wl_X8_234 : Cond.methodLink RX8 234 yX8_load ∈ TB := tb5 (List.mem_of_getElem? (i := 117) rfl) rfl
theorem wi_X8_load : Cond.instanceMethod yX8_load ∈ TB := tb5 (List.mem_of_getElem? (i := 119) rfl) rfl
theorem wc_X8_load : Cond.code yX8_load cX8_load 5 none ∈ TB := tb5 (List.mem_of_getElem? (i := 120) rfl) rfl
theorem wl_X8_237 : Cond.methodLink RX8 237 yX8_normalize ∈ TB := tb5 (List.mem_of_getElem? (i := 121) rfl) rfl
theorem wi_X8_normalize : Cond.instanceMethod yX8_normalize ∈ TB := tb5 (List.mem_of_getElem? (i := 123) rfl) rfl
theorem wc_X8_normalize : Cond.code yX8_normalize cX8_normalize 5 (some .int) ∈ TB := tb5 (List.mem_of_getElem? (i := 124) rfl) rfl
theorem wl_X8_189 : Cond.methodLink RX8 189 yX8_stepAt ∈ TB := tb5 (List.mem_of_getElem? (i := 125) rfl) rfl
theorem wi_X8_stepAt : Cond.instanceMethod yX8_stepAt ∈ TB := tb5 (List.mem_of_getElem? (i := 127) rfl) rfl
theorem wc_X8_stepAt : Cond.code yX8_stepAt cX8_stepAt 3 (some .int) ∈ TB := tb5 (List.mem_of_getElem? (i := 128) rfl) rfl
theorem wl_X8_197 : Cond.methodLink RX8 197 yX8_behindTerm ∈ TB := tb5 (List.mem_of_getElem? (i := 129) rfl) rfl
theorem wt_X8_behindTerm : Cond.static yX8_behindTerm ∈ TB := tb5 (List.mem_of_getElem? (i := 130) rfl) rfl
theorem wc_X8_behindTerm : Cond.code yX8_behindTerm cX8_behindTerm 4 (some .int) ∈ TB := tb5 (List.mem_of_getElem? (i := 131) rfl) rfl
theorem wl_X8_204 : Cond.methodLink RX8 204 yX8_with ∈ TB := tb5 (List.mem_of_getElem? (i := 132) rfl) rfl
theorem wi_X8_with : Cond.instanceMethod yX8_with ∈ TB := tb5 (List.mem_of_getElem? (i := 134) rfl) rfl
theorem wc_X8_with : Cond.code yX8_with cX8_with 11 none ∈ TB := tb5 (List.mem_of_getElem? (i := 135) rfl) rfl
theorem wl_X8_208 : Cond.methodLink RX8 208 yX8_take ∈ TB := tb5 (List.mem_of_getElem? (i := 136) rfl) rfl
theorem wi_X8_take : Cond.instanceMethod yX8_take ∈ TB := tb5 (List.mem_of_getElem? (i := 138) rfl) rfl
theorem wc_X8_take : Cond.code yX8_take cX8_take 2 none ∈ TB := tb5 (List.mem_of_getElem? (i := 139) rfl) rfl
theorem wl_X8_211 : Cond.methodLink RX8 211 yX8_shorten ∈ TB := tb5 (List.mem_of_getElem? (i := 140) rfl) rfl
theorem wi_X8_shorten : Cond.instanceMethod yX8_shorten ∈ TB := tb5 (List.mem_of_getElem? (i := 142) rfl) rfl
theorem wc_X8_shorten : Cond.code yX8_shorten cX8_shorten 6 none ∈ TB := tb5 (List.mem_of_getElem? (i := 143) rfl) rfl
theorem wl_X8_214 : Cond.methodLink RX8 214 yX8_has ∈ TB := tb5 (List.mem_of_getElem? (i := 144) rfl) rfl
theorem wi_X8_has : Cond.instanceMethod yX8_has ∈ TB := tb5 (List.mem_of_getElem? (i := 146) rfl) rfl
theorem wc_X8_has : Cond.code yX8_has cX8_has 8 (some .boolean) ∈ TB := tb5 (List.mem_of_getElem? (i := 147) rfl) rfl
theorem wl_X8_252 : Cond.methodLink RX8 252 yX8_typeOfLambda ∈ TB := tb5 (List.mem_of_getElem? (i := 148) rfl) rfl
theorem wi_X8_typeOfLambda : Cond.instanceMethod yX8_typeOfLambda ∈ TB := tb5 (List.mem_of_getElem? (i := 150) rfl) rfl
theorem wc_X8_typeOfLambda : Cond.code yX8_typeOfLambda cX8_typeOfLambda 5 (some .int) ∈ TB := tb5 (List.mem_of_getElem? (i := 151) rfl) rfl
theorem wl_X8_255 : Cond.methodLink RX8 255 yX8_typeOfApply ∈ TB := tb5 (List.mem_of_getElem? (i := 152) rfl) rfl
theorem wi_X8_typeOfApply : Cond.instanceMethod yX8_typeOfApply ∈ TB := tb5 (List.mem_of_getElem? (i := 154) rfl) rfl
theorem wc_X8_typeOfApply : Cond.code yX8_typeOfApply cX8_typeOfApply 6 (some .int) ∈ TB := tb5 (List.mem_of_getElem? (i := 155) rfl) rfl
theorem wl_X8_270 : Cond.methodLink RX8 270 yX8_isSame ∈ TB := tb5 (List.mem_of_getElem? (i := 156) rfl) rfl
theorem wi_X8_isSame : Cond.instanceMethod yX8_isSame ∈ TB := tb5 (List.mem_of_getElem? (i := 158) rfl) rfl
theorem wc_X8_isSame : Cond.code yX8_isSame cX8_isSame 9 (some .boolean) ∈ TB := tb5 (List.mem_of_getElem? (i := 159) rfl) rfl
theorem wl_X8_225 : Cond.methodLink RX8 225 yX8_isSameLevel ∈ TB := tb5 (List.mem_of_getElem? (i := 160) rfl) rfl
theorem wi_X8_isSameLevel : Cond.instanceMethod yX8_isSameLevel ∈ TB := tb5 (List.mem_of_getElem? (i := 162) rfl) rfl
theorem wc_X8_isSameLevel : Cond.code yX8_isSameLevel cX8_isSameLevel 5 (some .boolean) ∈ TB := tb5 (List.mem_of_getElem? (i := 163) rfl) rfl
theorem wl_X8_221 : Cond.methodLink RX8 221 yX8_isAtMost ∈ TB := tb5 (List.mem_of_getElem? (i := 164) rfl) rfl
theorem wi_X8_isAtMost : Cond.instanceMethod yX8_isAtMost ∈ TB := tb5 (List.mem_of_getElem? (i := 166) rfl) rfl
theorem wc_X8_isAtMost : Cond.code yX8_isAtMost cX8_isAtMost 10 (some .boolean) ∈ TB := tb5 (List.mem_of_getElem? (i := 167) rfl) rfl
theorem wl_X8_217 : Cond.methodLink RX8 217 yX8_valueOf ∈ TB := tb5 (List.mem_of_getElem? (i := 168) rfl) rfl
theorem wi_X8_valueOf : Cond.instanceMethod yX8_valueOf ∈ TB := tb5 (List.mem_of_getElem? (i := 170) rfl) rfl
theorem wc_X8_valueOf : Cond.code yX8_valueOf cX8_valueOf 11 (some .int) ∈ TB := tb5 (List.mem_of_getElem? (i := 171) rfl) rfl
theorem wl_X8_258 : Cond.methodLink RX8 258 yX8_typeOfLet ∈ TB := tb5 (List.mem_of_getElem? (i := 172) rfl) rfl
theorem wi_X8_typeOfLet : Cond.instanceMethod yX8_typeOfLet ∈ TB := tb5 (List.mem_of_getElem? (i := 174) rfl) rfl
theorem wc_X8_typeOfLet : Cond.code yX8_typeOfLet cX8_typeOfLet 6 (some .int) ∈ TB := tb5 (List.mem_of_getElem? (i := 175) rfl) rfl
theorem wl_X8_288 : Cond.methodLink RX8 288 yX8_answer ∈ TB := tb5 (List.mem_of_getElem? (i := 176) rfl) rfl
theorem wi_X8_answer : Cond.instanceMethod yX8_answer ∈ TB := tb5 (List.mem_of_getElem? (i := 178) rfl) rfl
theorem wc_X8_answer : Cond.code yX8_answer cX8_answer 6 (some .int) ∈ TB := tb5 (List.mem_of_getElem? (i := 179) rfl) rfl
theorem wl_X8_282 : Cond.methodLink RX8 282 yX8_countTerm ∈ TB := tb5 (List.mem_of_getElem? (i := 180) rfl) rfl
theorem wi_X8_countTerm : Cond.instanceMethod yX8_countTerm ∈ TB := tb5 (List.mem_of_getElem? (i := 182) rfl) rfl
theorem wc_X8_countTerm : Cond.code yX8_countTerm cX8_countTerm 10 (some .int) ∈ TB := tb5 (List.mem_of_getElem? (i := 183) rfl) rfl
theorem wl_X8_276 : Cond.methodLink RX8 276 yX8_countSingle ∈ TB := tb5 (List.mem_of_getElem? (i := 184) rfl) rfl
theorem wi_X8_countSingle : Cond.instanceMethod yX8_countSingle ∈ TB := tb5 (List.mem_of_getElem? (i := 186) rfl) rfl
theorem wc_X8_countSingle : Cond.code yX8_countSingle cX8_countSingle 5 (some .int) ∈ TB := tb5 (List.mem_of_getElem? (i := 187) rfl) rfl
theorem wl_X8_279 : Cond.methodLink RX8 279 yX8_countLevel ∈ TB := tb5 (List.mem_of_getElem? (i := 188) rfl) rfl
theorem wi_X8_countLevel : Cond.instanceMethod yX8_countLevel ∈ TB := tb5 (List.mem_of_getElem? (i := 190) rfl) rfl
theorem wc_X8_countLevel : Cond.code yX8_countLevel cX8_countLevel 10 (some .int) ∈ TB := tb5 (List.mem_of_getElem? (i := 191) rfl) rfl
theorem wl_L_111 : Cond.methodLink RL 111 yX8_normal ∈ TB := tb5 (List.mem_of_getElem? (i := 192) rfl) rfl
theorem wi_X8_normal : Cond.instanceMethod yX8_normal ∈ TB := tb5 (List.mem_of_getElem? (i := 193) rfl) rfl
theorem we_X8_normal : Cond.selects RX8 yX8_normal yX8_normal ∈ TB := tb5 (List.mem_of_getElem? (i := 194) rfl) rfl
theorem wc_X8_normal : Cond.code yX8_normal cX8_normal 2 (some .int) ∈ TB := tb5 (List.mem_of_getElem? (i := 195) rfl) rfl
theorem wl_L_114 : Cond.methodLink RL 114 yX8_steps ∈ TB := tb5 (List.mem_of_getElem? (i := 196) rfl) rfl
theorem wi_X8_steps : Cond.instanceMethod yX8_steps ∈ TB := tb5 (List.mem_of_getElem? (i := 197) rfl) rfl
theorem we_X8_steps : Cond.selects RX8 yX8_steps yX8_steps ∈ TB := tb5 (List.mem_of_getElem? (i := 198) rfl) rfl
theorem wc_X8_steps : Cond.code yX8_steps cX8_steps 2 (some .int) ∈ TB := tb5 (List.mem_of_getElem? (i := 199) rfl) rfl
theorem wl_L_117 : Cond.methodLink RL 117 yX8_same ∈ TB := tb5 (List.mem_of_getElem? (i := 200) rfl) rfl
theorem wi_X8_same : Cond.instanceMethod yX8_same ∈ TB := tb5 (List.mem_of_getElem? (i := 201) rfl) rfl
theorem we_X8_same : Cond.selects RX8 yX8_same yX8_same ∈ TB := tb5 (List.mem_of_getElem? (i := 202) rfl) rfl
theorem wc_X8_same : Cond.code yX8_same cX8_same 3 (some .int) ∈ TB := tb5 (List.mem_of_getElem? (i := 203) rfl) rfl
theorem wl_L_120 : Cond.methodLink RL 120 yX8_declare ∈ TB := tb5 (List.mem_of_getElem? (i := 204) rfl) rfl
theorem wi_X8_declare : Cond.instanceMethod yX8_declare ∈ TB := tb5 (List.mem_of_getElem? (i := 205) rfl) rfl
theorem we_X8_declare : Cond.selects RX8 yX8_declare yX8_declare ∈ TB := tb5 (List.mem_of_getElem? (i := 206) rfl) rfl
theorem wc_X8_declare : Cond.code yX8_declare cX8_declare 5 (some .int) ∈ TB := tb5 (List.mem_of_getElem? (i := 207) rfl) rfl
theorem wl_X8_294 : Cond.methodLink RX8 294 yX8_reasonOf ∈ TB := tb5 (List.mem_of_getElem? (i := 208) rfl) rfl
theorem wi_X8_reasonOf : Cond.instanceMethod yX8_reasonOf ∈ TB := tb5 (List.mem_of_getElem? (i := 210) rfl) rfl
theorem wc_X8_reasonOf : Cond.code yX8_reasonOf cX8_reasonOf 7 (some .int) ∈ TB := tb5 (List.mem_of_getElem? (i := 211) rfl) rfl
theorem wl_X8_291 : Cond.methodLink RX8 291 yX8_hasBelow ∈ TB := tb5 (List.mem_of_getElem? (i := 212) rfl) rfl
theorem wt_X8_hasBelow : Cond.static yX8_hasBelow ∈ TB := tb5 (List.mem_of_getElem? (i := 213) rfl) rfl
theorem wc_X8_hasBelow : Cond.code yX8_hasBelow cX8_hasBelow 8 (some .boolean) ∈ TB := tb5 (List.mem_of_getElem? (i := 214) rfl) rfl
theorem wl_L_85 : Cond.methodLink RL 85 yX8_atMost ∈ TB := tb5 (List.mem_of_getElem? (i := 215) rfl) rfl
theorem wi_X8_atMost : Cond.instanceMethod yX8_atMost ∈ TB := tb5 (List.mem_of_getElem? (i := 216) rfl) rfl
theorem we_X8_atMost : Cond.selects RX8 yX8_atMost yX8_atMost ∈ TB := tb5 (List.mem_of_getElem? (i := 217) rfl) rfl
theorem wc_X8_atMost : Cond.code yX8_atMost cX8_atMost 5 (some .boolean) ∈ TB := tb5 (List.mem_of_getElem? (i := 218) rfl) rfl
theorem wl_L_89 : Cond.methodLink RL 89 yX8_value ∈ TB := tb5 (List.mem_of_getElem? (i := 219) rfl) rfl
theorem wi_X8_value : Cond.instanceMethod yX8_value ∈ TB := tb5 (List.mem_of_getElem? (i := 220) rfl) rfl
theorem we_X8_value : Cond.selects RX8 yX8_value yX8_value ∈ TB := tb5 (List.mem_of_getElem? (i := 221) rfl) rfl
theorem wc_X8_value : Cond.code yX8_value cX8_value 6 (some .int) ∈ TB := tb5 (List.mem_of_getElem? (i := 222) rfl) rfl
theorem wl_L_123 : Cond.methodLink RL 123 yX8_part ∈ TB := tb5 (List.mem_of_getElem? (i := 223) rfl) rfl
theorem wi_X8_part : Cond.instanceMethod yX8_part ∈ TB := tb5 (List.mem_of_getElem? (i := 224) rfl) rfl
theorem we_X8_part : Cond.selects RX8 yX8_part yX8_part ∈ TB := tb5 (List.mem_of_getElem? (i := 225) rfl) rfl
theorem wc_X8_part : Cond.code yX8_part cX8_part 4 (some .int) ∈ TB := tb5 (List.mem_of_getElem? (i := 226) rfl) rfl
theorem wl_L_126 : Cond.methodLink RL 126 yX8_levelPart ∈ TB := tb5 (List.mem_of_getElem? (i := 227) rfl) rfl
theorem wi_X8_levelPart : Cond.instanceMethod yX8_levelPart ∈ TB := tb5 (List.mem_of_getElem? (i := 228) rfl) rfl
theorem we_X8_levelPart : Cond.selects RX8 yX8_levelPart yX8_levelPart ∈ TB := tb5 (List.mem_of_getElem? (i := 229) rfl) rfl
theorem wc_X8_levelPart : Cond.code yX8_levelPart cX8_levelPart 3 (some .int) ∈ TB := tb5 (List.mem_of_getElem? (i := 230) rfl) rfl
theorem wl_L_129 : Cond.methodLink RL 129 yX8_declared ∈ TB := tb5 (List.mem_of_getElem? (i := 231) rfl) rfl
theorem wi_X8_declared : Cond.instanceMethod yX8_declared ∈ TB := tb5 (List.mem_of_getElem? (i := 232) rfl) rfl
theorem we_X8_declared : Cond.selects RX8 yX8_declared yX8_declared ∈ TB := tb5 (List.mem_of_getElem? (i := 233) rfl) rfl
theorem wc_X8_declared : Cond.code yX8_declared cX8_declared 3 (some .int) ∈ TB := tb5 (List.mem_of_getElem? (i := 234) rfl) rfl
theorem wl_L_133 : Cond.methodLink RL 133 yX8_told ∈ TB := tb5 (List.mem_of_getElem? (i := 235) rfl) rfl
theorem wi_X8_told : Cond.instanceMethod yX8_told ∈ TB := tb5 (List.mem_of_getElem? (i := 236) rfl) rfl
theorem we_X8_told : Cond.selects RX8 yX8_told yX8_told ∈ TB := tb5 (List.mem_of_getElem? (i := 237) rfl) rfl
theorem wc_X8_told : Cond.code yX8_told cX8_told 2 (some .int) ∈ TB := tb5 (List.mem_of_getElem? (i := 238) rfl) rfl
theorem we_X7_askedLevel : Cond.selects RX7 yX7_askedLevel yX7_askedLevel ∈ TB := tbS (q := (yX7_askedLevel, 7)) (List.mem_append_left _ (List.mem_of_getElem? (i := 1) (by rfl : lw_privs_1[1]? = some (⟨"TypeKernel", "askedLevel", "(J)I"⟩, 7))))
theorem we_X1_find : Cond.selects RX1 yX1_find yX1_find ∈ TB := tbS (q := (yX1_find, 5)) (List.mem_append_left _ (List.mem_of_getElem? (i := 2) (by rfl : lw_privs_1[2]? = some (⟨"TypeKernel$Levels", "find", "(J)I"⟩, 5))))
theorem we_X7_needLevel : Cond.selects RX7 yX7_needLevel yX7_needLevel ∈ TB := tbS (q := (yX7_needLevel, 7)) (List.mem_append_left _ (List.mem_of_getElem? (i := 3) (by rfl : lw_privs_1[3]? = some (⟨"TypeKernel", "needLevel", "(I)V"⟩, 7))))
theorem we_X7_needParameterValue : Cond.selects RX7 yX7_needParameterValue yX7_needParameterValue ∈ TB := tbS (q := (yX7_needParameterValue, 7)) (List.mem_append_left _ (List.mem_of_getElem? (i := 4) (by rfl : lw_privs_1[4]? = some (⟨"TypeKernel", "needParameterValue", "(I)V"⟩, 7))))
theorem we_X7_askedTerm : Cond.selects RX7 yX7_askedTerm yX7_askedTerm ∈ TB := tbS (q := (yX7_askedTerm, 7)) (List.mem_append_left _ (List.mem_of_getElem? (i := 5) (by rfl : lw_privs_1[5]? = some (⟨"TypeKernel", "askedTerm", "(IIII)I"⟩, 7))))
theorem we_X5_sizeOf : Cond.selects RX5 yX5_sizeOf yX5_sizeOf ∈ TB := tbS (q := (yX5_sizeOf, 12)) (List.mem_append_left _ (List.mem_of_getElem? (i := 6) (by rfl : lw_privs_1[6]? = some (⟨"TypeKernel$Terms", "sizeOf", "(I)I"⟩, 12))))
theorem we_X5_find : Cond.selects RX5 yX5_find yX5_find ∈ TB := tbS (q := (yX5_find, 12)) (List.mem_append_left _ (List.mem_of_getElem? (i := 7) (by rfl : lw_privs_1[7]? = some (⟨"TypeKernel$Terms", "find", "(IIII)I"⟩, 12))))
theorem we_X5_openFor : Cond.selects RX5 yX5_openFor yX5_openFor ∈ TB := tbS (q := (yX5_openFor, 12)) (List.mem_append_left _ (List.mem_of_getElem? (i := 8) (by rfl : lw_privs_1[8]? = some (⟨"TypeKernel$Terms", "openFor", "(IIII)I"⟩, 12))))
theorem we_X5_openOf : Cond.selects RX5 yX5_openOf yX5_openOf ∈ TB := tbS (q := (yX5_openOf, 12)) (List.mem_append_left _ (List.mem_of_getElem? (i := 9) (by rfl : lw_privs_1[9]? = some (⟨"TypeKernel$Terms", "openOf", "(I)I"⟩, 12))))
theorem we_X7_needName : Cond.selects RX7 yX7_needName yX7_needName ∈ TB := tbS (q := (yX7_needName, 7)) (List.mem_append_left _ (List.mem_of_getElem? (i := 10) (by rfl : lw_privs_1[10]? = some (⟨"TypeKernel", "needName", "(I)V"⟩, 7))))
theorem we_X7_needTerm : Cond.selects RX7 yX7_needTerm yX7_needTerm ∈ TB := tbS (q := (yX7_needTerm, 7)) (List.mem_append_left _ (List.mem_of_getElem? (i := 11) (by rfl : lw_privs_1[11]? = some (⟨"TypeKernel", "needTerm", "(I)V"⟩, 7))))
theorem we_X6_putSort : Cond.selects RX6 yX6_putSort yX6_putSort ∈ TB := tbS (q := (yX6_putSort, 8)) (List.mem_append_left _ (List.mem_of_getElem? (i := 12) (by rfl : lw_privs_1[12]? = some (⟨"TypeKernel$Typer", "putSort", "(JLTypeKernel$Row;)I"⟩, 8))))
theorem we_X6_putBinderType : Cond.selects RX6 yX6_putBinderType yX6_putBinderType ∈ TB := tbS (q := (yX6_putBinderType, 8)) (List.mem_append_left _ (List.mem_of_getElem? (i := 13) (by rfl : lw_privs_1[13]? = some (⟨"TypeKernel$Typer", "putBinderType", "(IILTypeKernel$Row;)I"⟩, 8))))
theorem we_X5_await : Cond.selects RX5 yX5_await yX5_await ∈ TB := tbS (q := (yX5_await, 12)) (List.mem_append_left _ (List.mem_of_getElem? (i := 14) (by rfl : lw_privs_1[14]? = some (⟨"TypeKernel$Terms", "await", "(II)V"⟩, 12))))
theorem we_X6_putNameType : Cond.selects RX6 yX6_putNameType yX6_putNameType ∈ TB := tbS (q := (yX6_putNameType, 8)) (List.mem_append_left _ (List.mem_of_getElem? (i := 15) (by rfl : lw_privs_1[15]? = some (⟨"TypeKernel$Typer", "putNameType", "(ILTypeKernel$Row;)I"⟩, 8))))
theorem we_X6_findOfPi : Cond.selects RX6 yX6_findOfPi yX6_findOfPi ∈ TB := tbS (q := (yX6_findOfPi, 8)) (List.mem_append_right _ (List.mem_append_left _ (List.mem_of_getElem? (i := 0) (by rfl : lw_privs_2[0]? = some (⟨"TypeKernel$Typer", "findOfPi", "(III)I"⟩, 8)))))
theorem we_X3_nextStep : Cond.selects RX3 yX3_nextStep yX3_nextStep ∈ TB := tbS (q := (yX3_nextStep, 5)) (List.mem_append_right _ (List.mem_append_left _ (List.mem_of_getElem? (i := 1) (by rfl : lw_privs_2[1]? = some (⟨"TypeKernel$Reducer", "nextStep", "(LTypeKernel$Row;)I"⟩, 5)))))
theorem we_X3_shrink : Cond.selects RX3 yX3_shrink yX3_shrink ∈ TB := tbS (q := (yX3_shrink, 5)) (List.mem_append_right _ (List.mem_append_left _ (List.mem_of_getElem? (i := 2) (by rfl : lw_privs_2[2]? = some (⟨"TypeKernel$Reducer", "shrink", "(LTypeKernel$Row;I)V"⟩, 5)))))
theorem we_X4_copyMark : Cond.selects RX4 yX4_copyMark yX4_copyMark ∈ TB := tbS (q := (yX4_copyMark, 6)) (List.mem_append_right _ (List.mem_append_left _ (List.mem_of_getElem? (i := 3) (by rfl : lw_privs_2[3]? = some (⟨"TypeKernel$Row", "copyMark", "(LTypeKernel$Row;III)V"⟩, 6)))))
theorem we_X4_moveTail : Cond.selects RX4 yX4_moveTail yX4_moveTail ∈ TB := tbS (q := (yX4_moveTail, 6)) (List.mem_append_right _ (List.mem_append_left _ (List.mem_of_getElem? (i := 4) (by rfl : lw_privs_2[4]? = some (⟨"TypeKernel$Row", "moveTail", "(II)V"⟩, 6)))))
theorem we_X3_takeStep : Cond.selects RX3 yX3_takeStep yX3_takeStep ∈ TB := tbS (q := (yX3_takeStep, 5)) (List.mem_append_right _ (List.mem_append_left _ (List.mem_of_getElem? (i := 5) (by rfl : lw_privs_2[5]? = some (⟨"TypeKernel$Reducer", "takeStep", "(LTypeKernel$Row;I)Z"⟩, 5)))))
theorem we_X6_findOfLambda : Cond.selects RX6 yX6_findOfLambda yX6_findOfLambda ∈ TB := tbS (q := (yX6_findOfLambda, 8)) (List.mem_append_right _ (List.mem_append_left _ (List.mem_of_getElem? (i := 6) (by rfl : lw_privs_2[6]? = some (⟨"TypeKernel$Typer", "findOfLambda", "(III)I"⟩, 8)))))
theorem we_X6_findOfApply : Cond.selects RX6 yX6_findOfApply yX6_findOfApply ∈ TB := tbS (q := (yX6_findOfApply, 8)) (List.mem_append_right _ (List.mem_append_left _ (List.mem_of_getElem? (i := 7) (by rfl : lw_privs_2[7]? = some (⟨"TypeKernel$Typer", "findOfApply", "(III)I"⟩, 8)))))
theorem we_X6_findOfLet : Cond.selects RX6 yX6_findOfLet yX6_findOfLet ∈ TB := tbS (q := (yX6_findOfLet, 8)) (List.mem_append_right _ (List.mem_append_left _ (List.mem_of_getElem? (i := 8) (by rfl : lw_privs_2[8]? = some (⟨"TypeKernel$Typer", "findOfLet", "(III)I"⟩, 8)))))
theorem we_X7_numbered : Cond.selects RX7 yX7_numbered yX7_numbered ∈ TB := tbS (q := (yX7_numbered, 7)) (List.mem_append_right _ (List.mem_append_left _ (List.mem_of_getElem? (i := 9) (by rfl : lw_privs_2[9]? = some (⟨"TypeKernel", "numbered", "(LTypeKernel$Row;)I"⟩, 7)))))
theorem we_X5_keepLeaf : Cond.selects RX5 yX5_keepLeaf yX5_keepLeaf ∈ TB := tbS (q := (yX5_keepLeaf, 12)) (List.mem_append_right _ (List.mem_append_left _ (List.mem_of_getElem? (i := 10) (by rfl : lw_privs_2[10]? = some (⟨"TypeKernel$Terms", "keepLeaf", "(LTypeKernel$Row;I)I"⟩, 12)))))
theorem we_X7_reasonAgainst : Cond.selects RX7 yX7_reasonAgainst yX7_reasonAgainst ∈ TB := tbS (q := (yX7_reasonAgainst, 7)) (List.mem_append_right _ (List.mem_append_left _ (List.mem_of_getElem? (i := 11) (by rfl : lw_privs_2[11]? = some (⟨"TypeKernel", "reasonAgainst", "(III)I"⟩, 7)))))
theorem we_X7_hasStrangeParameter : Cond.selects RX7 yX7_hasStrangeParameter yX7_hasStrangeParameter ∈ TB := tbS (q := (yX7_hasStrangeParameter, 7)) (List.mem_append_right _ (List.mem_append_left _ (List.mem_of_getElem? (i := 12) (by rfl : lw_privs_2[12]? = some (⟨"TypeKernel", "hasStrangeParameter", "(II)Z"⟩, 7)))))
theorem we_X8_isLevel : Cond.selects RX8 yX8_isLevel yX8_isLevel ∈ TB := tbS (q := (yX8_isLevel, 40)) (List.mem_append_right _ (List.mem_append_left _ (List.mem_of_getElem? (i := 13) (by rfl : lw_privs_2[13]? = some (⟨"TypeKernelModel", "isLevel", "(I)Z"⟩, 40)))))
theorem we_X8_numberOfLevel : Cond.selects RX8 yX8_numberOfLevel yX8_numberOfLevel ∈ TB := tbS (q := (yX8_numberOfLevel, 40)) (List.mem_append_right _ (List.mem_append_left _ (List.mem_of_getElem? (i := 14) (by rfl : lw_privs_2[14]? = some (⟨"TypeKernelModel", "numberOfLevel", "(III)I"⟩, 40)))))
theorem we_X8_numberOfTerm : Cond.selects RX8 yX8_numberOfTerm yX8_numberOfTerm ∈ TB := tbS (q := (yX8_numberOfTerm, 40)) (List.mem_append_right _ (List.mem_append_left _ (List.mem_of_getElem? (i := 15) (by rfl : lw_privs_2[15]? = some (⟨"TypeKernelModel", "numberOfTerm", "(IIII)I"⟩, 40)))))
theorem we_X8_openOf : Cond.selects RX8 yX8_openOf yX8_openOf ∈ TB := tbS (q := (yX8_openOf, 40)) (List.mem_append_right _ (List.mem_append_right _ (List.mem_append_left _ (List.mem_of_getElem? (i := 0) (by rfl : lw_privs_3[0]? = some (⟨"TypeKernelModel", "openOf", "(IIII)I"⟩, 40))))))
theorem we_X8_orFull : Cond.selects RX8 yX8_orFull yX8_orFull ∈ TB := tbS (q := (yX8_orFull, 40)) (List.mem_append_right _ (List.mem_append_right _ (List.mem_append_left _ (List.mem_of_getElem? (i := 1) (by rfl : lw_privs_3[1]? = some (⟨"TypeKernelModel", "orFull", "(II)I"⟩, 40))))))
theorem we_X8_isName : Cond.selects RX8 yX8_isName yX8_isName ∈ TB := tbS (q := (yX8_isName, 40)) (List.mem_append_right _ (List.mem_append_right _ (List.mem_append_left _ (List.mem_of_getElem? (i := 2) (by rfl : lw_privs_3[2]? = some (⟨"TypeKernelModel", "isName", "(I)Z"⟩, 40))))))
theorem we_X8_isTerm : Cond.selects RX8 yX8_isTerm yX8_isTerm ∈ TB := tbS (q := (yX8_isTerm, 40)) (List.mem_append_right _ (List.mem_append_right _ (List.mem_append_left _ (List.mem_of_getElem? (i := 3) (by rfl : lw_privs_3[3]? = some (⟨"TypeKernelModel", "isTerm", "(I)Z"⟩, 40))))))
theorem we_X8_begin : Cond.selects RX8 yX8_begin yX8_begin ∈ TB := tbS (q := (yX8_begin, 40)) (List.mem_append_right _ (List.mem_append_right _ (List.mem_append_left _ (List.mem_of_getElem? (i := 4) (by rfl : lw_privs_3[4]? = some (⟨"TypeKernelModel", "begin", "(I)V"⟩, 40))))))
theorem we_X8_layTerm : Cond.selects RX8 yX8_layTerm yX8_layTerm ∈ TB := tbS (q := (yX8_layTerm, 40)) (List.mem_append_right _ (List.mem_append_right _ (List.mem_append_left _ (List.mem_of_getElem? (i := 5) (by rfl : lw_privs_3[5]? = some (⟨"TypeKernelModel", "layTerm", "(I[II)I"⟩, 40))))))
theorem we_X8_layLevel : Cond.selects RX8 yX8_layLevel yX8_layLevel ∈ TB := tbS (q := (yX8_layLevel, 40)) (List.mem_append_right _ (List.mem_append_right _ (List.mem_append_left _ (List.mem_of_getElem? (i := 6) (by rfl : lw_privs_3[6]? = some (⟨"TypeKernelModel", "layLevel", "(I[II)I"⟩, 40))))))
theorem we_X8_typeOf : Cond.selects RX8 yX8_typeOf yX8_typeOf ∈ TB := tbS (q := (yX8_typeOf, 40)) (List.mem_append_right _ (List.mem_append_right _ (List.mem_append_left _ (List.mem_of_getElem? (i := 7) (by rfl : lw_privs_3[7]? = some (⟨"TypeKernelModel", "typeOf", "(I)I"⟩, 40))))))
theorem we_X8_typeOfSingle : Cond.selects RX8 yX8_typeOfSingle yX8_typeOfSingle ∈ TB := tbS (q := (yX8_typeOfSingle, 40)) (List.mem_append_right _ (List.mem_append_right _ (List.mem_append_left _ (List.mem_of_getElem? (i := 8) (by rfl : lw_privs_3[8]? = some (⟨"TypeKernelModel", "typeOfSingle", "(I)I"⟩, 40))))))
theorem we_X8_put : Cond.selects RX8 yX8_put yX8_put ∈ TB := tbS (q := (yX8_put, 40)) (List.mem_append_right _ (List.mem_append_right _ (List.mem_append_left _ (List.mem_of_getElem? (i := 9) (by rfl : lw_privs_3[9]? = some (⟨"TypeKernelModel", "put", "(I)V"⟩, 40))))))
theorem we_X8_copy : Cond.selects RX8 yX8_copy yX8_copy ∈ TB := tbS (q := (yX8_copy, 40)) (List.mem_append_right _ (List.mem_append_right _ (List.mem_append_left _ (List.mem_of_getElem? (i := 10) (by rfl : lw_privs_3[10]? = some (⟨"TypeKernelModel", "copy", "([III)V"⟩, 40))))))
theorem we_X8_lift : Cond.selects RX8 yX8_lift yX8_lift ∈ TB := tbS (q := (yX8_lift, 40)) (List.mem_append_right _ (List.mem_append_right _ (List.mem_append_left _ (List.mem_of_getElem? (i := 11) (by rfl : lw_privs_3[11]? = some (⟨"TypeKernelModel", "lift", "([III)V"⟩, 40))))))
theorem we_X8_named : Cond.selects RX8 yX8_named yX8_named ∈ TB := tbS (q := (yX8_named, 40)) (List.mem_append_right _ (List.mem_append_right _ (List.mem_append_left _ (List.mem_of_getElem? (i := 12) (by rfl : lw_privs_3[12]? = some (⟨"TypeKernelModel", "named", "(I[II)V"⟩, 40))))))
theorem we_X8_withLevels : Cond.selects RX8 yX8_withLevels yX8_withLevels ∈ TB := tbS (q := (yX8_withLevels, 40)) (List.mem_append_right _ (List.mem_append_right _ (List.mem_append_left _ (List.mem_of_getElem? (i := 13) (by rfl : lw_privs_3[13]? = some (⟨"TypeKernelModel", "withLevels", "(II[II)V"⟩, 40))))))
theorem we_X8_settle : Cond.selects RX8 yX8_settle yX8_settle ∈ TB := tbS (q := (yX8_settle, 40)) (List.mem_append_right _ (List.mem_append_right _ (List.mem_append_left _ (List.mem_of_getElem? (i := 14) (by rfl : lw_privs_3[14]? = some (⟨"TypeKernelModel", "settle", "(I)I"⟩, 40))))))
theorem we_X8_push : Cond.selects RX8 yX8_push yX8_push ∈ TB := tbS (q := (yX8_push, 40)) (List.mem_append_right _ (List.mem_append_right _ (List.mem_append_left _ (List.mem_of_getElem? (i := 15) (by rfl : lw_privs_3[15]? = some (⟨"TypeKernelModel", "push", "([III)V"⟩, 40))))))
theorem we_X8_typeOfPi : Cond.selects RX8 yX8_typeOfPi yX8_typeOfPi ∈ TB := tbS (q := (yX8_typeOfPi, 40)) (List.mem_append_right _ (List.mem_append_right _ (List.mem_append_right _ (List.mem_append_left _ (List.mem_of_getElem? (i := 0) (by rfl : lw_privs_4[0]? = some (⟨"TypeKernelModel", "typeOfPi", "(I)I"⟩, 40)))))))
theorem we_X8_ofSort : Cond.selects RX8 yX8_ofSort yX8_ofSort ∈ TB := tbS (q := (yX8_ofSort, 40)) (List.mem_append_right _ (List.mem_append_right _ (List.mem_append_right _ (List.mem_append_left _ (List.mem_of_getElem? (i := 1) (by rfl : lw_privs_4[1]? = some (⟨"TypeKernelModel", "ofSort", "(I)I"⟩, 40)))))))
theorem we_X8_normalAt : Cond.selects RX8 yX8_normalAt yX8_normalAt ∈ TB := tbS (q := (yX8_normalAt, 40)) (List.mem_append_right _ (List.mem_append_right _ (List.mem_append_right _ (List.mem_append_left _ (List.mem_of_getElem? (i := 2) (by rfl : lw_privs_4[2]? = some (⟨"TypeKernelModel", "normalAt", "(I)I"⟩, 40)))))))
theorem we_X8_load : Cond.selects RX8 yX8_load yX8_load ∈ TB := tbS (q := (yX8_load, 40)) (List.mem_append_right _ (List.mem_append_right _ (List.mem_append_right _ (List.mem_append_left _ (List.mem_of_getElem? (i := 3) (by rfl : lw_privs_4[3]? = some (⟨"TypeKernelModel", "load", "([III)V"⟩, 40)))))))
theorem we_X8_normalize : Cond.selects RX8 yX8_normalize yX8_normalize ∈ TB := tbS (q := (yX8_normalize, 40)) (List.mem_append_right _ (List.mem_append_right _ (List.mem_append_right _ (List.mem_append_left _ (List.mem_of_getElem? (i := 4) (by rfl : lw_privs_4[4]? = some (⟨"TypeKernelModel", "normalize", "()I"⟩, 40)))))))
theorem we_X8_stepAt : Cond.selects RX8 yX8_stepAt yX8_stepAt ∈ TB := tbS (q := (yX8_stepAt, 40)) (List.mem_append_right _ (List.mem_append_right _ (List.mem_append_right _ (List.mem_append_left _ (List.mem_of_getElem? (i := 5) (by rfl : lw_privs_4[5]? = some (⟨"TypeKernelModel", "stepAt", "()I"⟩, 40)))))))
theorem we_X8_with : Cond.selects RX8 yX8_with yX8_with ∈ TB := tbS (q := (yX8_with, 40)) (List.mem_append_right _ (List.mem_append_right _ (List.mem_append_right _ (List.mem_append_left _ (List.mem_of_getElem? (i := 6) (by rfl : lw_privs_4[6]? = some (⟨"TypeKernelModel", "with", "([II[II)V"⟩, 40)))))))
theorem we_X8_take : Cond.selects RX8 yX8_take yX8_take ∈ TB := tbS (q := (yX8_take, 40)) (List.mem_append_right _ (List.mem_append_right _ (List.mem_append_right _ (List.mem_append_left _ (List.mem_of_getElem? (i := 7) (by rfl : lw_privs_4[7]? = some (⟨"TypeKernelModel", "take", "()V"⟩, 40)))))))
theorem we_X8_shorten : Cond.selects RX8 yX8_shorten yX8_shorten ∈ TB := tbS (q := (yX8_shorten, 40)) (List.mem_append_right _ (List.mem_append_right _ (List.mem_append_right _ (List.mem_append_left _ (List.mem_of_getElem? (i := 8) (by rfl : lw_privs_4[8]? = some (⟨"TypeKernelModel", "shorten", "()V"⟩, 40)))))))
theorem we_X8_has : Cond.selects RX8 yX8_has yX8_has ∈ TB := tbS (q := (yX8_has, 40)) (List.mem_append_right _ (List.mem_append_right _ (List.mem_append_right _ (List.mem_append_left _ (List.mem_of_getElem? (i := 9) (by rfl : lw_privs_4[9]? = some (⟨"TypeKernelModel", "has", "(I)Z"⟩, 40)))))))
theorem we_X8_typeOfLambda : Cond.selects RX8 yX8_typeOfLambda yX8_typeOfLambda ∈ TB := tbS (q := (yX8_typeOfLambda, 40)) (List.mem_append_right _ (List.mem_append_right _ (List.mem_append_right _ (List.mem_append_left _ (List.mem_of_getElem? (i := 10) (by rfl : lw_privs_4[10]? = some (⟨"TypeKernelModel", "typeOfLambda", "(I)I"⟩, 40)))))))
theorem we_X8_typeOfApply : Cond.selects RX8 yX8_typeOfApply yX8_typeOfApply ∈ TB := tbS (q := (yX8_typeOfApply, 40)) (List.mem_append_right _ (List.mem_append_right _ (List.mem_append_right _ (List.mem_append_left _ (List.mem_of_getElem? (i := 11) (by rfl : lw_privs_4[11]? = some (⟨"TypeKernelModel", "typeOfApply", "(I)I"⟩, 40)))))))
theorem we_X8_isSame : Cond.selects RX8 yX8_isSame yX8_isSame ∈ TB := tbS (q := (yX8_isSame, 40)) (List.mem_append_right _ (List.mem_append_right _ (List.mem_append_right _ (List.mem_append_left _ (List.mem_of_getElem? (i := 12) (by rfl : lw_privs_4[12]? = some (⟨"TypeKernelModel", "isSame", "([II[II)Z"⟩, 40)))))))
theorem we_X8_isSameLevel : Cond.selects RX8 yX8_isSameLevel yX8_isSameLevel ∈ TB := tbS (q := (yX8_isSameLevel, 40)) (List.mem_append_right _ (List.mem_append_right _ (List.mem_append_right _ (List.mem_append_left _ (List.mem_of_getElem? (i := 13) (by rfl : lw_privs_4[13]? = some (⟨"TypeKernelModel", "isSameLevel", "([II[II)Z"⟩, 40)))))))
theorem we_X8_isAtMost : Cond.selects RX8 yX8_isAtMost yX8_isAtMost ∈ TB := tbS (q := (yX8_isAtMost, 40)) (List.mem_append_right _ (List.mem_append_right _ (List.mem_append_right _ (List.mem_append_left _ (List.mem_of_getElem? (i := 14) (by rfl : lw_privs_4[14]? = some (⟨"TypeKernelModel", "isAtMost", "([II[II)Z"⟩, 40)))))))
theorem we_X8_valueOf : Cond.selects RX8 yX8_valueOf yX8_valueOf ∈ TB := tbS (q := (yX8_valueOf, 40)) (List.mem_append_right _ (List.mem_append_right _ (List.mem_append_right _ (List.mem_append_left _ (List.mem_of_getElem? (i := 15) (by rfl : lw_privs_4[15]? = some (⟨"TypeKernelModel", "valueOf", "([IIIII)I"⟩, 40)))))))
theorem we_X8_typeOfLet : Cond.selects RX8 yX8_typeOfLet yX8_typeOfLet ∈ TB := tbS (q := (yX8_typeOfLet, 40)) (List.mem_append_right _ (List.mem_append_right _ (List.mem_append_right _ (List.mem_append_right _ (List.mem_of_getElem? (i := 0) (by rfl : lw_privs_5[0]? = some (⟨"TypeKernelModel", "typeOfLet", "(I)I"⟩, 40)))))))
theorem we_X8_answer : Cond.selects RX8 yX8_answer yX8_answer ∈ TB := tbS (q := (yX8_answer, 40)) (List.mem_append_right _ (List.mem_append_right _ (List.mem_append_right _ (List.mem_append_right _ (List.mem_of_getElem? (i := 1) (by rfl : lw_privs_5[1]? = some (⟨"TypeKernelModel", "answer", "([II)I"⟩, 40)))))))
theorem we_X8_countTerm : Cond.selects RX8 yX8_countTerm yX8_countTerm ∈ TB := tbS (q := (yX8_countTerm, 40)) (List.mem_append_right _ (List.mem_append_right _ (List.mem_append_right _ (List.mem_append_right _ (List.mem_of_getElem? (i := 2) (by rfl : lw_privs_5[2]? = some (⟨"TypeKernelModel", "countTerm", "([II)I"⟩, 40)))))))
theorem we_X8_countSingle : Cond.selects RX8 yX8_countSingle yX8_countSingle ∈ TB := tbS (q := (yX8_countSingle, 40)) (List.mem_append_right _ (List.mem_append_right _ (List.mem_append_right _ (List.mem_append_right _ (List.mem_of_getElem? (i := 3) (by rfl : lw_privs_5[3]? = some (⟨"TypeKernelModel", "countSingle", "([II)I"⟩, 40)))))))
theorem we_X8_countLevel : Cond.selects RX8 yX8_countLevel yX8_countLevel ∈ TB := tbS (q := (yX8_countLevel, 40)) (List.mem_append_right _ (List.mem_append_right _ (List.mem_append_right _ (List.mem_append_right _ (List.mem_of_getElem? (i := 4) (by rfl : lw_privs_5[4]? = some (⟨"TypeKernelModel", "countLevel", "([II)I"⟩, 40)))))))
theorem we_X8_reasonOf : Cond.selects RX8 yX8_reasonOf yX8_reasonOf ∈ TB := tbS (q := (yX8_reasonOf, 40)) (List.mem_append_right _ (List.mem_append_right _ (List.mem_append_right _ (List.mem_append_right _ (List.mem_of_getElem? (i := 5) (by rfl : lw_privs_5[5]? = some (⟨"TypeKernelModel", "reasonOf", "(III)I"⟩, 40)))))))
theorem in_X1 : ∀ w ∈ u_ws RX1 TX1 5, w ∈ TB := by
  intro w hw
  obtain ⟨k, hk, rfl⟩ := List.mem_map.mp hw
  have hk := List.mem_range.mp hk
  match k, hk with
  | 0, _ => exact wy_X1_count
  | 1, _ => exact wy_X1_code
  | 2, _ => exact wy_X1_one
  | 3, _ => exact wy_X1_two
  | 4, _ => exact wy_X1_stack
  | k + 5, hk => exact absurd hk (by omega)
theorem in_X2 : ∀ w ∈ u_ws RX2 TX2 4, w ∈ TB := by
  intro w hw
  obtain ⟨k, hk, rfl⟩ := List.mem_map.mp hw
  have hk := List.mem_range.mp hk
  match k, hk with
  | 0, _ => exact wy_X2_count
  | 1, _ => exact wy_X2_parameters
  | 2, _ => exact wy_X2_typeTerm
  | 3, _ => exact wy_X2_valueTerm
  | k + 4, hk => exact absurd hk (by omega)
theorem in_X3 : ∀ w ∈ u_ws RX3 TX3 5, w ∈ TB := by
  intro w hw
  obtain ⟨k, hk, rfl⟩ := List.mem_map.mp hw
  have hk := List.mem_range.mp hk
  match k, hk with
  | 0, _ => exact wy_X3_terms
  | 1, _ => exact wy_X3_names
  | 2, _ => exact wy_X3_body
  | 3, _ => exact wy_X3_argument
  | 4, _ => exact wy_X3_made
  | k + 5, hk => exact absurd hk (by omega)
theorem in_X4 : ∀ w ∈ u_ws RX4 TX4 6, w ∈ TB := by
  intro w hw
  obtain ⟨k, hk, rfl⟩ := List.mem_map.mp hw
  have hk := List.mem_range.mp hk
  match k, hk with
  | 0, _ => exact wy_X4_size
  | 1, _ => exact wy_X4_kind
  | 2, _ => exact wy_X4_index
  | 3, _ => exact wy_X4_depth
  | 4, _ => exact wy_X4_first
  | 5, _ => exact wy_X4_second
  | k + 6, hk => exact absurd hk (by omega)
theorem in_X5 : ∀ w ∈ u_ws RX5 TX5 12, w ∈ TB := by
  intro w hw
  obtain ⟨k, hk, rfl⟩ := List.mem_map.mp hw
  have hk := List.mem_range.mp hk
  match k, hk with
  | 0, _ => exact wy_X5_count
  | 1, _ => exact wy_X5_kind
  | 2, _ => exact wy_X5_one
  | 3, _ => exact wy_X5_two
  | 4, _ => exact wy_X5_three
  | 5, _ => exact wy_X5_size
  | 6, _ => exact wy_X5_open
  | 7, _ => exact wy_X5_levels
  | 8, _ => exact wy_X5_waiting
  | 9, _ => exact wy_X5_waitingDepth
  | 10, _ => exact wy_X5_waits
  | 11, _ => exact wy_X5_reading
  | k + 12, hk => exact absurd hk (by omega)
theorem in_X6 : ∀ w ∈ u_ws RX6 TX6 8, w ∈ TB := by
  intro w hw
  obtain ⟨k, hk, rfl⟩ := List.mem_map.mp hw
  have hk := List.mem_range.mp hk
  match k, hk with
  | 0, _ => exact wy_X6_levels
  | 1, _ => exact wy_X6_terms
  | 2, _ => exact wy_X6_names
  | 3, _ => exact wy_X6_reducer
  | 4, _ => exact wy_X6_found
  | 5, _ => exact wy_X6_rows
  | 6, _ => exact wy_X6_binderType
  | 7, _ => exact wy_X6_written
  | k + 8, hk => exact absurd hk (by omega)
theorem in_X7 : ∀ w ∈ u_ws RX7 TX7 7, w ∈ TB := by
  intro w hw
  obtain ⟨k, hk, rfl⟩ := List.mem_map.mp hw
  have hk := List.mem_range.mp hk
  match k, hk with
  | 0, _ => exact wy_X7_levels
  | 1, _ => exact wy_X7_terms
  | 2, _ => exact wy_X7_names
  | 3, _ => exact wy_X7_reducer
  | 4, _ => exact wy_X7_typer
  | 5, _ => exact wy_X7_here
  | 6, _ => exact wy_X7_there
  | k + 7, hk => exact absurd hk (by omega)
theorem in_X8 : ∀ w ∈ u_ws RX8 TX8 40, w ∈ TB := by
  intro w hw
  obtain ⟨k, hk, rfl⟩ := List.mem_map.mp hw
  have hk := List.mem_range.mp hk
  match k, hk with
  | 0, _ => exact wy_X8_code
  | 1, _ => exact wy_X8_levelKind
  | 2, _ => exact wy_X8_levelA
  | 3, _ => exact wy_X8_levelB
  | 4, _ => exact wy_X8_levelSize
  | 5, _ => exact wy_X8_levels
  | 6, _ => exact wy_X8_termKind
  | 7, _ => exact wy_X8_partA
  | 8, _ => exact wy_X8_partB
  | 9, _ => exact wy_X8_partC
  | 10, _ => exact wy_X8_termSize
  | 11, _ => exact wy_X8_termOpen
  | 12, _ => exact wy_X8_terms
  | 13, _ => exact wy_X8_nameParameters
  | 14, _ => exact wy_X8_nameType
  | 15, _ => exact wy_X8_nameValue
  | 16, _ => exact wy_X8_names
  | 17, _ => exact wy_X8_term
  | 18, _ => exact wy_X8_now
  | 19, _ => exact wy_X8_next
  | 20, _ => exact wy_X8_told
  | 21, _ => exact wy_X8_pool
  | 22, _ => exact wy_X8_nowSize
  | 23, _ => exact wy_X8_nextSize
  | 24, _ => exact wy_X8_toldSize
  | 25, _ => exact wy_X8_top
  | 26, _ => exact wy_X8_stack
  | 27, _ => exact wy_X8_deeper
  | 28, _ => exact wy_X8_work
  | 29, _ => exact wy_X8_isAsked
  | 30, _ => exact wy_X8_wide
  | 31, _ => exact wy_X8_places
  | 32, _ => exact wy_X8_binders
  | 33, _ => exact wy_X8_binderCount
  | 34, _ => exact wy_X8_openKind
  | 35, _ => exact wy_X8_openHas
  | 36, _ => exact wy_X8_openParts
  | 37, _ => exact wy_X8_readEnd
  | 38, _ => exact wy_X8_levelOpen
  | 39, _ => exact wy_X8_levelFirst
  | k + 40, hk => exact absurd hk (by omega)
