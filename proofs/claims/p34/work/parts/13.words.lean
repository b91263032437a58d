theorem tb1 {w : Cond} {k : Nat} (hk : tables_1_1[k]? = some w) : w ∈ lw_tbl := List.mem_append_right _ (by have h := List.mem_of_getElem? hk; exact List.mem_append_left _ h)
theorem tb2 {w : Cond} {k : Nat} (hk : tables_1_2[k]? = some w) : w ∈ lw_tbl := List.mem_append_right _ (by have h := List.mem_of_getElem? hk; exact List.mem_append_right _ (List.mem_append_left _ h))
theorem tb3 {w : Cond} {k : Nat} (hk : tables_1_3[k]? = some w) : w ∈ lw_tbl := List.mem_append_right _ (by have h := List.mem_of_getElem? hk; exact List.mem_append_right _ (List.mem_append_right _ (List.mem_append_left _ h)))
theorem tb4 {w : Cond} {k : Nat} (hk : tables_1_4[k]? = some w) : w ∈ lw_tbl := List.mem_append_right _ (by have h := List.mem_of_getElem? hk; exact List.mem_append_right _ (List.mem_append_right _ (List.mem_append_right _ (h))))
theorem tbp {w : Cond} {k : Nat} (hk : (k2_sels lw_privs)[k]? = some w) : w ∈ lw_tbl := List.mem_append_left _ (List.mem_of_getElem? hk)
theorem ini_L : Cond.initialized RL ∈ wsA := inA (tb1 (k := 0) rfl) rfl
theorem ini_X6 : Cond.initialized RX6 ∈ wsA := inA (tb1 (k := 1) rfl) rfl
theorem ini_X0 : Cond.initialized RX0 ∈ wsA := inA (tb1 (k := 2) rfl) rfl
theorem ini_X3 : Cond.initialized RX3 ∈ wsA := inA (tb1 (k := 3) rfl) rfl
theorem ini_X5 : Cond.initialized RX5 ∈ wsA := inA (tb1 (k := 4) rfl) rfl
theorem ini_X1 : Cond.initialized RX1 ∈ wsA := inA (tb1 (k := 5) rfl) rfl
theorem ini_X2 : Cond.initialized RX2 ∈ wsA := inA (tb1 (k := 6) rfl) rfl
theorem ini_X4 : Cond.initialized RX4 ∈ wsA := inA (tb1 (k := 7) rfl) rfl
theorem ini_Throwable : Cond.initialized "java/lang/Throwable" ∈ wsA := inA (tb1 (k := 8) rfl) rfl
theorem ini_Exception : Cond.initialized "java/lang/Exception" ∈ wsA := inA (tb1 (k := 9) rfl) rfl
theorem ini_RuntimeException : Cond.initialized "java/lang/RuntimeException" ∈ wsA := inA (tb1 (k := 10) rfl) rfl
theorem ini_IllegalArgumentException : Cond.initialized "java/lang/IllegalArgumentException" ∈ wsA := inA (tb1 (k := 11) rfl) rfl
theorem ini_IllegalStateException : Cond.initialized "java/lang/IllegalStateException" ∈ wsA := inA (tb1 (k := 12) rfl) rfl
theorem ini_J9 : Cond.initialized RJ9 ∈ wsA := inA (tb1 (k := 13) rfl) rfl
theorem ini_J10 : Cond.initialized RJ10 ∈ wsA := inA (tb1 (k := 14) rfl) rfl
theorem ini_IndexOutOfBoundsException : Cond.initialized "java/lang/IndexOutOfBoundsException" ∈ wsA := inA (tb1 (k := 15) rfl) rfl
theorem ini_J6 : Cond.initialized RJ6 ∈ wsA := inA (tb1 (k := 16) rfl) rfl
theorem cl_L_9 : Cond.classLink RL 9 "DrumTowns" ∈ wsA := inA (tb1 (k := 17) rfl) rfl
theorem in_X6 : Cond.instantiable RX6 8 ∈ wsA := inA (tb1 (k := 18) rfl) rfl
theorem ml_L_120 : Cond.methodLink RL 120 yX6_init ∈ wsA := inA (tb1 (k := 19) rfl) rfl
theorem im_X6_init : Cond.instanceMethod yX6_init ∈ wsA := inA (tb1 (k := 20) rfl) rfl
theorem cd_X6_init : Cond.code yX6_init cX6_init 2 none ∈ wsA := inA (tb1 (k := 21) rfl) rfl
theorem ml_X6_1 : Cond.methodLink RX6 1 objectInit ∈ wsA := inA (tb1 (k := 22) rfl) rfl
theorem im_init : Cond.instanceMethod objectInit ∈ wsA := inA (tb1 (k := 23) rfl) rfl
theorem cd_objinit : Cond.code objectInit ⟨#[0xb1]⟩ 1 none ∈ wsA := inA (tb1 (k := 24) rfl) rfl
theorem cl_X6_7 : Cond.classLink RX6 7 "DrumTowns$Land" ∈ wsA := inA (tb1 (k := 25) rfl) rfl
theorem in_X0 : Cond.instantiable RX0 8 ∈ wsA := inA (tb1 (k := 26) rfl) rfl
theorem mn_X6_9 : Cond.methodLinkNest RX6 9 yX0_init "DrumTowns" ∈ lw_tbl := tb1 (k := 27) rfl
theorem im_X0_init : Cond.instanceMethod yX0_init ∈ wsA := inA (tb1 (k := 28) rfl) rfl
theorem cd_X0_init : Cond.code yX0_init cX0_init 2 none ∈ wsA := inA (tb1 (k := 29) rfl) rfl
theorem ml_X0_3 : Cond.methodLink RX0 3 objectInit ∈ wsA := inA (tb1 (k := 30) rfl) rfl
theorem cl_X0_9 : Cond.classLink RX0 9 "DrumTowns$Town" ∈ wsA := inA (tb1 (k := 31) rfl) rfl
theorem cl_X0_21 : Cond.classLink RX0 21 "[[I" ∈ wsA := inA (tb1 (k := 33) rfl) rfl
theorem in_X3 : Cond.instantiable RX3 7 ∈ wsA := inA (tb1 (k := 35) rfl) rfl
theorem mn_X0_26 : Cond.methodLinkNest RX0 26 yX3_init "DrumTowns" ∈ lw_tbl := tb1 (k := 36) rfl
theorem im_X3_init : Cond.instanceMethod yX3_init ∈ wsA := inA (tb1 (k := 37) rfl) rfl
theorem cd_X3_init : Cond.code yX3_init cX3_init 1 none ∈ wsA := inA (tb1 (k := 38) rfl) rfl
theorem ml_X3_3 : Cond.methodLink RX3 3 objectInit ∈ wsA := inA (tb1 (k := 39) rfl) rfl
theorem fn_X6_80 : Cond.fieldLinkNest RX6 80 "DrumTowns$Town" "box" "I" "DrumTowns" ∈ lw_tbl := tb1 (k := 40) rfl
theorem fn_X0_54 : Cond.fieldLinkNest RX0 54 "DrumTowns$Town" "box" "I" "DrumTowns" ∈ lw_tbl := tb1 (k := 41) rfl
theorem fl_X3_39 : Cond.fieldLink RX3 39 "DrumTowns$Town" "box" "I" ∈ wsA := inA (tb1 (k := 42) rfl) rfl
theorem fl_X3_9 : Cond.fieldLink RX3 9 "DrumTowns$Town" "drum" "[I" ∈ wsA := inA (tb1 (k := 43) rfl) rfl
theorem fn_X1_24 : Cond.fieldLinkNest RX1 24 "DrumTowns$Town" "drum" "[I" "DrumTowns" ∈ lw_tbl := tb1 (k := 44) rfl
theorem fn_X4_34 : Cond.fieldLinkNest RX4 34 "DrumTowns$Town" "drum" "[I" "DrumTowns" ∈ lw_tbl := tb1 (k := 45) rfl
theorem fn_X6_109 : Cond.fieldLinkNest RX6 109 "DrumTowns$Town" "drum" "[I" "DrumTowns" ∈ lw_tbl := tb1 (k := 46) rfl
theorem fn_X0_75 : Cond.fieldLinkNest RX0 75 "DrumTowns$Town" "drum" "[I" "DrumTowns" ∈ lw_tbl := tb1 (k := 47) rfl
theorem fl_X3_15 : Cond.fieldLink RX3 15 "DrumTowns$Town" "tune" "[I" ∈ wsA := inA (tb1 (k := 48) rfl) rfl
theorem fn_X4_39 : Cond.fieldLinkNest RX4 39 "DrumTowns$Town" "tune" "[I" "DrumTowns" ∈ lw_tbl := tb1 (k := 49) rfl
theorem fn_X6_207 : Cond.fieldLinkNest RX6 207 "DrumTowns$Town" "tune" "[I" "DrumTowns" ∈ lw_tbl := tb1 (k := 50) rfl
theorem fl_X3_18 : Cond.fieldLink RX3 18 "DrumTowns$Town" "wear" "[I" ∈ wsA := inA (tb1 (k := 51) rfl) rfl
theorem fn_X1_31 : Cond.fieldLinkNest RX1 31 "DrumTowns$Town" "wear" "[I" "DrumTowns" ∈ lw_tbl := tb1 (k := 52) rfl
theorem fn_X6_142 : Cond.fieldLinkNest RX6 142 "DrumTowns$Town" "wear" "[I" "DrumTowns" ∈ lw_tbl := tb1 (k := 53) rfl
theorem fl_X3_46 : Cond.fieldLink RX3 46 "DrumTowns$Town" "playings" "I" ∈ wsA := inA (tb1 (k := 54) rfl) rfl
theorem fn_X6_223 : Cond.fieldLinkNest RX6 223 "DrumTowns$Town" "playings" "I" "DrumTowns" ∈ lw_tbl := tb1 (k := 55) rfl
theorem fl_X3_49 : Cond.fieldLink RX3 49 "DrumTowns$Town" "sounds" "I" ∈ wsA := inA (tb1 (k := 56) rfl) rfl
theorem fn_X6_226 : Cond.fieldLinkNest RX6 226 "DrumTowns$Town" "sounds" "I" "DrumTowns" ∈ lw_tbl := tb1 (k := 57) rfl
theorem fl_X3_53 : Cond.fieldLink RX3 53 "DrumTowns$Town" "fallen" "I" ∈ wsA := inA (tb1 (k := 58) rfl) rfl
theorem fn_X6_227 : Cond.fieldLinkNest RX6 227 "DrumTowns$Town" "fallen" "I" "DrumTowns" ∈ lw_tbl := tb1 (k := 59) rfl
theorem ac_75 : Cond.arrayClass .int ∈ wsA := inA (tb1 (k := 75) rfl) rfl
theorem fn_X0_27 : Cond.fieldLinkNest RX0 27 "DrumTowns" "FIRST_VALUES" "[I" "DrumTowns" ∈ lw_tbl := tb1 (k := 76) rfl
theorem fl_X0_11 : Cond.fieldLink RX0 11 "DrumTowns$Land" "towns" "[LDrumTowns$Town;" ∈ wsA := inA (tb1 (k := 78) rfl) rfl
theorem fn_X4_30 : Cond.fieldLinkNest RX4 30 "DrumTowns$Land" "towns" "[LDrumTowns$Town;" "DrumTowns" ∈ lw_tbl := tb1 (k := 79) rfl
theorem fn_X6_76 : Cond.fieldLinkNest RX6 76 "DrumTowns$Land" "towns" "[LDrumTowns$Town;" "DrumTowns" ∈ lw_tbl := tb1 (k := 80) rfl
theorem fn_X4_23 : Cond.fieldLinkNest RX4 23 "DrumTowns$Land" "townCount" "I" "DrumTowns" ∈ lw_tbl := tb1 (k := 81) rfl
theorem fn_X2_22 : Cond.fieldLinkNest RX2 22 "DrumTowns$Land" "townCount" "I" "DrumTowns" ∈ lw_tbl := tb1 (k := 82) rfl
theorem fn_X6_59 : Cond.fieldLinkNest RX6 59 "DrumTowns$Land" "townCount" "I" "DrumTowns" ∈ lw_tbl := tb1 (k := 83) rfl
theorem fl_X0_38 : Cond.fieldLink RX0 38 "DrumTowns$Land" "townCount" "I" ∈ wsA := inA (tb1 (k := 84) rfl) rfl
theorem fl_X0_17 : Cond.fieldLink RX0 17 "DrumTowns$Land" "settings" "[I" ∈ wsA := inA (tb1 (k := 85) rfl) rfl
theorem fn_X6_68 : Cond.fieldLinkNest RX6 68 "DrumTowns$Land" "settings" "[I" "DrumTowns" ∈ lw_tbl := tb1 (k := 86) rfl
theorem fl_X0_23 : Cond.fieldLink RX0 23 "DrumTowns$Land" "debts" "[[I" ∈ wsA := inA (tb1 (k := 87) rfl) rfl
theorem fn_X2_31 : Cond.fieldLinkNest RX2 31 "DrumTowns$Land" "debts" "[[I" "DrumTowns" ∈ lw_tbl := tb1 (k := 88) rfl
theorem fn_X6_164 : Cond.fieldLinkNest RX6 164 "DrumTowns$Land" "debts" "[[I" "DrumTowns" ∈ lw_tbl := tb1 (k := 89) rfl
theorem fl_X0_42 : Cond.fieldLink RX0 42 "DrumTowns$Land" "lent" "I" ∈ wsA := inA (tb1 (k := 90) rfl) rfl
theorem fn_X6_168 : Cond.fieldLinkNest RX6 168 "DrumTowns$Land" "lent" "I" "DrumTowns" ∈ lw_tbl := tb1 (k := 91) rfl
theorem fl_X0_45 : Cond.fieldLink RX0 45 "DrumTowns$Land" "repaid" "I" ∈ wsA := inA (tb1 (k := 92) rfl) rfl
theorem fn_X6_173 : Cond.fieldLinkNest RX6 173 "DrumTowns$Land" "repaid" "I" "DrumTowns" ∈ lw_tbl := tb1 (k := 93) rfl
theorem fl_X0_48 : Cond.fieldLink RX0 48 "DrumTowns$Land" "ringsTaken" "I" ∈ wsA := inA (tb1 (k := 94) rfl) rfl
theorem fn_X6_256 : Cond.fieldLinkNest RX6 256 "DrumTowns$Land" "ringsTaken" "I" "DrumTowns" ∈ lw_tbl := tb1 (k := 95) rfl
theorem fl_X0_51 : Cond.fieldLink RX0 51 "DrumTowns$Land" "settled" "I" ∈ wsA := inA (tb1 (k := 96) rfl) rfl
theorem fn_X6_259 : Cond.fieldLinkNest RX6 259 "DrumTowns$Land" "settled" "I" "DrumTowns" ∈ lw_tbl := tb1 (k := 97) rfl
theorem cl_X6_20 : Cond.classLink RX6 20 "DrumTowns$TuneText" ∈ wsA := inA (tb1 (k := 116) rfl) rfl
theorem in_X5 : Cond.instantiable RX5 6 ∈ wsA := inA (tb1 (k := 117) rfl) rfl
theorem mn_X6_22 : Cond.methodLinkNest RX6 22 yX5_init "DrumTowns" ∈ lw_tbl := tb1 (k := 118) rfl
theorem im_X5_init : Cond.instanceMethod yX5_init ∈ wsA := inA (tb1 (k := 119) rfl) rfl
theorem cd_X5_init : Cond.code yX5_init cX5_init 1 none ∈ wsA := inA (tb1 (k := 120) rfl) rfl
theorem ml_X5_3 : Cond.methodLink RX5 3 objectInit ∈ wsA := inA (tb1 (k := 121) rfl) rfl
theorem fl_X5_9 : Cond.fieldLink RX5 9 "DrumTowns$TuneText" "codes" "[I" ∈ wsA := inA (tb1 (k := 122) rfl) rfl
theorem fn_X6_192 : Cond.fieldLinkNest RX6 192 "DrumTowns$TuneText" "codes" "[I" "DrumTowns" ∈ lw_tbl := tb1 (k := 123) rfl
theorem fl_X5_26 : Cond.fieldLink RX5 26 "DrumTowns$TuneText" "length" "I" ∈ wsA := inA (tb1 (k := 124) rfl) rfl
theorem fn_X6_189 : Cond.fieldLinkNest RX6 189 "DrumTowns$TuneText" "length" "I" "DrumTowns" ∈ lw_tbl := tb1 (k := 125) rfl
theorem fl_X5_15 : Cond.fieldLink RX5 15 "DrumTowns$TuneText" "tune" "[I" ∈ wsA := inA (tb1 (k := 126) rfl) rfl
theorem fn_X6_204 : Cond.fieldLinkNest RX6 204 "DrumTowns$TuneText" "tune" "[I" "DrumTowns" ∈ lw_tbl := tb1 (k := 127) rfl
theorem fl_X5_18 : Cond.fieldLink RX5 18 "DrumTowns$TuneText" "stepsRead" "I" ∈ wsA := inA (tb1 (k := 128) rfl) rfl
theorem fl_X5_22 : Cond.fieldLink RX5 22 "DrumTowns$TuneText" "inBrackets" "Z" ∈ wsA := inA (tb1 (k := 129) rfl) rfl
theorem fl_X5_36 : Cond.fieldLink RX5 36 "DrumTowns$TuneText" "bracketTeeth" "I" ∈ wsA := inA (tb1 (k := 130) rfl) rfl
theorem cl_X6_27 : Cond.classLink RX6 27 "DrumTowns$Playing" ∈ wsA := inA (tb1 (k := 144) rfl) rfl
theorem in_X1 : Cond.instantiable RX1 11 ∈ wsA := inA (tb1 (k := 145) rfl) rfl
theorem mn_X6_29 : Cond.methodLinkNest RX6 29 yX1_init "DrumTowns" ∈ lw_tbl := tb1 (k := 146) rfl
theorem im_X1_init : Cond.instanceMethod yX1_init ∈ wsA := inA (tb1 (k := 147) rfl) rfl
theorem cd_X1_init : Cond.code yX1_init cX1_init 1 none ∈ wsA := inA (tb1 (k := 148) rfl) rfl
theorem ml_X1_3 : Cond.methodLink RX1 3 objectInit ∈ wsA := inA (tb1 (k := 149) rfl) rfl
theorem fl_X1_9 : Cond.fieldLink RX1 9 "DrumTowns$Playing" "drum" "[I" ∈ wsA := inA (tb1 (k := 150) rfl) rfl
theorem fn_X3_31 : Cond.fieldLinkNest RX3 31 "DrumTowns$Playing" "drum" "[I" "DrumTowns" ∈ lw_tbl := tb1 (k := 151) rfl
theorem fl_X1_15 : Cond.fieldLink RX1 15 "DrumTowns$Playing" "wear" "[I" ∈ wsA := inA (tb1 (k := 152) rfl) rfl
theorem fn_X3_38 : Cond.fieldLinkNest RX3 38 "DrumTowns$Playing" "wear" "[I" "DrumTowns" ∈ lw_tbl := tb1 (k := 153) rfl
theorem fl_X1_18 : Cond.fieldLink RX1 18 "DrumTowns$Playing" "latest" "[I" ∈ wsA := inA (tb1 (k := 154) rfl) rfl
theorem fl_X1_21 : Cond.fieldLink RX1 21 "DrumTowns$Playing" "sounding" "[I" ∈ wsA := inA (tb1 (k := 155) rfl) rfl
theorem fn_X6_239 : Cond.fieldLinkNest RX6 239 "DrumTowns$Playing" "sounding" "[I" "DrumTowns" ∈ lw_tbl := tb1 (k := 156) rfl
theorem fl_X1_32 : Cond.fieldLink RX1 32 "DrumTowns$Playing" "rest" "I" ∈ wsA := inA (tb1 (k := 157) rfl) rfl
theorem fl_X1_36 : Cond.fieldLink RX1 36 "DrumTowns$Playing" "dullFrom" "I" ∈ wsA := inA (tb1 (k := 158) rfl) rfl
theorem fl_X1_50 : Cond.fieldLink RX1 50 "DrumTowns$Playing" "sounds" "I" ∈ wsA := inA (tb1 (k := 159) rfl) rfl
theorem fn_X3_52 : Cond.fieldLinkNest RX3 52 "DrumTowns$Playing" "sounds" "I" "DrumTowns" ∈ lw_tbl := tb1 (k := 160) rfl
theorem fn_X6_152 : Cond.fieldLinkNest RX6 152 "DrumTowns$Playing" "sounds" "I" "DrumTowns" ∈ lw_tbl := tb1 (k := 161) rfl
theorem fl_X1_53 : Cond.fieldLink RX1 53 "DrumTowns$Playing" "stayed" "I" ∈ wsA := inA (tb1 (k := 162) rfl) rfl
theorem fl_X1_56 : Cond.fieldLink RX1 56 "DrumTowns$Playing" "fallen" "I" ∈ wsA := inA (tb1 (k := 163) rfl) rfl
theorem fn_X3_43 : Cond.fieldLinkNest RX3 43 "DrumTowns$Playing" "fallen" "I" "DrumTowns" ∈ lw_tbl := tb1 (k := 164) rfl
theorem fl_X1_59 : Cond.fieldLink RX1 59 "DrumTowns$Playing" "rightSounds" "I" ∈ wsA := inA (tb1 (k := 165) rfl) rfl
theorem fl_X1_62 : Cond.fieldLink RX1 62 "DrumTowns$Playing" "rightFallen" "I" ∈ wsA := inA (tb1 (k := 166) rfl) rfl
theorem fn_X6_280 : Cond.fieldLinkNest RX6 280 "DrumTowns$Playing" "rightFallen" "I" "DrumTowns" ∈ lw_tbl := tb1 (k := 167) rfl
theorem cl_X6_34 : Cond.classLink RX6 34 "DrumTowns$Ring" ∈ wsA := inA (tb1 (k := 191) rfl) rfl
theorem in_X2 : Cond.instantiable RX2 3 ∈ wsA := inA (tb1 (k := 192) rfl) rfl
theorem mn_X6_36 : Cond.methodLinkNest RX6 36 yX2_init "DrumTowns" ∈ lw_tbl := tb1 (k := 193) rfl
theorem im_X2_init : Cond.instanceMethod yX2_init ∈ wsA := inA (tb1 (k := 194) rfl) rfl
theorem cd_X2_init : Cond.code yX2_init cX2_init 1 none ∈ wsA := inA (tb1 (k := 195) rfl) rfl
theorem ml_X2_3 : Cond.methodLink RX2 3 objectInit ∈ wsA := inA (tb1 (k := 196) rfl) rfl
theorem fl_X2_9 : Cond.fieldLink RX2 9 "DrumTowns$Ring" "row" "[I" ∈ wsA := inA (tb1 (k := 197) rfl) rfl
theorem fn_X0_62 : Cond.fieldLinkNest RX0 62 "DrumTowns$Ring" "row" "[I" "DrumTowns" ∈ lw_tbl := tb1 (k := 198) rfl
theorem fl_X2_15 : Cond.fieldLink RX2 15 "DrumTowns$Ring" "length" "I" ∈ wsA := inA (tb1 (k := 199) rfl) rfl
theorem fn_X0_57 : Cond.fieldLinkNest RX0 57 "DrumTowns$Ring" "length" "I" "DrumTowns" ∈ lw_tbl := tb1 (k := 200) rfl
theorem fn_X6_180 : Cond.fieldLinkNest RX6 180 "DrumTowns$Ring" "length" "I" "DrumTowns" ∈ lw_tbl := tb1 (k := 201) rfl
theorem fl_X2_19 : Cond.fieldLink RX2 19 "DrumTowns$Ring" "least" "I" ∈ wsA := inA (tb1 (k := 202) rfl) rfl
theorem fn_X0_69 : Cond.fieldLinkNest RX0 69 "DrumTowns$Ring" "least" "I" "DrumTowns" ∈ lw_tbl := tb1 (k := 203) rfl
theorem cl_X6_41 : Cond.classLink RX6 41 "DrumTowns$Trades" ∈ wsA := inA (tb1 (k := 211) rfl) rfl
theorem in_X4 : Cond.instantiable RX4 5 ∈ wsA := inA (tb1 (k := 212) rfl) rfl
theorem mn_X6_43 : Cond.methodLinkNest RX6 43 yX4_init "DrumTowns" ∈ lw_tbl := tb1 (k := 213) rfl
theorem im_X4_init : Cond.instanceMethod yX4_init ∈ wsA := inA (tb1 (k := 214) rfl) rfl
theorem cd_X4_init : Cond.code yX4_init cX4_init 1 none ∈ wsA := inA (tb1 (k := 215) rfl) rfl
theorem ml_X4_3 : Cond.methodLink RX4 3 objectInit ∈ wsA := inA (tb1 (k := 216) rfl) rfl
theorem cl_X4_9 : Cond.classLink RX4 9 "[[I" ∈ wsA := inA (tb1 (k := 217) rfl) rfl
theorem fl_X4_11 : Cond.fieldLink RX4 11 "DrumTowns$Trades" "fit" "[[I" ∈ wsA := inA (tb1 (k := 218) rfl) rfl
theorem fl_X4_16 : Cond.fieldLink RX4 16 "DrumTowns$Trades" "rest" "[I" ∈ wsA := inA (tb1 (k := 219) rfl) rfl
theorem fl_X4_20 : Cond.fieldLink RX4 20 "DrumTowns$Trades" "drumOf" "[I" ∈ wsA := inA (tb1 (k := 220) rfl) rfl
theorem fl_X4_29 : Cond.fieldLink RX4 29 "DrumTowns$Trades" "townCount" "I" ∈ wsA := inA (tb1 (k := 221) rfl) rfl
theorem fl_X4_59 : Cond.fieldLink RX4 59 "DrumTowns$Trades" "most" "I" ∈ wsA := inA (tb1 (k := 222) rfl) rfl
theorem fl_X6_10 : Cond.fieldLink RX6 10 "DrumTowns" "land" "LDrumTowns$Land;" ∈ wsA := inA (tb1 (k := 234) rfl) rfl
theorem fl_X6_16 : Cond.fieldLink RX6 16 "DrumTowns" "saved" "[LDrumTowns$Land;" ∈ wsA := inA (tb1 (k := 235) rfl) rfl
theorem fl_X6_208 : Cond.fieldLink RX6 208 "DrumTowns" "savedCount" "I" ∈ wsA := inA (tb1 (k := 236) rfl) rfl
theorem fl_X6_23 : Cond.fieldLink RX6 23 "DrumTowns" "text" "LDrumTowns$TuneText;" ∈ wsA := inA (tb1 (k := 237) rfl) rfl
theorem fl_X6_30 : Cond.fieldLink RX6 30 "DrumTowns" "playing" "LDrumTowns$Playing;" ∈ wsA := inA (tb1 (k := 238) rfl) rfl
theorem fl_X6_37 : Cond.fieldLink RX6 37 "DrumTowns" "ring" "LDrumTowns$Ring;" ∈ wsA := inA (tb1 (k := 239) rfl) rfl
theorem fl_X6_44 : Cond.fieldLink RX6 44 "DrumTowns" "trades" "LDrumTowns$Trades;" ∈ wsA := inA (tb2 (k := 0) rfl) rfl
theorem fl_X6_48 : Cond.fieldLink RX6 48 "DrumTowns" "turned" "[I" ∈ wsA := inA (tb2 (k := 1) rfl) rfl
theorem ml_L_47 : Cond.methodLink RL 47 yX6_set ∈ wsA := inA (tb2 (k := 19) rfl) rfl
theorem im_X6_set : Cond.instanceMethod yX6_set ∈ wsA := inA (tb2 (k := 20) rfl) rfl
theorem sl_X6_set : Cond.selects RX6 yX6_set yX6_set ∈ wsA := inA (tb2 (k := 21) rfl) rfl
theorem cd_X6_set : Cond.code yX6_set cX6_set 4 (some .int) ∈ wsA := inA (tb2 (k := 22) rfl) rfl
theorem ml_X6_85 : Cond.methodLink RX6 85 yX6_checkSetting ∈ wsA := inA (tb2 (k := 23) rfl) rfl
theorem sc_X6_checkSetting : Cond.static yX6_checkSetting ∈ wsA := inA (tb2 (k := 24) rfl) rfl
theorem cd_X6_checkSetting : Cond.code yX6_checkSetting cX6_checkSetting 1 none ∈ wsA := inA (tb2 (k := 25) rfl) rfl
theorem cl_X6_355 : Cond.classLink RX6 355 "java/lang/IndexOutOfBoundsException" ∈ wsA := inA (tb2 (k := 26) rfl) rfl
theorem ml_X6_359 : Cond.methodLink RX6 359 ⟨"java/lang/IndexOutOfBoundsException", "<init>", "(Ljava/lang/String;)V"⟩ ∈ wsA := inA (tb2 (k := 68) rfl) rfl
theorem ac_93 : Cond.arrayClass .byte ∈ wsA := inA (tb2 (k := 93) rfl) rfl
theorem fl_X6_89 : Cond.fieldLink RX6 89 "DrumTowns" "LEAST_VALUES" "[I" ∈ wsA := inA (tb2 (k := 94) rfl) rfl
theorem fl_X6_92 : Cond.fieldLink RX6 92 "DrumTowns" "GREATEST_VALUES" "[I" ∈ wsA := inA (tb2 (k := 96) rfl) rfl
theorem cl_X6_52 : Cond.classLink RX6 52 "java/lang/IllegalArgumentException" ∈ wsA := inA (tb2 (k := 98) rfl) rfl
theorem ml_X6_56 : Cond.methodLink RX6 56 ⟨"java/lang/IllegalArgumentException", "<init>", "(Ljava/lang/String;)V"⟩ ∈ wsA := inA (tb2 (k := 108) rfl) rfl
theorem ml_X6_73 : Cond.methodLink RX6 73 yX6_saveState ∈ wsA := inA (tb2 (k := 114) rfl) rfl
theorem im_X6_saveState : Cond.instanceMethod yX6_saveState ∈ wsA := inA (tb2 (k := 116) rfl) rfl
theorem cd_X6_saveState : Cond.code yX6_saveState cX6_saveState 1 none ∈ wsA := inA (tb2 (k := 117) rfl) rfl
theorem ml_X6_372 : Cond.methodLink RX6 372 yX6_dropOldest ∈ wsA := inA (tb2 (k := 118) rfl) rfl
theorem im_X6_dropOldest : Cond.instanceMethod yX6_dropOldest ∈ wsA := inA (tb2 (k := 120) rfl) rfl
theorem cd_X6_dropOldest : Cond.code yX6_dropOldest cX6_dropOldest 3 none ∈ wsA := inA (tb2 (k := 121) rfl) rfl
theorem mn_X6_213 : Cond.methodLinkNest RX6 213 yX0_takeFrom "DrumTowns" ∈ lw_tbl := tb2 (k := 122) rfl
theorem im_X0_takeFrom : Cond.instanceMethod yX0_takeFrom ∈ wsA := inA (tb2 (k := 124) rfl) rfl
theorem cd_X0_takeFrom : Cond.code yX0_takeFrom cX0_takeFrom 3 none ∈ wsA := inA (tb2 (k := 125) rfl) rfl
theorem mn_X0_30 : Cond.methodLinkNest RX0 30 yX3_takeFrom "DrumTowns" ∈ lw_tbl := tb2 (k := 126) rfl
theorem im_X3_takeFrom : Cond.instanceMethod yX3_takeFrom ∈ wsA := inA (tb2 (k := 128) rfl) rfl
theorem cd_X3_takeFrom : Cond.code yX3_takeFrom cX3_takeFrom 2 none ∈ wsA := inA (tb2 (k := 129) rfl) rfl
theorem mn_X3_34 : Cond.methodLinkNest RX3 34 yX6_copyRow "DrumTowns" ∈ lw_tbl := tb2 (k := 130) rfl
theorem sc_X6_copyRow : Cond.static yX6_copyRow ∈ wsA := inA (tb2 (k := 131) rfl) rfl
theorem cd_X6_copyRow : Cond.code yX6_copyRow cX6_copyRow 2 none ∈ wsA := inA (tb2 (k := 132) rfl) rfl
theorem ml_X6_375 : Cond.methodLink RX6 375 yJ9_min_7cf53 ∈ wsA := inA (tb2 (k := 133) rfl) rfl
theorem sc_J9_min_7cf53 : Cond.static yJ9_min_7cf53 ∈ wsA := inA (tb2 (k := 134) rfl) rfl
theorem cd_J9_min_7cf53 : Cond.code yJ9_min_7cf53 cJ9_min_7cf53 2 (some .int) ∈ wsA := inA (tb2 (k := 135) rfl) rfl
theorem ml_X6_380 : Cond.methodLink RX6 380 arraycopyName ∈ wsA := inA (tb2 (k := 136) rfl) rfl
theorem sc_arraycopy : Cond.static arraycopyName ∈ wsA := inA (tb2 (k := 137) rfl) rfl
theorem na_arraycopy : Cond.native arraycopyName ∈ wsA := inA (tb2 (k := 138) rfl) rfl
theorem mn_X0_34 : Cond.methodLinkNest RX0 34 yX6_copyRow "DrumTowns" ∈ lw_tbl := tb2 (k := 139) rfl
theorem ml_L_128 : Cond.methodLink RL 128 yX6_append ∈ wsA := inA (tb2 (k := 140) rfl) rfl
theorem im_X6_append : Cond.instanceMethod yX6_append ∈ wsA := inA (tb2 (k := 141) rfl) rfl
theorem sl_X6_append : Cond.selects RX6 yX6_append yX6_append ∈ wsA := inA (tb2 (k := 142) rfl) rfl
theorem cd_X6_append : Cond.code yX6_append cX6_append 2 (some .int) ∈ wsA := inA (tb2 (k := 143) rfl) rfl
theorem cl_X6_63 : Cond.classLink RX6 63 "java/lang/IllegalStateException" ∈ wsA := inA (tb2 (k := 145) rfl) rfl
theorem ml_X6_67 : Cond.methodLink RX6 67 ⟨"java/lang/IllegalStateException", "<init>", "(Ljava/lang/String;)V"⟩ ∈ wsA := inA (tb2 (k := 155) rfl) rfl
theorem ml_L_107 : Cond.methodLink RL 107 yX6_undo ∈ wsA := inA (tb2 (k := 161) rfl) rfl
theorem im_X6_undo : Cond.instanceMethod yX6_undo ∈ wsA := inA (tb2 (k := 162) rfl) rfl
theorem sl_X6_undo : Cond.selects RX6 yX6_undo yX6_undo ∈ wsA := inA (tb2 (k := 163) rfl) rfl
theorem cd_X6_undo : Cond.code yX6_undo cX6_undo 1 (some .int) ∈ wsA := inA (tb2 (k := 164) rfl) rfl
theorem ml_L_53 : Cond.methodLink RL 53 yX6_count ∈ wsA := inA (tb2 (k := 166) rfl) rfl
theorem im_X6_count : Cond.instanceMethod yX6_count ∈ wsA := inA (tb2 (k := 167) rfl) rfl
theorem sl_X6_count : Cond.selects RX6 yX6_count yX6_count ∈ wsA := inA (tb2 (k := 168) rfl) rfl
theorem cd_X6_count : Cond.code yX6_count cX6_count 2 (some .int) ∈ wsA := inA (tb2 (k := 169) rfl) rfl
theorem mn_X6_244 : Cond.methodLinkNest RX6 244 yX0_pinsInBoxes "DrumTowns" ∈ lw_tbl := tb2 (k := 170) rfl
theorem im_X0_pinsInBoxes : Cond.instanceMethod yX0_pinsInBoxes ∈ wsA := inA (tb2 (k := 172) rfl) rfl
theorem cd_X0_pinsInBoxes : Cond.code yX0_pinsInBoxes cX0_pinsInBoxes 3 (some .int) ∈ wsA := inA (tb2 (k := 173) rfl) rfl
theorem mn_X6_247 : Cond.methodLinkNest RX6 247 yX0_pinsInDrums "DrumTowns" ∈ lw_tbl := tb2 (k := 174) rfl
theorem im_X0_pinsInDrums : Cond.instanceMethod yX0_pinsInDrums ∈ wsA := inA (tb2 (k := 176) rfl) rfl
theorem cd_X0_pinsInDrums : Cond.code yX0_pinsInDrums cX0_pinsInDrums 3 (some .int) ∈ wsA := inA (tb2 (k := 177) rfl) rfl
theorem mn_X0_78 : Cond.methodLinkNest RX0 78 yX6_sizeOf "DrumTowns" ∈ lw_tbl := tb2 (k := 178) rfl
theorem sc_X6_sizeOf : Cond.static yX6_sizeOf ∈ wsA := inA (tb2 (k := 179) rfl) rfl
theorem cd_X6_sizeOf : Cond.code yX6_sizeOf cX6_sizeOf 6 (some .int) ∈ wsA := inA (tb2 (k := 180) rfl) rfl
theorem ml_X6_386 : Cond.methodLink RX6 386 yJ6_bitCount_0f7a4 ∈ wsA := inA (tb2 (k := 181) rfl) rfl
theorem sc_J6_bitCount_0f7a4 : Cond.static yJ6_bitCount_0f7a4 ∈ wsA := inA (tb2 (k := 182) rfl) rfl
theorem cd_J6_bitCount_0f7a4 : Cond.code yJ6_bitCount_0f7a4 cJ6_bitCount_0f7a4 1 (some .int) ∈ wsA := inA (tb2 (k := 183) rfl) rfl
theorem kc_J6_265 : Cond.constant RJ6 265 (1431655765 : Int32) ∈ wsA := inA (tb2 (k := 184) rfl) rfl
theorem kc_J6_266 : Cond.constant RJ6 266 (858993459 : Int32) ∈ wsA := inA (tb2 (k := 185) rfl) rfl
theorem kc_J6_267 : Cond.constant RJ6 267 (252645135 : Int32) ∈ wsA := inA (tb2 (k := 186) rfl) rfl
theorem mn_X6_250 : Cond.methodLinkNest RX6 250 yX0_allDebts "DrumTowns" ∈ lw_tbl := tb2 (k := 187) rfl
theorem im_X0_allDebts : Cond.instanceMethod yX0_allDebts ∈ wsA := inA (tb2 (k := 189) rfl) rfl
theorem cd_X0_allDebts : Cond.code yX0_allDebts cX0_allDebts 3 (some .int) ∈ wsA := inA (tb2 (k := 190) rfl) rfl
theorem ml_X0_72 : Cond.methodLink RX0 72 yX0_owedBy ∈ wsA := inA (tb2 (k := 191) rfl) rfl
theorem im_X0_owedBy : Cond.instanceMethod yX0_owedBy ∈ wsA := inA (tb2 (k := 193) rfl) rfl
theorem cd_X0_owedBy : Cond.code yX0_owedBy cX0_owedBy 4 (some .int) ∈ wsA := inA (tb2 (k := 194) rfl) rfl
theorem mn_X6_253 : Cond.methodLinkNest RX6 253 yX0_owingPairs "DrumTowns" ∈ lw_tbl := tb2 (k := 195) rfl
theorem im_X0_owingPairs : Cond.instanceMethod yX0_owingPairs ∈ wsA := inA (tb2 (k := 197) rfl) rfl
theorem cd_X0_owingPairs : Cond.code yX0_owingPairs cX0_owingPairs 4 (some .int) ∈ wsA := inA (tb2 (k := 198) rfl) rfl
theorem mn_X6_262 : Cond.methodLinkNest RX6 262 yX0_allRightPins "DrumTowns" ∈ lw_tbl := tb2 (k := 199) rfl
theorem im_X0_allRightPins : Cond.instanceMethod yX0_allRightPins ∈ wsA := inA (tb2 (k := 201) rfl) rfl
theorem cd_X0_allRightPins : Cond.code yX0_allRightPins cX0_allRightPins 3 (some .int) ∈ wsA := inA (tb2 (k := 202) rfl) rfl
theorem mn_X0_82 : Cond.methodLinkNest RX0 82 yX3_rightPins "DrumTowns" ∈ lw_tbl := tb2 (k := 203) rfl
theorem im_X3_rightPins : Cond.instanceMethod yX3_rightPins ∈ wsA := inA (tb2 (k := 205) rfl) rfl
theorem cd_X3_rightPins : Cond.code yX3_rightPins cX3_rightPins 1 (some .int) ∈ wsA := inA (tb2 (k := 206) rfl) rfl
theorem mn_X3_21 : Cond.methodLinkNest RX3 21 yX6_sharedBy "DrumTowns" ∈ lw_tbl := tb2 (k := 207) rfl
theorem sc_X6_sharedBy : Cond.static yX6_sharedBy ∈ wsA := inA (tb2 (k := 208) rfl) rfl
theorem cd_X6_sharedBy : Cond.code yX6_sharedBy cX6_sharedBy 4 (some .int) ∈ wsA := inA (tb2 (k := 209) rfl) rfl
theorem ml_L_151 : Cond.methodLink RL 151 yX6_setting ∈ wsA := inA (tb2 (k := 211) rfl) rfl
theorem im_X6_setting : Cond.instanceMethod yX6_setting ∈ wsA := inA (tb2 (k := 212) rfl) rfl
theorem sl_X6_setting : Cond.selects RX6 yX6_setting yX6_setting ∈ wsA := inA (tb2 (k := 213) rfl) rfl
theorem cd_X6_setting : Cond.code yX6_setting cX6_setting 2 (some .int) ∈ wsA := inA (tb2 (k := 214) rfl) rfl
theorem ml_L_113 : Cond.methodLink RL 113 yX6_digest ∈ wsA := inA (tb2 (k := 215) rfl) rfl
theorem im_X6_digest : Cond.instanceMethod yX6_digest ∈ wsA := inA (tb2 (k := 216) rfl) rfl
theorem sl_X6_digest : Cond.selects RX6 yX6_digest yX6_digest ∈ wsA := inA (tb2 (k := 217) rfl) rfl
theorem cd_X6_digest : Cond.code yX6_digest cX6_digest 4 (some .long) ∈ wsA := inA (tb2 (k := 218) rfl) rfl
theorem kc_X6_303 : Cond.constantLong RX6 303 (2357 : Int64) ∈ wsA := inA (tb2 (k := 219) rfl) rfl
theorem ml_X6_305 : Cond.methodLink RX6 305 yX6_count ∈ wsA := inA (tb2 (k := 220) rfl) rfl
theorem ml_X6_308 : Cond.methodLink RX6 308 yX6_mixed ∈ wsA := inA (tb2 (k := 221) rfl) rfl
theorem sc_X6_mixed : Cond.static yX6_mixed ∈ wsA := inA (tb2 (k := 222) rfl) rfl
theorem cd_X6_mixed : Cond.code yX6_mixed cX6_mixed 4 (some .long) ∈ wsA := inA (tb2 (k := 223) rfl) rfl
theorem kc_X6_334 : Cond.constantLong RX6 334 (31 : Int64) ∈ wsA := inA (tb2 (k := 224) rfl) rfl
theorem ml_X6_312 : Cond.methodLink RX6 312 yX6_mixedWithTown ∈ wsA := inA (tb2 (k := 225) rfl) rfl
theorem im_X6_mixedWithTown : Cond.instanceMethod yX6_mixedWithTown ∈ wsA := inA (tb2 (k := 227) rfl) rfl
theorem cd_X6_mixedWithTown : Cond.code yX6_mixedWithTown cX6_mixedWithTown 7 (some .long) ∈ wsA := inA (tb2 (k := 228) rfl) rfl
theorem ml_X6_336 : Cond.methodLink RX6 336 yX6_town ∈ wsA := inA (tb2 (k := 229) rfl) rfl
theorem im_X6_town : Cond.instanceMethod yX6_town ∈ wsA := inA (tb2 (k := 230) rfl) rfl
theorem sl_X6_town : Cond.selects RX6 yX6_town yX6_town ∈ wsA := inA (tb2 (k := 231) rfl) rfl
theorem cd_X6_town : Cond.code yX6_town cX6_town 4 (some .int) ∈ wsA := inA (tb2 (k := 232) rfl) rfl
theorem ml_X6_120 : Cond.methodLink RX6 120 yX6_checkTown ∈ wsA := inA (tb2 (k := 233) rfl) rfl
theorem im_X6_checkTown : Cond.instanceMethod yX6_checkTown ∈ wsA := inA (tb2 (k := 235) rfl) rfl
theorem cd_X6_checkTown : Cond.code yX6_checkTown cX6_checkTown 2 none ∈ wsA := inA (tb2 (k := 236) rfl) rfl
theorem ml_X6_112 : Cond.methodLink RX6 112 yX6_sizeOf ∈ wsA := inA (tb2 (k := 238) rfl) rfl
theorem mn_X6_129 : Cond.methodLinkNest RX6 129 yX3_rightPins "DrumTowns" ∈ lw_tbl := tb2 (k := 239) rfl
theorem mn_X6_216 : Cond.methodLinkNest RX6 216 yX0_owedBy "DrumTowns" ∈ lw_tbl := tb3 (k := 0) rfl
theorem mn_X6_220 : Cond.methodLinkNest RX6 220 yX0_owedTo "DrumTowns" ∈ lw_tbl := tb3 (k := 1) rfl
theorem im_X0_owedTo : Cond.instanceMethod yX0_owedTo ∈ wsA := inA (tb3 (k := 3) rfl) rfl
theorem cd_X0_owedTo : Cond.code yX0_owedTo cX0_owedTo 4 (some .int) ∈ wsA := inA (tb3 (k := 4) rfl) rfl
theorem ml_X6_230 : Cond.methodLink RX6 230 yX6_dullTeeth ∈ wsA := inA (tb3 (k := 5) rfl) rfl
theorem sc_X6_dullTeeth : Cond.static yX6_dullTeeth ∈ wsA := inA (tb3 (k := 6) rfl) rfl
theorem cd_X6_dullTeeth : Cond.code yX6_dullTeeth cX6_dullTeeth 7 (some .int) ∈ wsA := inA (tb3 (k := 7) rfl) rfl
theorem ml_X6_145 : Cond.methodLink RX6 145 yX6_foresee ∈ wsA := inA (tb3 (k := 9) rfl) rfl
theorem im_X6_foresee : Cond.instanceMethod yX6_foresee ∈ wsA := inA (tb3 (k := 11) rfl) rfl
theorem cd_X6_foresee : Cond.code yX6_foresee cX6_foresee 3 none ∈ wsA := inA (tb3 (k := 12) rfl) rfl
theorem mn_X6_272 : Cond.methodLinkNest RX6 272 yX1_begin "DrumTowns" ∈ lw_tbl := tb3 (k := 13) rfl
theorem im_X1_begin : Cond.instanceMethod yX1_begin ∈ wsA := inA (tb3 (k := 15) rfl) rfl
theorem cd_X1_begin : Cond.code yX1_begin cX1_begin 3 none ∈ wsA := inA (tb3 (k := 16) rfl) rfl
theorem mn_X1_27 : Cond.methodLinkNest RX1 27 yX6_copyRow "DrumTowns" ∈ lw_tbl := tb3 (k := 17) rfl
theorem mn_X6_276 : Cond.methodLinkNest RX6 276 yX1_goThrough "DrumTowns" ∈ lw_tbl := tb3 (k := 18) rfl
theorem im_X1_goThrough : Cond.instanceMethod yX1_goThrough ∈ wsA := inA (tb3 (k := 20) rfl) rfl
theorem cd_X1_goThrough : Cond.code yX1_goThrough cX1_goThrough 3 none ∈ wsA := inA (tb3 (k := 21) rfl) rfl
theorem ml_X1_39 : Cond.methodLink RX1 39 yX1_forgetSounds ∈ wsA := inA (tb3 (k := 22) rfl) rfl
theorem im_X1_forgetSounds : Cond.instanceMethod yX1_forgetSounds ∈ wsA := inA (tb3 (k := 24) rfl) rfl
theorem cd_X1_forgetSounds : Cond.code yX1_forgetSounds cX1_forgetSounds 2 none ∈ wsA := inA (tb3 (k := 25) rfl) rfl
theorem ml_X1_42 : Cond.methodLink RX1 42 yX1_passStep ∈ wsA := inA (tb3 (k := 26) rfl) rfl
theorem im_X1_passStep : Cond.instanceMethod yX1_passStep ∈ wsA := inA (tb3 (k := 28) rfl) rfl
theorem cd_X1_passStep : Cond.code yX1_passStep cX1_passStep 4 none ∈ wsA := inA (tb3 (k := 29) rfl) rfl
theorem ml_X1_46 : Cond.methodLink RX1 46 yX1_meetPin ∈ wsA := inA (tb3 (k := 30) rfl) rfl
theorem im_X1_meetPin : Cond.instanceMethod yX1_meetPin ∈ wsA := inA (tb3 (k := 32) rfl) rfl
theorem cd_X1_meetPin : Cond.code yX1_meetPin cX1_meetPin 4 none ∈ wsA := inA (tb3 (k := 33) rfl) rfl
theorem mn_X6_269 : Cond.methodLinkNest RX6 269 yX1_tell "DrumTowns" ∈ lw_tbl := tb3 (k := 34) rfl
theorem im_X1_tell : Cond.instanceMethod yX1_tell ∈ wsA := inA (tb3 (k := 36) rfl) rfl
theorem cd_X1_tell : Cond.code yX1_tell cX1_tell 2 (some .int) ∈ wsA := inA (tb3 (k := 37) rfl) rfl
theorem mn_X1_65 : Cond.methodLinkNest RX1 65 yX6_dullTeeth "DrumTowns" ∈ lw_tbl := tb3 (k := 38) rfl
theorem ml_X6_340 : Cond.methodLink RX6 340 yX6_lastsFor ∈ wsA := inA (tb3 (k := 39) rfl) rfl
theorem im_X6_lastsFor : Cond.instanceMethod yX6_lastsFor ∈ wsA := inA (tb3 (k := 40) rfl) rfl
theorem sl_X6_lastsFor : Cond.selects RX6 yX6_lastsFor yX6_lastsFor ∈ wsA := inA (tb3 (k := 41) rfl) rfl
theorem cd_X6_lastsFor : Cond.code yX6_lastsFor cX6_lastsFor 4 (some .int) ∈ wsA := inA (tb3 (k := 42) rfl) rfl
theorem ml_X6_343 : Cond.methodLink RX6 343 yX6_bestTurn ∈ wsA := inA (tb3 (k := 43) rfl) rfl
theorem im_X6_bestTurn : Cond.instanceMethod yX6_bestTurn ∈ wsA := inA (tb3 (k := 44) rfl) rfl
theorem sl_X6_bestTurn : Cond.selects RX6 yX6_bestTurn yX6_bestTurn ∈ wsA := inA (tb3 (k := 45) rfl) rfl
theorem cd_X6_bestTurn : Cond.code yX6_bestTurn cX6_bestTurn 7 (some .int) ∈ wsA := inA (tb3 (k := 46) rfl) rfl
theorem mn_X6_285 : Cond.methodLinkNest RX6 285 yX3_rightIfTurned "DrumTowns" ∈ lw_tbl := tb3 (k := 48) rfl
theorem im_X3_rightIfTurned : Cond.instanceMethod yX3_rightIfTurned ∈ wsA := inA (tb3 (k := 50) rfl) rfl
theorem cd_X3_rightIfTurned : Cond.code yX3_rightIfTurned cX3_rightIfTurned 4 (some .int) ∈ wsA := inA (tb3 (k := 51) rfl) rfl
theorem ml_X3_25 : Cond.methodLink RX3 25 yJ6_bitCount_0f7a4 ∈ wsA := inA (tb3 (k := 52) rfl) rfl
theorem ml_X6_346 : Cond.methodLink RX6 346 yX6_bestDrum ∈ wsA := inA (tb3 (k := 53) rfl) rfl
theorem im_X6_bestDrum : Cond.instanceMethod yX6_bestDrum ∈ wsA := inA (tb3 (k := 54) rfl) rfl
theorem sl_X6_bestDrum : Cond.selects RX6 yX6_bestDrum yX6_bestDrum ∈ wsA := inA (tb3 (k := 55) rfl) rfl
theorem cd_X6_bestDrum : Cond.code yX6_bestDrum cX6_bestDrum 6 (some .int) ∈ wsA := inA (tb3 (k := 56) rfl) rfl
theorem ml_X6_288 : Cond.methodLink RX6 288 yX6_sharedBy ∈ wsA := inA (tb3 (k := 57) rfl) rfl
theorem ml_X6_316 : Cond.methodLink RX6 316 yX6_mixedWithRows ∈ wsA := inA (tb3 (k := 58) rfl) rfl
theorem im_X6_mixedWithRows : Cond.instanceMethod yX6_mixedWithRows ∈ wsA := inA (tb3 (k := 60) rfl) rfl
theorem cd_X6_mixedWithRows : Cond.code yX6_mixedWithRows cX6_mixedWithRows 8 (some .long) ∈ wsA := inA (tb3 (k := 61) rfl) rfl
theorem ml_X6_319 : Cond.methodLink RX6 319 yX6_mixedWithTrades ∈ wsA := inA (tb3 (k := 62) rfl) rfl
theorem im_X6_mixedWithTrades : Cond.instanceMethod yX6_mixedWithTrades ∈ wsA := inA (tb3 (k := 64) rfl) rfl
theorem cd_X6_mixedWithTrades : Cond.code yX6_mixedWithTrades cX6_mixedWithTrades 6 (some .long) ∈ wsA := inA (tb3 (k := 65) rfl) rfl
theorem mn_X6_298 : Cond.methodLinkNest RX6 298 yX4_find "DrumTowns" ∈ lw_tbl := tb3 (k := 66) rfl
theorem im_X4_find : Cond.instanceMethod yX4_find ∈ wsA := inA (tb3 (k := 68) rfl) rfl
theorem cd_X4_find : Cond.code yX4_find cX4_find 5 none ∈ wsA := inA (tb3 (k := 69) rfl) rfl
theorem mn_X4_42 : Cond.methodLinkNest RX4 42 yX6_sharedBy "DrumTowns" ∈ lw_tbl := tb3 (k := 70) rfl
theorem ml_X4_46 : Cond.methodLink RX4 46 yJ6_bitCount_0f7a4 ∈ wsA := inA (tb3 (k := 71) rfl) rfl
theorem ml_X4_52 : Cond.methodLink RX4 52 yX4_firstBest ∈ wsA := inA (tb3 (k := 72) rfl) rfl
theorem im_X4_firstBest : Cond.instanceMethod yX4_firstBest ∈ wsA := inA (tb3 (k := 74) rfl) rfl
theorem cd_X4_firstBest : Cond.code yX4_firstBest cX4_firstBest 6 (some .int) ∈ wsA := inA (tb3 (k := 75) rfl) rfl
theorem ml_X4_55 : Cond.methodLink RX4 55 yX4_broughtBy ∈ wsA := inA (tb3 (k := 76) rfl) rfl
theorem im_X4_broughtBy : Cond.instanceMethod yX4_broughtBy ∈ wsA := inA (tb3 (k := 78) rfl) rfl
theorem cd_X4_broughtBy : Cond.code yX4_broughtBy cX4_broughtBy 4 (some .int) ∈ wsA := inA (tb3 (k := 79) rfl) rfl
theorem ml_X4_62 : Cond.methodLink RX4 62 yX4_choose ∈ wsA := inA (tb3 (k := 80) rfl) rfl
theorem im_X4_choose : Cond.instanceMethod yX4_choose ∈ wsA := inA (tb3 (k := 82) rfl) rfl
theorem cd_X4_choose : Cond.code yX4_choose cX4_choose 4 none ∈ wsA := inA (tb3 (k := 83) rfl) rfl
theorem mn_X6_299 : Cond.methodLinkNest RX6 299 yX4_tell "DrumTowns" ∈ lw_tbl := tb3 (k := 84) rfl
theorem im_X4_tell : Cond.instanceMethod yX4_tell ∈ wsA := inA (tb3 (k := 86) rfl) rfl
theorem cd_X4_tell : Cond.code yX4_tell cX4_tell 3 (some .int) ∈ wsA := inA (tb3 (k := 87) rfl) rfl
theorem ml_X6_323 : Cond.methodLink RX6 323 yX6_mixedWithRing ∈ wsA := inA (tb3 (k := 88) rfl) rfl
theorem im_X6_mixedWithRing : Cond.instanceMethod yX6_mixedWithRing ∈ wsA := inA (tb3 (k := 90) rfl) rfl
theorem cd_X6_mixedWithRing : Cond.code yX6_mixedWithRing cX6_mixedWithRing 6 (some .long) ∈ wsA := inA (tb3 (k := 91) rfl) rfl
theorem mn_X6_176 : Cond.methodLinkNest RX6 176 yX2_find "DrumTowns" ∈ lw_tbl := tb3 (k := 92) rfl
theorem im_X2_find : Cond.instanceMethod yX2_find ∈ wsA := inA (tb3 (k := 94) rfl) rfl
theorem cd_X2_find : Cond.code yX2_find cX2_find 4 none ∈ wsA := inA (tb3 (k := 95) rfl) rfl
theorem ml_X2_27 : Cond.methodLink RX2 27 yX2_isClosed ∈ wsA := inA (tb3 (k := 96) rfl) rfl
theorem sc_X2_isClosed : Cond.static yX2_isClosed ∈ wsA := inA (tb3 (k := 97) rfl) rfl
theorem cd_X2_isClosed : Cond.code yX2_isClosed cX2_isClosed 7 (some .boolean) ∈ wsA := inA (tb3 (k := 98) rfl) rfl
theorem ml_X2_35 : Cond.methodLink RX2 35 yX2_leastDebt ∈ wsA := inA (tb3 (k := 99) rfl) rfl
theorem im_X2_leastDebt : Cond.instanceMethod yX2_leastDebt ∈ wsA := inA (tb3 (k := 101) rfl) rfl
theorem cd_X2_leastDebt : Cond.code yX2_leastDebt cX2_leastDebt 4 (some .int) ∈ wsA := inA (tb3 (k := 102) rfl) rfl
theorem ml_X2_39 : Cond.methodLink RX2 39 yX2_following ∈ wsA := inA (tb3 (k := 103) rfl) rfl
theorem im_X2_following : Cond.instanceMethod yX2_following ∈ wsA := inA (tb3 (k := 105) rfl) rfl
theorem cd_X2_following : Cond.code yX2_following cX2_following 2 (some .int) ∈ wsA := inA (tb3 (k := 106) rfl) rfl
theorem ml_X2_43 : Cond.methodLink RX2 43 yJ9_min_7cf53 ∈ wsA := inA (tb3 (k := 107) rfl) rfl
theorem mn_X6_302 : Cond.methodLinkNest RX6 302 yX2_tell "DrumTowns" ∈ lw_tbl := tb3 (k := 108) rfl
theorem im_X2_tell : Cond.instanceMethod yX2_tell ∈ wsA := inA (tb3 (k := 110) rfl) rfl
theorem cd_X2_tell : Cond.code yX2_tell cX2_tell 3 (some .int) ∈ wsA := inA (tb3 (k := 111) rfl) rfl
theorem ml_X6_326 : Cond.methodLink RX6 326 yX6_tuneShare ∈ wsA := inA (tb3 (k := 112) rfl) rfl
theorem im_X6_tuneShare : Cond.instanceMethod yX6_tuneShare ∈ wsA := inA (tb3 (k := 113) rfl) rfl
theorem sl_X6_tuneShare : Cond.selects RX6 yX6_tuneShare yX6_tuneShare ∈ wsA := inA (tb3 (k := 114) rfl) rfl
theorem cd_X6_tuneShare : Cond.code yX6_tuneShare cX6_tuneShare 3 (some .double) ∈ wsA := inA (tb3 (k := 115) rfl) rfl
theorem ml_X6_330 : Cond.methodLink RX6 330 yX6_bitsOf ∈ wsA := inA (tb3 (k := 116) rfl) rfl
theorem sc_X6_bitsOf : Cond.static yX6_bitsOf ∈ wsA := inA (tb3 (k := 117) rfl) rfl
theorem cd_X6_bitsOf : Cond.code yX6_bitsOf cX6_bitsOf 8 (some .long) ∈ wsA := inA (tb3 (k := 118) rfl) rfl
theorem kc_X6_349 : Cond.constantLong RX6 349 (1023 : Int64) ∈ wsA := inA (tb3 (k := 119) rfl) rfl
theorem kc_X6_351 : Cond.constantDouble RX6 351 (4611686018427387904 : UInt64) ∈ wsA := inA (tb3 (k := 120) rfl) rfl
theorem kc_X6_353 : Cond.constantDouble RX6 353 (4841369599423283200 : UInt64) ∈ wsA := inA (tb3 (k := 121) rfl) rfl
theorem ml_L_121 : Cond.methodLink RL 121 yL_cell ∈ wsA := inA (tb3 (k := 122) rfl) rfl
theorem sc_L_cell : Cond.static yL_cell ∈ wsA := inA (tb3 (k := 123) rfl) rfl
theorem cd_L_cell : Cond.code yL_cell cL_cell 2 (some .int) ∈ wsA := inA (tb3 (k := 124) rfl) rfl
theorem ml_L_56 : Cond.methodLink RL 56 yL_low ∈ wsA := inA (tb3 (k := 125) rfl) rfl
theorem sc_L_low : Cond.static yL_low ∈ wsA := inA (tb3 (k := 126) rfl) rfl
theorem cd_L_low : Cond.code yL_low cL_low 2 (some .int) ∈ wsA := inA (tb3 (k := 127) rfl) rfl
theorem kc_L_7 : Cond.constant RL 7 (2147483647 : Int32) ∈ wsA := inA (tb3 (k := 128) rfl) rfl
theorem ml_L_125 : Cond.methodLink RL 125 yL_addTown ∈ wsA := inA (tb3 (k := 129) rfl) rfl
theorem sc_L_addTown : Cond.static yL_addTown ∈ wsA := inA (tb3 (k := 130) rfl) rfl
theorem cl_L_25 : Cond.classLink RL 25 "java/lang/IllegalArgumentException" ∈ wsA := inA (tb3 (k := 132) rfl) rfl
theorem cl_L_16 : Cond.classLink RL 16 "java/lang/IllegalStateException" ∈ wsA := inA (tb3 (k := 133) rfl) rfl
theorem ml_L_37 : Cond.methodLink RL 37 yX6_addTown ∈ wsA := inA (tb3 (k := 134) rfl) rfl
theorem im_X6_addTown : Cond.instanceMethod yX6_addTown ∈ wsA := inA (tb3 (k := 135) rfl) rfl
theorem sl_X6_addTown : Cond.selects RX6 yX6_addTown yX6_addTown ∈ wsA := inA (tb3 (k := 136) rfl) rfl
theorem cd_X6_addTown : Cond.code yX6_addTown cX6_addTown 3 (some .int) ∈ wsA := inA (tb3 (k := 137) rfl) rfl
theorem ml_L_72 : Cond.methodLink RL 72 yL_turn ∈ wsA := inA (tb3 (k := 141) rfl) rfl
theorem sc_L_turn : Cond.static yL_turn ∈ wsA := inA (tb3 (k := 142) rfl) rfl
theorem cl_L_14 : Cond.classLink RL 14 "java/lang/IndexOutOfBoundsException" ∈ wsA := inA (tb3 (k := 144) rfl) rfl
theorem ml_L_41 : Cond.methodLink RL 41 yX6_turn ∈ wsA := inA (tb3 (k := 145) rfl) rfl
theorem im_X6_turn : Cond.instanceMethod yX6_turn ∈ wsA := inA (tb3 (k := 146) rfl) rfl
theorem sl_X6_turn : Cond.selects RX6 yX6_turn yX6_turn ∈ wsA := inA (tb3 (k := 147) rfl) rfl
theorem cd_X6_turn : Cond.code yX6_turn cX6_turn 5 (some .int) ∈ wsA := inA (tb3 (k := 148) rfl) rfl
theorem ml_X6_135 : Cond.methodLink RX6 135 yX6_copyRow ∈ wsA := inA (tb3 (k := 150) rfl) rfl
theorem ml_L_131 : Cond.methodLink RL 131 yL_learn ∈ wsA := inA (tb3 (k := 151) rfl) rfl
theorem sc_L_learn : Cond.static yL_learn ∈ wsA := inA (tb3 (k := 152) rfl) rfl
theorem ml_L_44 : Cond.methodLink RL 44 yX6_learn ∈ wsA := inA (tb3 (k := 154) rfl) rfl
theorem im_X6_learn : Cond.instanceMethod yX6_learn ∈ wsA := inA (tb3 (k := 155) rfl) rfl
theorem sl_X6_learn : Cond.selects RX6 yX6_learn yX6_learn ∈ wsA := inA (tb3 (k := 156) rfl) rfl
theorem cd_X6_learn : Cond.code yX6_learn cX6_learn 3 (some .int) ∈ wsA := inA (tb3 (k := 157) rfl) rfl
theorem mn_X6_195 : Cond.methodLinkNest RX6 195 yX5_readAll "DrumTowns" ∈ lw_tbl := tb3 (k := 158) rfl
theorem im_X5_readAll : Cond.instanceMethod yX5_readAll ∈ wsA := inA (tb3 (k := 160) rfl) rfl
theorem cd_X5_readAll : Cond.code yX5_readAll cX5_readAll 3 (some .int) ∈ wsA := inA (tb3 (k := 161) rfl) rfl
theorem ml_X5_29 : Cond.methodLink RX5 29 yX5_readInside ∈ wsA := inA (tb3 (k := 162) rfl) rfl
theorem im_X5_readInside : Cond.instanceMethod yX5_readInside ∈ wsA := inA (tb3 (k := 164) rfl) rfl
theorem cd_X5_readInside : Cond.code yX5_readInside cX5_readInside 4 (some .boolean) ∈ wsA := inA (tb3 (k := 165) rfl) rfl
theorem ml_X5_46 : Cond.methodLink RX5 46 yJ6_bitCount_0f7a4 ∈ wsA := inA (tb3 (k := 166) rfl) rfl
theorem ml_X5_42 : Cond.methodLink RX5 42 yX5_endStep ∈ wsA := inA (tb3 (k := 167) rfl) rfl
theorem im_X5_endStep : Cond.instanceMethod yX5_endStep ∈ wsA := inA (tb3 (k := 169) rfl) rfl
theorem cd_X5_endStep : Cond.code yX5_endStep cX5_endStep 2 none ∈ wsA := inA (tb3 (k := 170) rfl) rfl
theorem ml_X5_39 : Cond.methodLink RX5 39 yX5_isTooth ∈ wsA := inA (tb3 (k := 171) rfl) rfl
theorem sc_X5_isTooth : Cond.static yX5_isTooth ∈ wsA := inA (tb3 (k := 172) rfl) rfl
theorem cd_X5_isTooth : Cond.code yX5_isTooth cX5_isTooth 1 (some .boolean) ∈ wsA := inA (tb3 (k := 173) rfl) rfl
theorem ml_X5_33 : Cond.methodLink RX5 33 yX5_readOutside ∈ wsA := inA (tb3 (k := 174) rfl) rfl
theorem im_X5_readOutside : Cond.instanceMethod yX5_readOutside ∈ wsA := inA (tb3 (k := 176) rfl) rfl
theorem cd_X5_readOutside : Cond.code yX5_readOutside cX5_readOutside 2 (some .boolean) ∈ wsA := inA (tb3 (k := 177) rfl) rfl
theorem mn_X6_198 : Cond.methodLinkNest RX6 198 yX5_isComplete "DrumTowns" ∈ lw_tbl := tb3 (k := 178) rfl
theorem im_X5_isComplete : Cond.instanceMethod yX5_isComplete ∈ wsA := inA (tb3 (k := 180) rfl) rfl
theorem cd_X5_isComplete : Cond.code yX5_isComplete cX5_isComplete 1 (some .boolean) ∈ wsA := inA (tb3 (k := 181) rfl) rfl
theorem ml_L_83 : Cond.methodLink RL 83 yL_set ∈ wsA := inA (tb3 (k := 183) rfl) rfl
theorem sc_L_set : Cond.static yL_set ∈ wsA := inA (tb3 (k := 184) rfl) rfl
theorem ml_L_77 : Cond.methodLink RL 77 yL_file ∈ wsA := inA (tb3 (k := 186) rfl) rfl
theorem sc_L_file : Cond.static yL_file ∈ wsA := inA (tb3 (k := 187) rfl) rfl
theorem ml_L_50 : Cond.methodLink RL 50 yX6_file ∈ wsA := inA (tb3 (k := 189) rfl) rfl
theorem im_X6_file : Cond.instanceMethod yX6_file ∈ wsA := inA (tb3 (k := 190) rfl) rfl
theorem sl_X6_file : Cond.selects RX6 yX6_file yX6_file ∈ wsA := inA (tb3 (k := 191) rfl) rfl
theorem cd_X6_file : Cond.code yX6_file cX6_file 4 (some .int) ∈ wsA := inA (tb3 (k := 192) rfl) rfl
theorem ml_X6_139 : Cond.methodLink RX6 139 yX6_checkTooth ∈ wsA := inA (tb3 (k := 193) rfl) rfl
theorem sc_X6_checkTooth : Cond.static yX6_checkTooth ∈ wsA := inA (tb3 (k := 194) rfl) rfl
theorem cd_X6_checkTooth : Cond.code yX6_checkTooth cX6_checkTooth 1 none ∈ wsA := inA (tb3 (k := 195) rfl) rfl
theorem ml_L_133 : Cond.methodLink RL 133 yL_acts ∈ wsA := inA (tb3 (k := 197) rfl) rfl
theorem sc_L_acts : Cond.static yL_acts ∈ wsA := inA (tb3 (k := 198) rfl) rfl
theorem cd_L_acts : Cond.code yL_acts cL_acts 7 (some .int) ∈ wsA := inA (tb3 (k := 199) rfl) rfl
theorem ml_L_61 : Cond.methodLink RL 61 yL_put ∈ wsA := inA (tb3 (k := 200) rfl) rfl
theorem sc_L_put : Cond.static yL_put ∈ wsA := inA (tb3 (k := 201) rfl) rfl
theorem ml_L_8 : Cond.methodLink RL 8 yX6_put ∈ wsA := inA (tb3 (k := 203) rfl) rfl
theorem im_X6_put : Cond.instanceMethod yX6_put ∈ wsA := inA (tb3 (k := 204) rfl) rfl
theorem sl_X6_put : Cond.selects RX6 yX6_put yX6_put ∈ wsA := inA (tb3 (k := 205) rfl) rfl
theorem cd_X6_put : Cond.code yX6_put cX6_put 5 (some .int) ∈ wsA := inA (tb3 (k := 206) rfl) rfl
theorem ml_X6_97 : Cond.methodLink RX6 97 yX6_checkPlace ∈ wsA := inA (tb3 (k := 207) rfl) rfl
theorem im_X6_checkPlace : Cond.instanceMethod yX6_checkPlace ∈ wsA := inA (tb3 (k := 209) rfl) rfl
theorem cd_X6_checkPlace : Cond.code yX6_checkPlace cX6_checkPlace 4 none ∈ wsA := inA (tb3 (k := 210) rfl) rfl
theorem ml_X6_236 : Cond.methodLink RX6 236 yX6_checkStep ∈ wsA := inA (tb3 (k := 211) rfl) rfl
theorem sc_X6_checkStep : Cond.static yX6_checkStep ∈ wsA := inA (tb3 (k := 212) rfl) rfl
theorem cd_X6_checkStep : Cond.code yX6_checkStep cX6_checkStep 1 none ∈ wsA := inA (tb3 (k := 213) rfl) rfl
theorem mn_X6_101 : Cond.methodLinkNest RX6 101 yX3_hasPin "DrumTowns" ∈ lw_tbl := tb3 (k := 215) rfl
theorem im_X3_hasPin : Cond.instanceMethod yX3_hasPin ∈ wsA := inA (tb3 (k := 217) rfl) rfl
theorem cd_X3_hasPin : Cond.code yX3_hasPin cX3_hasPin 3 (some .boolean) ∈ wsA := inA (tb3 (k := 218) rfl) rfl
theorem ml_L_64 : Cond.methodLink RL 64 yL_pull ∈ wsA := inA (tb3 (k := 221) rfl) rfl
theorem sc_L_pull : Cond.static yL_pull ∈ wsA := inA (tb3 (k := 222) rfl) rfl
theorem ml_L_18 : Cond.methodLink RL 18 yX6_pull ∈ wsA := inA (tb3 (k := 224) rfl) rfl
theorem im_X6_pull : Cond.instanceMethod yX6_pull ∈ wsA := inA (tb3 (k := 225) rfl) rfl
theorem sl_X6_pull : Cond.selects RX6 yX6_pull yX6_pull ∈ wsA := inA (tb3 (k := 226) rfl) rfl
theorem cd_X6_pull : Cond.code yX6_pull cX6_pull 5 (some .int) ∈ wsA := inA (tb3 (k := 227) rfl) rfl
theorem ml_L_66 : Cond.methodLink RL 66 yL_move ∈ wsA := inA (tb3 (k := 230) rfl) rfl
theorem sc_L_move : Cond.static yL_move ∈ wsA := inA (tb3 (k := 231) rfl) rfl
theorem ml_L_21 : Cond.methodLink RL 21 yX6_move ∈ wsA := inA (tb3 (k := 233) rfl) rfl
theorem im_X6_move : Cond.instanceMethod yX6_move ∈ wsA := inA (tb3 (k := 234) rfl) rfl
theorem sl_X6_move : Cond.selects RX6 yX6_move yX6_move ∈ wsA := inA (tb3 (k := 235) rfl) rfl
theorem cd_X6_move : Cond.code yX6_move cX6_move 7 (some .int) ∈ wsA := inA (tb3 (k := 236) rfl) rfl
theorem ml_X6_123 : Cond.methodLink RX6 123 yX6_checkDifferent ∈ wsA := inA (tb3 (k := 237) rfl) rfl
theorem sc_X6_checkDifferent : Cond.static yX6_checkDifferent ∈ wsA := inA (tb3 (k := 238) rfl) rfl
theorem cd_X6_checkDifferent : Cond.code yX6_checkDifferent cX6_checkDifferent 2 none ∈ wsA := inA (tb3 (k := 239) rfl) rfl
theorem ml_L_69 : Cond.methodLink RL 69 yL_trade ∈ wsA := inA (tb4 (k := 2) rfl) rfl
theorem sc_L_trade : Cond.static yL_trade ∈ wsA := inA (tb4 (k := 3) rfl) rfl
theorem ml_L_27 : Cond.methodLink RL 27 yX6_trade ∈ wsA := inA (tb4 (k := 5) rfl) rfl
theorem im_X6_trade : Cond.instanceMethod yX6_trade ∈ wsA := inA (tb4 (k := 6) rfl) rfl
theorem sl_X6_trade : Cond.selects RX6 yX6_trade yX6_trade ∈ wsA := inA (tb4 (k := 7) rfl) rfl
theorem cd_X6_trade : Cond.code yX6_trade cX6_trade 7 (some .int) ∈ wsA := inA (tb4 (k := 8) rfl) rfl
theorem ml_L_74 : Cond.methodLink RL 74 yX6_play ∈ wsA := inA (tb4 (k := 9) rfl) rfl
theorem im_X6_play : Cond.instanceMethod yX6_play ∈ wsA := inA (tb4 (k := 10) rfl) rfl
theorem sl_X6_play : Cond.selects RX6 yX6_play yX6_play ∈ wsA := inA (tb4 (k := 11) rfl) rfl
theorem cd_X6_play : Cond.code yX6_play cX6_play 2 (some .int) ∈ wsA := inA (tb4 (k := 12) rfl) rfl
theorem mn_X6_148 : Cond.methodLinkNest RX6 148 yX3_takeOver "DrumTowns" ∈ lw_tbl := tb4 (k := 13) rfl
theorem im_X3_takeOver : Cond.instanceMethod yX3_takeOver ∈ wsA := inA (tb4 (k := 15) rfl) rfl
theorem cd_X3_takeOver : Cond.code yX3_takeOver cX3_takeOver 2 none ∈ wsA := inA (tb4 (k := 16) rfl) rfl
theorem ml_L_79 : Cond.methodLink RL 79 yL_lend ∈ wsA := inA (tb4 (k := 17) rfl) rfl
theorem sc_L_lend : Cond.static yL_lend ∈ wsA := inA (tb4 (k := 18) rfl) rfl
theorem ml_L_31 : Cond.methodLink RL 31 yX6_lend ∈ wsA := inA (tb4 (k := 20) rfl) rfl
theorem im_X6_lend : Cond.instanceMethod yX6_lend ∈ wsA := inA (tb4 (k := 21) rfl) rfl
theorem sl_X6_lend : Cond.selects RX6 yX6_lend yX6_lend ∈ wsA := inA (tb4 (k := 22) rfl) rfl
theorem cd_X6_lend : Cond.code yX6_lend cX6_lend 4 (some .int) ∈ wsA := inA (tb4 (k := 23) rfl) rfl
theorem ml_X6_155 : Cond.methodLink RX6 155 yX6_checkGiven ∈ wsA := inA (tb4 (k := 24) rfl) rfl
theorem sc_X6_checkGiven : Cond.static yX6_checkGiven ∈ wsA := inA (tb4 (k := 25) rfl) rfl
theorem cd_X6_checkGiven : Cond.code yX6_checkGiven cX6_checkGiven 1 none ∈ wsA := inA (tb4 (k := 26) rfl) rfl
theorem ml_X6_158 : Cond.methodLink RX6 158 yX6_checkBoxes ∈ wsA := inA (tb4 (k := 27) rfl) rfl
theorem im_X6_checkBoxes : Cond.instanceMethod yX6_checkBoxes ∈ wsA := inA (tb4 (k := 29) rfl) rfl
theorem cd_X6_checkBoxes : Cond.code yX6_checkBoxes cX6_checkBoxes 4 none ∈ wsA := inA (tb4 (k := 30) rfl) rfl
theorem mn_X6_161 : Cond.methodLinkNest RX6 161 yX0_carry "DrumTowns" ∈ lw_tbl := tb4 (k := 33) rfl
theorem im_X0_carry : Cond.instanceMethod yX0_carry ∈ wsA := inA (tb4 (k := 35) rfl) rfl
theorem cd_X0_carry : Cond.code yX0_carry cX0_carry 4 none ∈ wsA := inA (tb4 (k := 36) rfl) rfl
theorem ml_L_81 : Cond.methodLink RL 81 yL_repay ∈ wsA := inA (tb4 (k := 37) rfl) rfl
theorem sc_L_repay : Cond.static yL_repay ∈ wsA := inA (tb4 (k := 38) rfl) rfl
theorem ml_L_34 : Cond.methodLink RL 34 yX6_repay ∈ wsA := inA (tb4 (k := 40) rfl) rfl
theorem im_X6_repay : Cond.instanceMethod yX6_repay ∈ wsA := inA (tb4 (k := 41) rfl) rfl
theorem sl_X6_repay : Cond.selects RX6 yX6_repay yX6_repay ∈ wsA := inA (tb4 (k := 42) rfl) rfl
theorem cd_X6_repay : Cond.code yX6_repay cX6_repay 4 (some .int) ∈ wsA := inA (tb4 (k := 43) rfl) rfl
theorem ml_L_85 : Cond.methodLink RL 85 yX6_settle ∈ wsA := inA (tb4 (k := 45) rfl) rfl
theorem im_X6_settle : Cond.instanceMethod yX6_settle ∈ wsA := inA (tb4 (k := 46) rfl) rfl
theorem sl_X6_settle : Cond.selects RX6 yX6_settle yX6_settle ∈ wsA := inA (tb4 (k := 47) rfl) rfl
theorem cd_X6_settle : Cond.code yX6_settle cX6_settle 2 (some .int) ∈ wsA := inA (tb4 (k := 48) rfl) rfl
theorem mn_X6_183 : Cond.methodLinkNest RX6 183 yX0_takeRing "DrumTowns" ∈ lw_tbl := tb4 (k := 49) rfl
theorem im_X0_takeRing : Cond.instanceMethod yX0_takeRing ∈ wsA := inA (tb4 (k := 51) rfl) rfl
theorem cd_X0_takeRing : Cond.code yX0_takeRing cX0_takeRing 3 none ∈ wsA := inA (tb4 (k := 52) rfl) rfl
theorem mn_X0_65 : Cond.methodLinkNest RX0 65 yX2_following "DrumTowns" ∈ lw_tbl := tb4 (k := 53) rfl
theorem ml_L_136 : Cond.methodLink RL 136 yL_isSound ∈ wsA := inA (tb4 (k := 54) rfl) rfl
theorem sc_L_isSound : Cond.static yL_isSound ∈ wsA := inA (tb4 (k := 55) rfl) rfl
theorem cd_L_isSound : Cond.code yL_isSound cL_isSound 12 (some .boolean) ∈ wsA := inA (tb4 (k := 56) rfl) rfl
theorem ml_L_89 : Cond.methodLink RL 89 yX6_town ∈ wsA := inA (tb4 (k := 57) rfl) rfl
theorem ml_L_92 : Cond.methodLink RL 92 yX6_ifPlayed ∈ wsA := inA (tb4 (k := 58) rfl) rfl
theorem im_X6_ifPlayed : Cond.instanceMethod yX6_ifPlayed ∈ wsA := inA (tb4 (k := 59) rfl) rfl
theorem sl_X6_ifPlayed : Cond.selects RX6 yX6_ifPlayed yX6_ifPlayed ∈ wsA := inA (tb4 (k := 60) rfl) rfl
theorem cd_X6_ifPlayed : Cond.code yX6_ifPlayed cX6_ifPlayed 3 (some .int) ∈ wsA := inA (tb4 (k := 61) rfl) rfl
theorem ml_L_95 : Cond.methodLink RL 95 yX6_step ∈ wsA := inA (tb4 (k := 63) rfl) rfl
theorem im_X6_step : Cond.instanceMethod yX6_step ∈ wsA := inA (tb4 (k := 64) rfl) rfl
theorem sl_X6_step : Cond.selects RX6 yX6_step yX6_step ∈ wsA := inA (tb4 (k := 65) rfl) rfl
theorem cd_X6_step : Cond.code yX6_step cX6_step 4 (some .int) ∈ wsA := inA (tb4 (k := 66) rfl) rfl
theorem ml_L_98 : Cond.methodLink RL 98 yX6_bestTurn ∈ wsA := inA (tb4 (k := 68) rfl) rfl
theorem ml_L_101 : Cond.methodLink RL 101 yX6_bestTrades ∈ wsA := inA (tb4 (k := 69) rfl) rfl
theorem im_X6_bestTrades : Cond.instanceMethod yX6_bestTrades ∈ wsA := inA (tb4 (k := 70) rfl) rfl
theorem sl_X6_bestTrades : Cond.selects RX6 yX6_bestTrades yX6_bestTrades ∈ wsA := inA (tb4 (k := 71) rfl) rfl
theorem cd_X6_bestTrades : Cond.code yX6_bestTrades cX6_bestTrades 2 (some .int) ∈ wsA := inA (tb4 (k := 72) rfl) rfl
theorem ml_X6_292 : Cond.methodLink RX6 292 yX6_isPlace ∈ wsA := inA (tb4 (k := 73) rfl) rfl
theorem sc_X6_isPlace : Cond.static yX6_isPlace ∈ wsA := inA (tb4 (k := 74) rfl) rfl
theorem cd_X6_isPlace : Cond.code yX6_isPlace cX6_isPlace 1 (some .boolean) ∈ wsA := inA (tb4 (k := 75) rfl) rfl
theorem ml_L_140 : Cond.methodLink RL 140 yL_isPlayed ∈ wsA := inA (tb4 (k := 77) rfl) rfl
theorem sc_L_isPlayed : Cond.static yL_isPlayed ∈ wsA := inA (tb4 (k := 78) rfl) rfl
theorem cd_L_isPlayed : Cond.code yL_isPlayed cL_isPlayed 10 (some .boolean) ∈ wsA := inA (tb4 (k := 79) rfl) rfl
theorem ml_L_104 : Cond.methodLink RL 104 yX6_lastsFor ∈ wsA := inA (tb4 (k := 80) rfl) rfl
theorem ml_L_144 : Cond.methodLink RL 144 yL_isSettled ∈ wsA := inA (tb4 (k := 81) rfl) rfl
theorem sc_L_isSettled : Cond.static yL_isSettled ∈ wsA := inA (tb4 (k := 82) rfl) rfl
theorem cd_L_isSettled : Cond.code yL_isSettled cL_isSettled 9 (some .boolean) ∈ wsA := inA (tb4 (k := 83) rfl) rfl
theorem ml_L_110 : Cond.methodLink RL 110 yX6_ring ∈ wsA := inA (tb4 (k := 84) rfl) rfl
theorem im_X6_ring : Cond.instanceMethod yX6_ring ∈ wsA := inA (tb4 (k := 85) rfl) rfl
theorem sl_X6_ring : Cond.selects RX6 yX6_ring yX6_ring ∈ wsA := inA (tb4 (k := 86) rfl) rfl
theorem cd_X6_ring : Cond.code yX6_ring cX6_ring 2 (some .int) ∈ wsA := inA (tb4 (k := 87) rfl) rfl
theorem ml_L_147 : Cond.methodLink RL 147 yL_isBest ∈ wsA := inA (tb4 (k := 89) rfl) rfl
theorem sc_L_isBest : Cond.static yL_isBest ∈ wsA := inA (tb4 (k := 90) rfl) rfl
theorem cd_L_isBest : Cond.code yL_isBest cL_isBest 13 (some .boolean) ∈ wsA := inA (tb4 (k := 91) rfl) rfl
theorem ml_L_117 : Cond.methodLink RL 117 yX6_bestDrum ∈ wsA := inA (tb4 (k := 92) rfl) rfl
theorem sl_X6_saveState : Cond.selects RX6 yX6_saveState yX6_saveState ∈ wsA := inA (tbp (k := 1) rfl) rfl
theorem sl_X6_dropOldest : Cond.selects RX6 yX6_dropOldest yX6_dropOldest ∈ wsA := inA (tbp (k := 2) rfl) rfl
theorem sl_X0_takeFrom : Cond.selects RX0 yX0_takeFrom yX0_takeFrom ∈ wsA := inA (tbp (k := 3) rfl) rfl
theorem sl_X3_takeFrom : Cond.selects RX3 yX3_takeFrom yX3_takeFrom ∈ wsA := inA (tbp (k := 4) rfl) rfl
theorem sl_X0_pinsInBoxes : Cond.selects RX0 yX0_pinsInBoxes yX0_pinsInBoxes ∈ wsA := inA (tbp (k := 5) rfl) rfl
theorem sl_X0_pinsInDrums : Cond.selects RX0 yX0_pinsInDrums yX0_pinsInDrums ∈ wsA := inA (tbp (k := 6) rfl) rfl
theorem sl_X0_allDebts : Cond.selects RX0 yX0_allDebts yX0_allDebts ∈ wsA := inA (tbp (k := 7) rfl) rfl
theorem sl_X0_owedBy : Cond.selects RX0 yX0_owedBy yX0_owedBy ∈ wsA := inA (tbp (k := 8) rfl) rfl
theorem sl_X0_owingPairs : Cond.selects RX0 yX0_owingPairs yX0_owingPairs ∈ wsA := inA (tbp (k := 9) rfl) rfl
theorem sl_X0_allRightPins : Cond.selects RX0 yX0_allRightPins yX0_allRightPins ∈ wsA := inA (tbp (k := 10) rfl) rfl
theorem sl_X3_rightPins : Cond.selects RX3 yX3_rightPins yX3_rightPins ∈ wsA := inA (tbp (k := 11) rfl) rfl
theorem sl_X6_mixedWithTown : Cond.selects RX6 yX6_mixedWithTown yX6_mixedWithTown ∈ wsA := inA (tbp (k := 12) rfl) rfl
theorem sl_X6_checkTown : Cond.selects RX6 yX6_checkTown yX6_checkTown ∈ wsA := inA (tbp (k := 13) rfl) rfl
theorem sl_X0_owedTo : Cond.selects RX0 yX0_owedTo yX0_owedTo ∈ wsA := inA (tbp (k := 14) rfl) rfl
theorem sl_X6_foresee : Cond.selects RX6 yX6_foresee yX6_foresee ∈ wsA := inA (tbp (k := 15) rfl) rfl
theorem sl_X1_begin : Cond.selects RX1 yX1_begin yX1_begin ∈ wsA := inA (tbp (k := 16) rfl) rfl
theorem sl_X1_goThrough : Cond.selects RX1 yX1_goThrough yX1_goThrough ∈ wsA := inA (tbp (k := 17) rfl) rfl
theorem sl_X1_forgetSounds : Cond.selects RX1 yX1_forgetSounds yX1_forgetSounds ∈ wsA := inA (tbp (k := 18) rfl) rfl
theorem sl_X1_passStep : Cond.selects RX1 yX1_passStep yX1_passStep ∈ wsA := inA (tbp (k := 19) rfl) rfl
theorem sl_X1_meetPin : Cond.selects RX1 yX1_meetPin yX1_meetPin ∈ wsA := inA (tbp (k := 20) rfl) rfl
theorem sl_X1_tell : Cond.selects RX1 yX1_tell yX1_tell ∈ wsA := inA (tbp (k := 21) rfl) rfl
theorem sl_X3_rightIfTurned : Cond.selects RX3 yX3_rightIfTurned yX3_rightIfTurned ∈ wsA := inA (tbp (k := 22) rfl) rfl
theorem sl_X6_mixedWithRows : Cond.selects RX6 yX6_mixedWithRows yX6_mixedWithRows ∈ wsA := inA (tbp (k := 23) rfl) rfl
theorem sl_X6_mixedWithTrades : Cond.selects RX6 yX6_mixedWithTrades yX6_mixedWithTrades ∈ wsA := inA (tbp (k := 24) rfl) rfl
theorem sl_X4_find : Cond.selects RX4 yX4_find yX4_find ∈ wsA := inA (tbp (k := 25) rfl) rfl
theorem sl_X4_firstBest : Cond.selects RX4 yX4_firstBest yX4_firstBest ∈ wsA := inA (tbp (k := 26) rfl) rfl
theorem sl_X4_broughtBy : Cond.selects RX4 yX4_broughtBy yX4_broughtBy ∈ wsA := inA (tbp (k := 27) rfl) rfl
theorem sl_X4_choose : Cond.selects RX4 yX4_choose yX4_choose ∈ wsA := inA (tbp (k := 28) rfl) rfl
theorem sl_X4_tell : Cond.selects RX4 yX4_tell yX4_tell ∈ wsA := inA (tbp (k := 29) rfl) rfl
theorem sl_X6_mixedWithRing : Cond.selects RX6 yX6_mixedWithRing yX6_mixedWithRing ∈ wsA := inA (tbp (k := 30) rfl) rfl
theorem sl_X2_find : Cond.selects RX2 yX2_find yX2_find ∈ wsA := inA (tbp (k := 31) rfl) rfl
theorem sl_X2_leastDebt : Cond.selects RX2 yX2_leastDebt yX2_leastDebt ∈ wsA := inA (tbp (k := 32) rfl) rfl
theorem sl_X2_following : Cond.selects RX2 yX2_following yX2_following ∈ wsA := inA (tbp (k := 33) rfl) rfl
theorem sl_X2_tell : Cond.selects RX2 yX2_tell yX2_tell ∈ wsA := inA (tbp (k := 34) rfl) rfl
theorem sl_X5_readAll : Cond.selects RX5 yX5_readAll yX5_readAll ∈ wsA := inA (tbp (k := 35) rfl) rfl
theorem sl_X5_readInside : Cond.selects RX5 yX5_readInside yX5_readInside ∈ wsA := inA (tbp (k := 36) rfl) rfl
theorem sl_X5_endStep : Cond.selects RX5 yX5_endStep yX5_endStep ∈ wsA := inA (tbp (k := 37) rfl) rfl
theorem sl_X5_readOutside : Cond.selects RX5 yX5_readOutside yX5_readOutside ∈ wsA := inA (tbp (k := 38) rfl) rfl
theorem sl_X5_isComplete : Cond.selects RX5 yX5_isComplete yX5_isComplete ∈ wsA := inA (tbp (k := 39) rfl) rfl
theorem sl_X6_checkPlace : Cond.selects RX6 yX6_checkPlace yX6_checkPlace ∈ wsA := inA (tbp (k := 40) rfl) rfl
theorem sl_X3_hasPin : Cond.selects RX3 yX3_hasPin yX3_hasPin ∈ wsA := inA (tbp (k := 41) rfl) rfl
theorem sl_X3_takeOver : Cond.selects RX3 yX3_takeOver yX3_takeOver ∈ wsA := inA (tbp (k := 42) rfl) rfl
theorem sl_X6_checkBoxes : Cond.selects RX6 yX6_checkBoxes yX6_checkBoxes ∈ wsA := inA (tbp (k := 43) rfl) rfl
theorem sl_X0_carry : Cond.selects RX0 yX0_carry yX0_carry ∈ wsA := inA (tbp (k := 44) rfl) rfl
theorem sl_X0_takeRing : Cond.selects RX0 yX0_takeRing yX0_takeRing ∈ wsA := inA (tbp (k := 45) rfl) rfl
theorem inA_X0 : ∀ w ∈ u_ws RX0 TX0 8, w ∈ wsA := allA (inA (tb1 (k := 98) rfl) rfl) (allA (inA (tb1 (k := 100) rfl) rfl) (allA (inA (tb1 (k := 102) rfl) rfl) (allA (inA (tb1 (k := 104) rfl) rfl) (allA (inA (tb1 (k := 106) rfl) rfl) (allA (inA (tb1 (k := 108) rfl) rfl) (allA (inA (tb1 (k := 110) rfl) rfl) (allA (inA (tb1 (k := 112) rfl) rfl) (fun _ h => absurd h List.not_mem_nil))))))))
theorem inA_X1 : ∀ w ∈ u_ws RX1 TX1 11, w ∈ wsA := allA (inA (tb1 (k := 168) rfl) rfl) (allA (inA (tb1 (k := 170) rfl) rfl) (allA (inA (tb1 (k := 172) rfl) rfl) (allA (inA (tb1 (k := 174) rfl) rfl) (allA (inA (tb1 (k := 176) rfl) rfl) (allA (inA (tb1 (k := 178) rfl) rfl) (allA (inA (tb1 (k := 180) rfl) rfl) (allA (inA (tb1 (k := 182) rfl) rfl) (allA (inA (tb1 (k := 184) rfl) rfl) (allA (inA (tb1 (k := 186) rfl) rfl) (allA (inA (tb1 (k := 188) rfl) rfl) (fun _ h => absurd h List.not_mem_nil)))))))))))
theorem inA_X2 : ∀ w ∈ u_ws RX2 TX2 3, w ∈ wsA := allA (inA (tb1 (k := 204) rfl) rfl) (allA (inA (tb1 (k := 206) rfl) rfl) (allA (inA (tb1 (k := 208) rfl) rfl) (fun _ h => absurd h List.not_mem_nil)))
theorem inA_X3 : ∀ w ∈ u_ws RX3 TX3 7, w ∈ wsA := allA (inA (tb1 (k := 60) rfl) rfl) (allA (inA (tb1 (k := 62) rfl) rfl) (allA (inA (tb1 (k := 64) rfl) rfl) (allA (inA (tb1 (k := 66) rfl) rfl) (allA (inA (tb1 (k := 68) rfl) rfl) (allA (inA (tb1 (k := 70) rfl) rfl) (allA (inA (tb1 (k := 72) rfl) rfl) (fun _ h => absurd h List.not_mem_nil)))))))
theorem inA_X4 : ∀ w ∈ u_ws RX4 TX4 5, w ∈ wsA := allA (inA (tb1 (k := 223) rfl) rfl) (allA (inA (tb1 (k := 225) rfl) rfl) (allA (inA (tb1 (k := 227) rfl) rfl) (allA (inA (tb1 (k := 229) rfl) rfl) (allA (inA (tb1 (k := 231) rfl) rfl) (fun _ h => absurd h List.not_mem_nil)))))
theorem inA_X5 : ∀ w ∈ u_ws RX5 TX5 6, w ∈ wsA := allA (inA (tb1 (k := 131) rfl) rfl) (allA (inA (tb1 (k := 133) rfl) rfl) (allA (inA (tb1 (k := 135) rfl) rfl) (allA (inA (tb1 (k := 137) rfl) rfl) (allA (inA (tb1 (k := 139) rfl) rfl) (allA (inA (tb1 (k := 141) rfl) rfl) (fun _ h => absurd h List.not_mem_nil))))))
theorem inA_X6 : ∀ w ∈ u_ws RX6 TX6 8, w ∈ wsA := allA (inA (tb2 (k := 2) rfl) rfl) (allA (inA (tb2 (k := 4) rfl) rfl) (allA (inA (tb2 (k := 6) rfl) rfl) (allA (inA (tb2 (k := 8) rfl) rfl) (allA (inA (tb2 (k := 10) rfl) rfl) (allA (inA (tb2 (k := 12) rfl) rfl) (allA (inA (tb2 (k := 14) rfl) rfl) (allA (inA (tb2 (k := 16) rfl) rfl) (fun _ h => absurd h List.not_mem_nil))))))))
theorem inA_X7 : ∀ w ∈ u_ws RX7 TX7 0, w ∈ wsA := fun _ h => absurd h List.not_mem_nil
