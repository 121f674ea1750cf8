theorem rs_lk1 {i : Nat} {w : Cond} (h : tables_1_1[i]? = some w) (hg : goodWord w = true) : w ∈ rs_wg := List.mem_filter.mpr ⟨List.mem_append_right _ (List.mem_append_left _ (List.mem_of_getElem? h)), hg⟩
theorem rs_lk2 {i : Nat} {w : Cond} (h : tables_1_2[i]? = some w) (hg : goodWord w = true) : w ∈ rs_wg := List.mem_filter.mpr ⟨List.mem_append_right _ (List.mem_append_right _ (List.mem_append_left _ (List.mem_of_getElem? h))), hg⟩
theorem rs_lk3 {i : Nat} {w : Cond} (h : tables_1_3[i]? = some w) (hg : goodWord w = true) : w ∈ rs_wg := List.mem_filter.mpr ⟨List.mem_append_right _ (List.mem_append_right _ (List.mem_append_right _ (List.mem_append_left _ (List.mem_of_getElem? h)))), hg⟩
theorem rs_lk4 {i : Nat} {w : Cond} (h : tables_1_4[i]? = some w) (hg : goodWord w = true) : w ∈ rs_wg := List.mem_filter.mpr ⟨List.mem_append_right _ (List.mem_append_right _ (List.mem_append_right _ (List.mem_append_right _ (List.mem_append_left _ (List.mem_of_getElem? h))))), hg⟩
theorem rs_lk5 {i : Nat} {w : Cond} (h : tables_1_5[i]? = some w) (hg : goodWord w = true) : w ∈ rs_wg := List.mem_filter.mpr ⟨List.mem_append_right _ (List.mem_append_right _ (List.mem_append_right _ (List.mem_append_right _ (List.mem_append_right _ (List.mem_of_getElem? h))))), hg⟩
theorem wn_L : Cond.initialized RL ∈ rs_wg := rs_lk1 (i := 0) rfl rfl
theorem wn_X4 : Cond.initialized RX4 ∈ rs_wg := rs_lk1 (i := 1) rfl rfl
theorem wn_X1 : Cond.initialized RX1 ∈ rs_wg := rs_lk1 (i := 2) rfl rfl
theorem wn_X0 : Cond.initialized RX0 ∈ rs_wg := rs_lk1 (i := 3) rfl rfl
theorem wn_J10 : Cond.initialized RJ10 ∈ rs_wg := rs_lk1 (i := 4) rfl rfl
theorem wn_X3 : Cond.initialized RX3 ∈ rs_wg := rs_lk1 (i := 5) rfl rfl
theorem wn_X2 : Cond.initialized RX2 ∈ rs_wg := rs_lk1 (i := 6) rfl rfl
theorem wn_X5 : Cond.initialized RX5 ∈ rs_wg := rs_lk1 (i := 7) rfl rfl
theorem wn_J0 : Cond.initialized RJ0 ∈ rs_wg := rs_lk1 (i := 8) rfl rfl
theorem wn_J1 : Cond.initialized RJ1 ∈ rs_wg := rs_lk1 (i := 9) rfl rfl
theorem wn_J3 : Cond.initialized RJ3 ∈ rs_wg := rs_lk1 (i := 10) rfl rfl
theorem wn_J2 : Cond.initialized RJ2 ∈ rs_wg := rs_lk1 (i := 11) rfl rfl
theorem wn_J9 : Cond.initialized RJ9 ∈ rs_wg := rs_lk1 (i := 12) rfl rfl
theorem wn_J7 : Cond.initialized RJ7 ∈ rs_wg := rs_lk1 (i := 13) rfl rfl
theorem wn_J6 : Cond.initialized RJ6 ∈ rs_wg := rs_lk1 (i := 14) rfl rfl
theorem wq_L_7 : Cond.classLink RL 7 RX4 ∈ rs_wg := rs_lk1 (i := 15) rfl rfl
theorem wj_X4 : Cond.instantiable RX4 8 ∈ rs_wg := rs_lk1 (i := 16) rfl rfl
theorem wl_L_9 : Cond.methodLink RL 9 yX4_init ∈ rs_wg := rs_lk1 (i := 17) rfl rfl
theorem wi_yX4_init : Cond.instanceMethod yX4_init ∈ rs_wg := rs_lk1 (i := 18) rfl rfl
theorem wc_yX4_init : Cond.code yX4_init cX4_init 2 none ∈ rs_wg := rs_lk1 (i := 19) rfl rfl
theorem wl_X4_1 : Cond.methodLink RX4 1 objectInit ∈ rs_wg := rs_lk1 (i := 20) rfl rfl
theorem wi_objectInit : Cond.instanceMethod objectInit ∈ rs_wg := rs_lk1 (i := 21) rfl rfl
theorem wc_objectInit : Cond.code objectInit object_method_1_code 1 none ∈ rs_wg := rs_lk1 (i := 22) rfl rfl
theorem wq_X4_7 : Cond.classLink RX4 7 RX1 ∈ rs_wg := rs_lk1 (i := 23) rfl rfl
theorem wj_X1 : Cond.instantiable RX1 11 ∈ rs_wg := rs_lk1 (i := 24) rfl rfl
theorem wl_X4_9 : Cond.methodLink RX4 9 yX1_init ∈ rs_wg := rs_lk1 (i := 25) rfl rfl
theorem wi_yX1_init : Cond.instanceMethod yX1_init ∈ rs_wg := rs_lk1 (i := 26) rfl rfl
theorem wc_yX1_init : Cond.code yX1_init cX1_init 2 none ∈ rs_wg := rs_lk1 (i := 27) rfl rfl
theorem wl_X1_3 : Cond.methodLink RX1 3 objectInit ∈ rs_wg := rs_lk1 (i := 28) rfl rfl
theorem wq_X1_9 : Cond.classLink RX1 9 RX0 ∈ rs_wg := rs_lk1 (i := 29) rfl rfl
theorem wj_X0 : Cond.instantiable RX0 2 ∈ rs_wg := rs_lk1 (i := 31) rfl rfl
theorem wi_yX0_init : Cond.instanceMethod yX0_init ∈ rs_wg := rs_lk1 (i := 33) rfl rfl
theorem wc_yX0_init : Cond.code yX0_init cX0_init 1 none ∈ rs_wg := rs_lk1 (i := 34) rfl rfl
theorem wl_X0_3 : Cond.methodLink RX0 3 objectInit ∈ rs_wg := rs_lk1 (i := 35) rfl rfl
theorem wl_X0_9 : Cond.fieldLink RX0 9 "RowShutter$Lamp" "parts" "[I" ∈ rs_wg := rs_lk1 (i := 36) rfl rfl
theorem wl_X1_67 : Cond.fieldLink RX1 67 "RowShutter$Lamp" "parts" "[I" ∈ rs_wg := rs_lk1 (i := 37) rfl rfl
theorem wl_X4_88 : Cond.fieldLink RX4 88 "RowShutter$Lamp" "parts" "[I" ∈ rs_wg := rs_lk1 (i := 38) rfl rfl
theorem wl_X0_15 : Cond.fieldLink RX0 15 "RowShutter$Lamp" "sums" "[I" ∈ rs_wg := rs_lk1 (i := 39) rfl rfl
theorem wl_X1_37 : Cond.methodLink RX1 37 arraycopyName ∈ rs_wg := rs_lk1 (i := 48) rfl rfl
theorem ws_arraycopyName : Cond.static arraycopyName ∈ rs_wg := rs_lk1 (i := 49) rfl rfl
theorem wn_arraycopy : Cond.native arraycopyName ∈ rs_wg := rs_lk1 (i := 50) rfl rfl
theorem wl_X1_11 : Cond.fieldLink RX1 11 "RowShutter$Scene" "lamps" "[LRowShutter$Lamp;" ∈ rs_wg := rs_lk1 (i := 51) rfl rfl
theorem wl_X4_158 : Cond.fieldLink RX4 158 "RowShutter$Scene" "lamps" "[LRowShutter$Lamp;" ∈ rs_wg := rs_lk1 (i := 52) rfl rfl
theorem wl_X1_43 : Cond.fieldLink RX1 43 "RowShutter$Scene" "lampCount" "I" ∈ rs_wg := rs_lk1 (i := 53) rfl rfl
theorem wl_X3_57 : Cond.fieldLink RX3 57 "RowShutter$Scene" "lampCount" "I" ∈ rs_wg := rs_lk1 (i := 54) rfl rfl
theorem wl_X4_68 : Cond.fieldLink RX4 68 "RowShutter$Scene" "lampCount" "I" ∈ rs_wg := rs_lk1 (i := 55) rfl rfl
theorem wl_X1_17 : Cond.fieldLink RX1 17 "RowShutter$Scene" "rules" "[I" ∈ rs_wg := rs_lk1 (i := 56) rfl rfl
theorem wl_X3_81 : Cond.fieldLink RX3 81 "RowShutter$Scene" "rules" "[I" ∈ rs_wg := rs_lk1 (i := 57) rfl rfl
theorem wl_X4_77 : Cond.fieldLink RX4 77 "RowShutter$Scene" "rules" "[I" ∈ rs_wg := rs_lk1 (i := 58) rfl rfl
theorem wl_X1_47 : Cond.fieldLink RX1 47 "RowShutter$Scene" "tick" "I" ∈ rs_wg := rs_lk1 (i := 59) rfl rfl
theorem wl_X4_74 : Cond.fieldLink RX4 74 "RowShutter$Scene" "tick" "I" ∈ rs_wg := rs_lk1 (i := 60) rfl rfl
theorem wl_X1_50 : Cond.fieldLink RX1 50 "RowShutter$Scene" "shots" "I" ∈ rs_wg := rs_lk1 (i := 61) rfl rfl
theorem wl_X4_71 : Cond.fieldLink RX4 71 "RowShutter$Scene" "shots" "I" ∈ rs_wg := rs_lk1 (i := 62) rfl rfl
theorem wl_X1_21 : Cond.fieldLink RX1 21 "RowShutter$Scene" "latest" "[I" ∈ rs_wg := rs_lk1 (i := 63) rfl rfl
theorem wl_X4_100 : Cond.fieldLink RX4 100 "RowShutter$Scene" "latest" "[I" ∈ rs_wg := rs_lk1 (i := 64) rfl rfl
theorem wl_X1_53 : Cond.fieldLink RX1 53 "RowShutter$Scene" "latestRows" "I" ∈ rs_wg := rs_lk1 (i := 65) rfl rfl
theorem wl_X4_97 : Cond.fieldLink RX4 97 "RowShutter$Scene" "latestRows" "I" ∈ rs_wg := rs_lk1 (i := 66) rfl rfl
theorem wl_X1_24 : Cond.fieldLink RX1 24 "RowShutter$Scene" "seenShot" "[I" ∈ rs_wg := rs_lk1 (i := 67) rfl rfl
theorem wl_X1_27 : Cond.fieldLink RX1 27 "RowShutter$Scene" "seenRow" "[I" ∈ rs_wg := rs_lk1 (i := 68) rfl rfl
theorem wl_X1_30 : Cond.fieldLink RX1 30 "RowShutter$Scene" "seenBright" "[I" ∈ rs_wg := rs_lk1 (i := 69) rfl rfl
theorem wl_X1_56 : Cond.fieldLink RX1 56 "RowShutter$Scene" "seenCount" "I" ∈ rs_wg := rs_lk1 (i := 70) rfl rfl
theorem wl_X4_182 : Cond.fieldLink RX4 182 "RowShutter$Scene" "seenCount" "I" ∈ rs_wg := rs_lk1 (i := 71) rfl rfl
theorem wq_X4_27 : Cond.classLink RX4 27 RX2 ∈ rs_wg := rs_lk1 (i := 96) rfl rfl
theorem wq_X4_33 : Cond.classLink RX4 33 RX3 ∈ rs_wg := rs_lk1 (i := 98) rfl rfl
theorem wj_X3 : Cond.instantiable RX3 7 ∈ rs_wg := rs_lk1 (i := 99) rfl rfl
theorem wi_yX3_init : Cond.instanceMethod yX3_init ∈ rs_wg := rs_lk1 (i := 101) rfl rfl
theorem wc_yX3_init : Cond.code yX3_init cX3_init 1 none ∈ rs_wg := rs_lk1 (i := 102) rfl rfl
theorem wl_X3_3 : Cond.methodLink RX3 3 objectInit ∈ rs_wg := rs_lk1 (i := 103) rfl rfl
theorem wl_X3_9 : Cond.fieldLink RX3 9 "RowShutter$Tape" "bytes" "[B" ∈ rs_wg := rs_lk1 (i := 104) rfl rfl
theorem wl_X3_15 : Cond.fieldLink RX3 15 "RowShutter$Tape" "length" "I" ∈ rs_wg := rs_lk1 (i := 105) rfl rfl
theorem wl_X4_53 : Cond.fieldLink RX4 53 "RowShutter$Tape" "length" "I" ∈ rs_wg := rs_lk1 (i := 106) rfl rfl
theorem wl_X3_36 : Cond.fieldLink RX3 36 "RowShutter$Tape" "token" "I" ∈ rs_wg := rs_lk1 (i := 107) rfl rfl
theorem wl_X3_43 : Cond.fieldLink RX3 43 "RowShutter$Tape" "start" "I" ∈ rs_wg := rs_lk1 (i := 108) rfl rfl
theorem wl_X3_24 : Cond.fieldLink RX3 24 "RowShutter$Tape" "at" "I" ∈ rs_wg := rs_lk1 (i := 109) rfl rfl
theorem wl_X3_27 : Cond.fieldLink RX3 27 "RowShutter$Tape" "toldRules" "I" ∈ rs_wg := rs_lk1 (i := 110) rfl rfl
theorem wl_X3_30 : Cond.fieldLink RX3 30 "RowShutter$Tape" "fault" "I" ∈ rs_wg := rs_lk1 (i := 111) rfl rfl
theorem wl_X4_61 : Cond.fieldLink RX4 61 "RowShutter$Tape" "fault" "I" ∈ rs_wg := rs_lk1 (i := 112) rfl rfl
theorem wj_X2 : Cond.instantiable RX2 3 ∈ rs_wg := rs_lk1 (i := 130) rfl rfl
theorem wi_yX2_init : Cond.instanceMethod yX2_init ∈ rs_wg := rs_lk1 (i := 132) rfl rfl
theorem wc_yX2_init : Cond.code yX2_init cX2_init 1 none ∈ rs_wg := rs_lk1 (i := 133) rfl rfl
theorem wl_X2_3 : Cond.methodLink RX2 3 objectInit ∈ rs_wg := rs_lk1 (i := 134) rfl rfl
theorem wl_X2_9 : Cond.fieldLink RX2 9 "RowShutter$Sheet" "cells" "[I" ∈ rs_wg := rs_lk1 (i := 135) rfl rfl
theorem wl_X4_247 : Cond.fieldLink RX4 247 "RowShutter$Sheet" "cells" "[I" ∈ rs_wg := rs_lk1 (i := 136) rfl rfl
theorem wl_X2_15 : Cond.fieldLink RX2 15 "RowShutter$Sheet" "lane" "I" ∈ rs_wg := rs_lk1 (i := 137) rfl rfl
theorem wl_X4_228 : Cond.fieldLink RX4 228 "RowShutter$Sheet" "lane" "I" ∈ rs_wg := rs_lk1 (i := 138) rfl rfl
theorem wl_X2_25 : Cond.fieldLink RX2 25 "RowShutter$Sheet" "size" "I" ∈ rs_wg := rs_lk1 (i := 139) rfl rfl
theorem wl_X4_231 : Cond.fieldLink RX4 231 "RowShutter$Sheet" "size" "I" ∈ rs_wg := rs_lk1 (i := 140) rfl rfl
theorem wl_X4_10 : Cond.fieldLink RX4 10 "RowShutter" "now" "LRowShutter$Scene;" ∈ rs_wg := rs_lk1 (i := 148) rfl rfl
theorem wl_X4_16 : Cond.fieldLink RX4 16 "RowShutter" "draft" "LRowShutter$Scene;" ∈ rs_wg := rs_lk1 (i := 149) rfl rfl
theorem wl_X4_19 : Cond.fieldLink RX4 19 "RowShutter" "images" "[LRowShutter$Scene;" ∈ rs_wg := rs_lk1 (i := 150) rfl rfl
theorem wl_X4_23 : Cond.fieldLink RX4 23 "RowShutter" "kept" "[Z" ∈ rs_wg := rs_lk1 (i := 151) rfl rfl
theorem wl_X4_29 : Cond.fieldLink RX4 29 "RowShutter" "sheets" "[LRowShutter$Sheet;" ∈ rs_wg := rs_lk1 (i := 152) rfl rfl
theorem wl_X4_36 : Cond.fieldLink RX4 36 "RowShutter" "tape" "LRowShutter$Tape;" ∈ rs_wg := rs_lk1 (i := 153) rfl rfl
theorem wl_X4_40 : Cond.fieldLink RX4 40 "RowShutter" "brights" "[I" ∈ rs_wg := rs_lk1 (i := 154) rfl rfl
theorem wl_X4_221 : Cond.fieldLink RX4 221 "RowShutter" "tornBy" "I" ∈ rs_wg := rs_lk1 (i := 155) rfl rfl
theorem wl_L_13 : Cond.methodLink RL 13 yX4_feed ∈ rs_wg := rs_lk1 (i := 173) rfl rfl
theorem wi_yX4_feed : Cond.instanceMethod yX4_feed ∈ rs_wg := rs_lk1 (i := 174) rfl rfl
theorem wx_yX4_feed : Cond.selects RX4 yX4_feed yX4_feed ∈ rs_wg := rs_lk1 (i := 175) rfl rfl
theorem wc_yX4_feed : Cond.code yX4_feed cX4_feed 2 (some FieldType.int) ∈ rs_wg := rs_lk1 (i := 176) rfl rfl
theorem wl_X4_45 : Cond.methodLink RX4 45 yX4_outside ∈ rs_wg := rs_lk1 (i := 177) rfl rfl
theorem ws_yX4_outside : Cond.static yX4_outside ∈ rs_wg := rs_lk1 (i := 178) rfl rfl
theorem wc_yX4_outside : Cond.code yX4_outside cX4_outside 3 (some FieldType.boolean) ∈ rs_wg := rs_lk1 (i := 179) rfl rfl
theorem wl_X4_49 : Cond.methodLink RX4 49 yX3_append ∈ rs_wg := rs_lk1 (i := 180) rfl rfl
theorem wi_yX3_append : Cond.instanceMethod yX3_append ∈ rs_wg := rs_lk1 (i := 181) rfl rfl
theorem wx_yX3_append : Cond.selects RX3 yX3_append yX3_append ∈ rs_wg := rs_lk1 (i := 182) rfl rfl
theorem wc_yX3_append : Cond.code yX3_append cX3_append 2 (some FieldType.boolean) ∈ rs_wg := rs_lk1 (i := 183) rfl rfl
theorem wl_L_18 : Cond.methodLink RL 18 yX4_end ∈ rs_wg := rs_lk1 (i := 184) rfl rfl
theorem wi_yX4_end : Cond.instanceMethod yX4_end ∈ rs_wg := rs_lk1 (i := 185) rfl rfl
theorem wx_yX4_end : Cond.selects RX4 yX4_end yX4_end ∈ rs_wg := rs_lk1 (i := 186) rfl rfl
theorem wc_yX4_end : Cond.code yX4_end cX4_end 3 (some FieldType.int) ∈ rs_wg := rs_lk1 (i := 187) rfl rfl
theorem wl_L_22 : Cond.methodLink RL 22 yX4_text ∈ rs_wg := rs_lk1 (i := 188) rfl rfl
theorem wi_yX4_text : Cond.instanceMethod yX4_text ∈ rs_wg := rs_lk1 (i := 189) rfl rfl
theorem wx_yX4_text : Cond.selects RX4 yX4_text yX4_text ∈ rs_wg := rs_lk1 (i := 190) rfl rfl
theorem wc_yX4_text : Cond.code yX4_text cX4_text 3 (some FieldType.int) ∈ rs_wg := rs_lk1 (i := 191) rfl rfl
theorem wl_X4_57 : Cond.methodLink RX4 57 yX3_readInto ∈ rs_wg := rs_lk1 (i := 192) rfl rfl
theorem wi_yX3_readInto : Cond.instanceMethod yX3_readInto ∈ rs_wg := rs_lk1 (i := 193) rfl rfl
theorem wx_yX3_readInto : Cond.selects RX3 yX3_readInto yX3_readInto ∈ rs_wg := rs_lk1 (i := 194) rfl rfl
theorem wc_yX3_readInto : Cond.code yX3_readInto cX3_readInto 3 (some FieldType.int) ∈ rs_wg := rs_lk1 (i := 195) rfl rfl
theorem wl_X3_19 : Cond.methodLink RX3 19 yX1_clear ∈ rs_wg := rs_lk1 (i := 196) rfl rfl
theorem wi_yX1_clear : Cond.instanceMethod yX1_clear ∈ rs_wg := rs_lk1 (i := 197) rfl rfl
theorem wx_yX1_clear : Cond.selects RX1 yX1_clear yX1_clear ∈ rs_wg := rs_lk1 (i := 198) rfl rfl
theorem wc_yX1_clear : Cond.code yX1_clear cX1_clear 1 none ∈ rs_wg := rs_lk1 (i := 199) rfl rfl
theorem wl_X3_33 : Cond.methodLink RX3 33 yX3_advance ∈ rs_wg := rs_lk1 (i := 200) rfl rfl
theorem wi_yX3_advance : Cond.instanceMethod yX3_advance ∈ rs_wg := rs_lk1 (i := 202) rfl rfl
theorem wc_yX3_advance : Cond.code yX3_advance cX3_advance 2 none ∈ rs_wg := rs_lk1 (i := 203) rfl rfl
theorem wl_X3_88 : Cond.methodLink RX3 88 yX3_takeAll ∈ rs_wg := rs_lk1 (i := 204) rfl rfl
theorem wi_yX3_takeAll : Cond.instanceMethod yX3_takeAll ∈ rs_wg := rs_lk1 (i := 206) rfl rfl
theorem wc_yX3_takeAll : Cond.code yX3_takeAll cX3_takeAll 3 none ∈ rs_wg := rs_lk1 (i := 207) rfl rfl
theorem wl_X3_39 : Cond.methodLink RX3 39 yX3_readLine ∈ rs_wg := rs_lk1 (i := 208) rfl rfl
theorem wi_yX3_readLine : Cond.instanceMethod yX3_readLine ∈ rs_wg := rs_lk1 (i := 210) rfl rfl
theorem wc_yX3_readLine : Cond.code yX3_readLine cX3_readLine 3 none ∈ rs_wg := rs_lk1 (i := 211) rfl rfl
theorem wl_X3_46 : Cond.methodLink RX3 46 yX3_lineBegun ∈ rs_wg := rs_lk1 (i := 212) rfl rfl
theorem wi_yX3_lineBegun : Cond.instanceMethod yX3_lineBegun ∈ rs_wg := rs_lk1 (i := 214) rfl rfl
theorem wc_yX3_lineBegun : Cond.code yX3_lineBegun cX3_lineBegun 2 (some FieldType.int) ∈ rs_wg := rs_lk1 (i := 215) rfl rfl
theorem wl_X3_92 : Cond.methodLink RX3 92 yX3_nameOf ∈ rs_wg := rs_lk1 (i := 216) rfl rfl
theorem ws_yX3_nameOf : Cond.static yX3_nameOf ∈ rs_wg := rs_lk1 (i := 217) rfl rfl
theorem wc_yX3_nameOf : Cond.code yX3_nameOf cX3_nameOf 1 (some (FieldType.object "java/lang/String")) ∈ rs_wg := rs_lk1 (i := 218) rfl rfl
theorem wl_X3_96 : Cond.methodLink RX3 96 yX3_isCalled ∈ rs_wg := rs_lk1 (i := 227) rfl rfl
theorem wi_yX3_isCalled : Cond.instanceMethod yX3_isCalled ∈ rs_wg := rs_lk1 (i := 229) rfl rfl
theorem wc_yX3_isCalled : Cond.code yX3_isCalled cX3_isCalled 3 (some FieldType.boolean) ∈ rs_wg := rs_lk1 (i := 230) rfl rfl
theorem wl_X3_100 : Cond.methodLink RX3 100 yJ0_length_8abf5 ∈ rs_wg := rs_lk1 (i := 231) rfl rfl
theorem wi_yJ0_length_8abf5 : Cond.instanceMethod yJ0_length_8abf5 ∈ rs_wg := rs_lk1 (i := 232) rfl rfl
theorem wx_yJ0_length_8abf5 : Cond.selects RJ0 yJ0_length_8abf5 yJ0_length_8abf5 ∈ rs_wg := rs_lk1 (i := 233) rfl rfl
theorem wc_yJ0_length_8abf5 : Cond.code yJ0_length_8abf5 cJ0_length_8abf5 1 (some FieldType.int) ∈ rs_wg := rs_lk1 (i := 234) rfl rfl
theorem wl_J0_335 : Cond.methodLink RJ0 335 yJ0_coder_7d493 ∈ rs_wg := rs_lk1 (i := 235) rfl rfl
theorem wi_yJ0_coder_7d493 : Cond.instanceMethod yJ0_coder_7d493 ∈ rs_wg := rs_lk1 (i := 236) rfl rfl
theorem wx_yJ0_coder_7d493 : Cond.selects RJ0 yJ0_coder_7d493 yJ0_coder_7d493 ∈ rs_wg := rs_lk1 (i := 237) rfl rfl
theorem wc_yJ0_coder_7d493 : Cond.code yJ0_coder_7d493 cJ0_coder_7d493 1 (some FieldType.byte) ∈ rs_wg := rs_lk1 (i := 238) rfl rfl
theorem wl_J0_38 : Cond.fieldLink RJ0 38 "java/lang/String" "COMPACT_STRINGS" "Z" ∈ rs_wg := rs_lk1 (i := 239) rfl rfl
theorem wl_X3_104 : Cond.methodLink RX3 104 yJ0_charAt_5068e ∈ rs_wg := rs_lk2 (i := 1) rfl rfl
theorem wi_yJ0_charAt_5068e : Cond.instanceMethod yJ0_charAt_5068e ∈ rs_wg := rs_lk2 (i := 2) rfl rfl
theorem wx_yJ0_charAt_5068e : Cond.selects RJ0 yJ0_charAt_5068e yJ0_charAt_5068e ∈ rs_wg := rs_lk2 (i := 3) rfl rfl
theorem wc_yJ0_charAt_5068e : Cond.code yJ0_charAt_5068e cJ0_charAt_5068e 2 (some FieldType.char) ∈ rs_wg := rs_lk2 (i := 4) rfl rfl
theorem wl_J0_492 : Cond.methodLink RJ0 492 yJ0_isLatin1_aae02 ∈ rs_wg := rs_lk2 (i := 5) rfl rfl
theorem wi_yJ0_isLatin1_aae02 : Cond.instanceMethod yJ0_isLatin1_aae02 ∈ rs_wg := rs_lk2 (i := 6) rfl rfl
theorem wx_yJ0_isLatin1_aae02 : Cond.selects RJ0 yJ0_isLatin1_aae02 yJ0_isLatin1_aae02 ∈ rs_wg := rs_lk2 (i := 7) rfl rfl
theorem wc_yJ0_isLatin1_aae02 : Cond.code yJ0_isLatin1_aae02 cJ0_isLatin1_aae02 1 (some FieldType.boolean) ∈ rs_wg := rs_lk2 (i := 8) rfl rfl
theorem wl_J0_495 : Cond.methodLink RJ0 495 yJ1_charAt_3b067 ∈ rs_wg := rs_lk2 (i := 9) rfl rfl
theorem ws_yJ1_charAt_3b067 : Cond.static yJ1_charAt_3b067 ∈ rs_wg := rs_lk2 (i := 10) rfl rfl
theorem wc_yJ1_charAt_3b067 : Cond.code yJ1_charAt_3b067 cJ1_charAt_3b067 2 (some FieldType.char) ∈ rs_wg := rs_lk2 (i := 11) rfl rfl
theorem wl_J1_9 : Cond.methodLink RJ1 9 yJ0_checkIndex_df160 ∈ rs_wg := rs_lk2 (i := 12) rfl rfl
theorem ws_yJ0_checkIndex_df160 : Cond.static yJ0_checkIndex_df160 ∈ rs_wg := rs_lk2 (i := 13) rfl rfl
theorem wc_yJ0_checkIndex_df160 : Cond.code yJ0_checkIndex_df160 cJ0_checkIndex_df160 2 none ∈ rs_wg := rs_lk2 (i := 14) rfl rfl
theorem wl_J0_1053 : Cond.fieldLink RJ0 1053 "jdk/internal/util/Preconditions" "SIOOBE_FORMATTER" "Ljava/util/function/BiFunction;" ∈ rs_wg := rs_lk2 (i := 15) rfl rfl
theorem wl_J0_1059 : Cond.methodLink RJ0 1059 yJ3_checkIndex_8e157 ∈ rs_wg := rs_lk2 (i := 17) rfl rfl
theorem ws_yJ3_checkIndex_8e157 : Cond.static yJ3_checkIndex_8e157 ∈ rs_wg := rs_lk2 (i := 18) rfl rfl
theorem wc_yJ3_checkIndex_8e157 : Cond.code yJ3_checkIndex_8e157 cJ3_checkIndex_8e157 3 (some FieldType.int) ∈ rs_wg := rs_lk2 (i := 19) rfl rfl
theorem wl_J0_498 : Cond.methodLink RJ0 498 yJ2_charAt_3b067 ∈ rs_wg := rs_lk2 (i := 20) rfl rfl
theorem ws_yJ2_charAt_3b067 : Cond.static yJ2_charAt_3b067 ∈ rs_wg := rs_lk2 (i := 21) rfl rfl
theorem wc_yJ2_charAt_3b067 : Cond.code yJ2_charAt_3b067 cJ2_charAt_3b067 2 (some FieldType.char) ∈ rs_wg := rs_lk2 (i := 22) rfl rfl
theorem wl_J2_67 : Cond.methodLink RJ2 67 yJ2_checkIndex_2214a ∈ rs_wg := rs_lk2 (i := 23) rfl rfl
theorem ws_yJ2_checkIndex_2214a : Cond.static yJ2_checkIndex_2214a ∈ rs_wg := rs_lk2 (i := 24) rfl rfl
theorem wc_yJ2_checkIndex_2214a : Cond.code yJ2_checkIndex_2214a cJ2_checkIndex_2214a 2 none ∈ rs_wg := rs_lk2 (i := 25) rfl rfl
theorem wl_J2_48 : Cond.methodLink RJ2 48 yJ2_length_9d52b ∈ rs_wg := rs_lk2 (i := 26) rfl rfl
theorem ws_yJ2_length_9d52b : Cond.static yJ2_length_9d52b ∈ rs_wg := rs_lk2 (i := 27) rfl rfl
theorem wc_yJ2_length_9d52b : Cond.code yJ2_length_9d52b cJ2_length_9d52b 1 (some FieldType.int) ∈ rs_wg := rs_lk2 (i := 28) rfl rfl
theorem wl_J2_414 : Cond.methodLink RJ2 414 yJ0_checkIndex_df160 ∈ rs_wg := rs_lk2 (i := 29) rfl rfl
theorem wl_J2_71 : Cond.methodLink RJ2 71 yJ2_getChar_3b067 ∈ rs_wg := rs_lk2 (i := 30) rfl rfl
theorem ws_yJ2_getChar_3b067 : Cond.static yJ2_getChar_3b067 ∈ rs_wg := rs_lk2 (i := 31) rfl rfl
theorem wc_yJ2_getChar_3b067 : Cond.code yJ2_getChar_3b067 cJ2_getChar_3b067 2 (some FieldType.char) ∈ rs_wg := rs_lk2 (i := 32) rfl rfl
theorem wl_J2_44 : Cond.fieldLink RJ2 44 "java/lang/StringUTF16" "$assertionsDisabled" "Z" ∈ rs_wg := rs_lk2 (i := 33) rfl rfl
theorem wl_J2_59 : Cond.fieldLink RJ2 59 "java/lang/StringUTF16" "HI_BYTE_SHIFT" "I" ∈ rs_wg := rs_lk2 (i := 35) rfl rfl
theorem wl_J2_63 : Cond.fieldLink RJ2 63 "java/lang/StringUTF16" "LO_BYTE_SHIFT" "I" ∈ rs_wg := rs_lk2 (i := 37) rfl rfl
theorem wl_X3_50 : Cond.methodLink RX3 50 yX3_readLamp ∈ rs_wg := rs_lk2 (i := 39) rfl rfl
theorem wi_yX3_readLamp : Cond.instanceMethod yX3_readLamp ∈ rs_wg := rs_lk2 (i := 41) rfl rfl
theorem wc_yX3_readLamp : Cond.code yX3_readLamp cX3_readLamp 6 none ∈ rs_wg := rs_lk2 (i := 42) rfl rfl
theorem wl_X3_67 : Cond.methodLink RX3 67 yX3_readNumber ∈ rs_wg := rs_lk2 (i := 47) rfl rfl
theorem wi_yX3_readNumber : Cond.instanceMethod yX3_readNumber ∈ rs_wg := rs_lk2 (i := 49) rfl rfl
theorem wc_yX3_readNumber : Cond.code yX3_readNumber cX3_readNumber 5 (some FieldType.int) ∈ rs_wg := rs_lk2 (i := 50) rfl rfl
theorem wl_X3_71 : Cond.methodLink RX3 71 yX1_addLamp ∈ rs_wg := rs_lk2 (i := 52) rfl rfl
theorem wi_yX1_addLamp : Cond.instanceMethod yX1_addLamp ∈ rs_wg := rs_lk2 (i := 53) rfl rfl
theorem wx_yX1_addLamp : Cond.selects RX1 yX1_addLamp yX1_addLamp ∈ rs_wg := rs_lk2 (i := 54) rfl rfl
theorem wc_yX1_addLamp : Cond.code yX1_addLamp cX1_addLamp 6 (some FieldType.boolean) ∈ rs_wg := rs_lk2 (i := 55) rfl rfl
theorem wl_X1_63 : Cond.methodLink RX1 63 yX0_become ∈ rs_wg := rs_lk2 (i := 56) rfl rfl
theorem wi_yX0_become : Cond.instanceMethod yX0_become ∈ rs_wg := rs_lk2 (i := 57) rfl rfl
theorem wx_yX0_become : Cond.selects RX0 yX0_become yX0_become ∈ rs_wg := rs_lk2 (i := 58) rfl rfl
theorem wc_yX0_become : Cond.code yX0_become cX0_become 3 none ∈ rs_wg := rs_lk2 (i := 59) rfl rfl
theorem ws_yX4_isPart : Cond.static yX4_isPart ∈ rs_wg := rs_lk2 (i := 61) rfl rfl
theorem wc_yX4_isPart : Cond.code yX4_isPart cX4_isPart 2 (some FieldType.boolean) ∈ rs_wg := rs_lk2 (i := 62) rfl rfl
theorem wl_X4_237 : Cond.fieldLink RX4 237 "RowShutter" "PART_LEAST" "[I" ∈ rs_wg := rs_lk2 (i := 63) rfl rfl
theorem wl_X4_240 : Cond.fieldLink RX4 240 "RowShutter" "PART_MOST" "[I" ∈ rs_wg := rs_lk2 (i := 64) rfl rfl
theorem wl_X0_28 : Cond.methodLink RX0 28 yX0_sumUp ∈ rs_wg := rs_lk2 (i := 65) rfl rfl
theorem wi_yX0_sumUp : Cond.instanceMethod yX0_sumUp ∈ rs_wg := rs_lk2 (i := 67) rfl rfl
theorem wc_yX0_sumUp : Cond.code yX0_sumUp cX0_sumUp 2 none ∈ rs_wg := rs_lk2 (i := 68) rfl rfl
theorem wl_X0_37 : Cond.methodLink RX0 37 yX0_givesAt ∈ rs_wg := rs_lk2 (i := 69) rfl rfl
theorem wi_yX0_givesAt : Cond.instanceMethod yX0_givesAt ∈ rs_wg := rs_lk2 (i := 71) rfl rfl
theorem wc_yX0_givesAt : Cond.code yX0_givesAt cX0_givesAt 5 (some FieldType.int) ∈ rs_wg := rs_lk2 (i := 72) rfl rfl
theorem wl_X3_54 : Cond.methodLink RX3 54 yX3_readRule ∈ rs_wg := rs_lk2 (i := 73) rfl rfl
theorem wi_yX3_readRule : Cond.instanceMethod yX3_readRule ∈ rs_wg := rs_lk2 (i := 75) rfl rfl
theorem wc_yX3_readRule : Cond.code yX3_readRule cX3_readRule 4 none ∈ rs_wg := rs_lk2 (i := 76) rfl rfl
theorem wl_X4_64 : Cond.methodLink RX4 64 yX1_copyFrom ∈ rs_wg := rs_lk2 (i := 81) rfl rfl
theorem wi_yX1_copyFrom : Cond.instanceMethod yX1_copyFrom ∈ rs_wg := rs_lk2 (i := 82) rfl rfl
theorem wx_yX1_copyFrom : Cond.selects RX1 yX1_copyFrom yX1_copyFrom ∈ rs_wg := rs_lk2 (i := 83) rfl rfl
theorem wc_yX1_copyFrom : Cond.code yX1_copyFrom cX1_copyFrom 3 none ∈ rs_wg := rs_lk2 (i := 84) rfl rfl
theorem wl_X1_59 : Cond.methodLink RX1 59 yX0_copyFrom ∈ rs_wg := rs_lk2 (i := 85) rfl rfl
theorem wi_yX0_copyFrom : Cond.instanceMethod yX0_copyFrom ∈ rs_wg := rs_lk2 (i := 86) rfl rfl
theorem wx_yX0_copyFrom : Cond.selects RX0 yX0_copyFrom yX0_copyFrom ∈ rs_wg := rs_lk2 (i := 87) rfl rfl
theorem wc_yX0_copyFrom : Cond.code yX0_copyFrom cX0_copyFrom 2 none ∈ rs_wg := rs_lk2 (i := 88) rfl rfl
theorem wl_X0_18 : Cond.methodLink RX0 18 arraycopyName ∈ rs_wg := rs_lk2 (i := 89) rfl rfl
theorem wl_L_27 : Cond.methodLink RL 27 yX4_fault ∈ rs_wg := rs_lk2 (i := 90) rfl rfl
theorem wi_yX4_fault : Cond.instanceMethod yX4_fault ∈ rs_wg := rs_lk2 (i := 91) rfl rfl
theorem wx_yX4_fault : Cond.selects RX4 yX4_fault yX4_fault ∈ rs_wg := rs_lk2 (i := 92) rfl rfl
theorem wc_yX4_fault : Cond.code yX4_fault cX4_fault 1 (some FieldType.int) ∈ rs_wg := rs_lk2 (i := 93) rfl rfl
theorem wl_L_31 : Cond.methodLink RL 31 yX4_rule ∈ rs_wg := rs_lk2 (i := 94) rfl rfl
theorem wi_yX4_rule : Cond.instanceMethod yX4_rule ∈ rs_wg := rs_lk2 (i := 95) rfl rfl
theorem wx_yX4_rule : Cond.selects RX4 yX4_rule yX4_rule ∈ rs_wg := rs_lk2 (i := 96) rfl rfl
theorem wc_yX4_rule : Cond.code yX4_rule cX4_rule 2 (some FieldType.int) ∈ rs_wg := rs_lk2 (i := 97) rfl rfl
theorem wl_X4_80 : Cond.methodLink RX4 80 yX1_shine ∈ rs_wg := rs_lk2 (i := 98) rfl rfl
theorem wi_yX1_shine : Cond.instanceMethod yX1_shine ∈ rs_wg := rs_lk2 (i := 99) rfl rfl
theorem wx_yX1_shine : Cond.selects RX1 yX1_shine yX1_shine ∈ rs_wg := rs_lk2 (i := 100) rfl rfl
theorem wc_yX1_shine : Cond.code yX1_shine cX1_shine 1 (some FieldType.int) ∈ rs_wg := rs_lk2 (i := 101) rfl rfl
theorem wl_X1_70 : Cond.methodLink RX1 70 yX1_lightIn ∈ rs_wg := rs_lk2 (i := 102) rfl rfl
theorem wi_yX1_lightIn : Cond.instanceMethod yX1_lightIn ∈ rs_wg := rs_lk2 (i := 104) rfl rfl
theorem wc_yX1_lightIn : Cond.code yX1_lightIn cX1_lightIn 5 (some FieldType.int) ∈ rs_wg := rs_lk2 (i := 105) rfl rfl
theorem wl_X1_74 : Cond.methodLink RX1 74 yX0_gives ∈ rs_wg := rs_lk2 (i := 106) rfl rfl
theorem wi_yX0_gives : Cond.instanceMethod yX0_gives ∈ rs_wg := rs_lk2 (i := 107) rfl rfl
theorem wx_yX0_gives : Cond.selects RX0 yX0_gives yX0_gives ∈ rs_wg := rs_lk2 (i := 108) rfl rfl
theorem wc_yX0_gives : Cond.code yX0_gives cX0_gives 7 (some FieldType.int) ∈ rs_wg := rs_lk2 (i := 109) rfl rfl
theorem wl_L_35 : Cond.methodLink RL 35 yX4_lamp ∈ rs_wg := rs_lk2 (i := 110) rfl rfl
theorem wi_yX4_lamp : Cond.instanceMethod yX4_lamp ∈ rs_wg := rs_lk2 (i := 111) rfl rfl
theorem wx_yX4_lamp : Cond.selects RX4 yX4_lamp yX4_lamp ∈ rs_wg := rs_lk2 (i := 112) rfl rfl
theorem wc_yX4_lamp : Cond.code yX4_lamp cX4_lamp 4 (some FieldType.int) ∈ rs_wg := rs_lk2 (i := 113) rfl rfl
theorem wl_X4_84 : Cond.methodLink RX4 84 yX1_lampAt ∈ rs_wg := rs_lk2 (i := 114) rfl rfl
theorem wi_yX1_lampAt : Cond.instanceMethod yX1_lampAt ∈ rs_wg := rs_lk2 (i := 115) rfl rfl
theorem wx_yX1_lampAt : Cond.selects RX1 yX1_lampAt yX1_lampAt ∈ rs_wg := rs_lk2 (i := 116) rfl rfl
theorem wc_yX1_lampAt : Cond.code yX1_lampAt cX1_lampAt 2 (some (FieldType.object "RowShutter$Lamp")) ∈ rs_wg := rs_lk2 (i := 117) rfl rfl
theorem wl_X4_93 : Cond.methodLink RX4 93 yX0_gives ∈ rs_wg := rs_lk2 (i := 118) rfl rfl
theorem wl_L_40 : Cond.methodLink RL 40 yX4_row ∈ rs_wg := rs_lk2 (i := 119) rfl rfl
theorem wi_yX4_row : Cond.instanceMethod yX4_row ∈ rs_wg := rs_lk2 (i := 120) rfl rfl
theorem wx_yX4_row : Cond.selects RX4 yX4_row yX4_row ∈ rs_wg := rs_lk2 (i := 121) rfl rfl
theorem wc_yX4_row : Cond.code yX4_row cX4_row 2 (some FieldType.int) ∈ rs_wg := rs_lk2 (i := 122) rfl rfl
theorem wl_L_44 : Cond.methodLink RL 44 yX4_alter ∈ rs_wg := rs_lk2 (i := 123) rfl rfl
theorem wi_yX4_alter : Cond.instanceMethod yX4_alter ∈ rs_wg := rs_lk2 (i := 124) rfl rfl
theorem wx_yX4_alter : Cond.selects RX4 yX4_alter yX4_alter ∈ rs_wg := rs_lk2 (i := 125) rfl rfl
theorem wc_yX4_alter : Cond.code yX4_alter cX4_alter 6 (some FieldType.int) ∈ rs_wg := rs_lk2 (i := 126) rfl rfl
theorem wl_X4_103 : Cond.methodLink RX4 103 yX4_isPart ∈ rs_wg := rs_lk2 (i := 127) rfl rfl
theorem wl_X4_107 : Cond.methodLink RX4 107 yX0_become ∈ rs_wg := rs_lk2 (i := 128) rfl rfl
theorem wl_L_49 : Cond.methodLink RL 49 yX4_tell ∈ rs_wg := rs_lk2 (i := 129) rfl rfl
theorem wi_yX4_tell : Cond.instanceMethod yX4_tell ∈ rs_wg := rs_lk2 (i := 130) rfl rfl
theorem wx_yX4_tell : Cond.selects RX4 yX4_tell yX4_tell ∈ rs_wg := rs_lk2 (i := 131) rfl rfl
theorem wc_yX4_tell : Cond.code yX4_tell cX4_tell 4 (some FieldType.int) ∈ rs_wg := rs_lk2 (i := 132) rfl rfl
theorem wl_X4_111 : Cond.methodLink RX4 111 yX4_isRule ∈ rs_wg := rs_lk2 (i := 133) rfl rfl
theorem ws_yX4_isRule : Cond.static yX4_isRule ∈ rs_wg := rs_lk2 (i := 134) rfl rfl
theorem wc_yX4_isRule : Cond.code yX4_isRule cX4_isRule 2 (some FieldType.boolean) ∈ rs_wg := rs_lk2 (i := 135) rfl rfl
theorem wl_X4_148 : Cond.fieldLink RX4 148 "RowShutter" "RULE_LEAST" "[I" ∈ rs_wg := rs_lk2 (i := 136) rfl rfl
theorem wl_X4_151 : Cond.fieldLink RX4 151 "RowShutter" "RULE_MOST" "[I" ∈ rs_wg := rs_lk2 (i := 137) rfl rfl
theorem wl_L_53 : Cond.methodLink RL 53 yX4_put ∈ rs_wg := rs_lk2 (i := 138) rfl rfl
theorem wi_yX4_put : Cond.instanceMethod yX4_put ∈ rs_wg := rs_lk2 (i := 139) rfl rfl
theorem wx_yX4_put : Cond.selects RX4 yX4_put yX4_put ∈ rs_wg := rs_lk2 (i := 140) rfl rfl
theorem wc_yX4_put : Cond.code yX4_put cX4_put 4 (some FieldType.int) ∈ rs_wg := rs_lk2 (i := 141) rfl rfl
theorem wl_X4_114 : Cond.methodLink RX4 114 yX1_addLamp ∈ rs_wg := rs_lk2 (i := 142) rfl rfl
theorem wl_L_57 : Cond.methodLink RL 57 yX4_cut ∈ rs_wg := rs_lk2 (i := 143) rfl rfl
theorem wi_yX4_cut : Cond.instanceMethod yX4_cut ∈ rs_wg := rs_lk2 (i := 144) rfl rfl
theorem wx_yX4_cut : Cond.selects RX4 yX4_cut yX4_cut ∈ rs_wg := rs_lk2 (i := 145) rfl rfl
theorem wc_yX4_cut : Cond.code yX4_cut cX4_cut 3 (some FieldType.int) ∈ rs_wg := rs_lk2 (i := 146) rfl rfl
theorem wl_L_61 : Cond.methodLink RL 61 yX4_rest ∈ rs_wg := rs_lk2 (i := 147) rfl rfl
theorem wi_yX4_rest : Cond.instanceMethod yX4_rest ∈ rs_wg := rs_lk2 (i := 148) rfl rfl
theorem wx_yX4_rest : Cond.selects RX4 yX4_rest yX4_rest ∈ rs_wg := rs_lk2 (i := 149) rfl rfl
theorem wc_yX4_rest : Cond.code yX4_rest cX4_rest 2 (some FieldType.int) ∈ rs_wg := rs_lk2 (i := 150) rfl rfl
theorem wk_X4_118 : Cond.constant RX4 118 (100000) ∈ rs_wg := rs_lk2 (i := 151) rfl rfl
theorem wl_L_65 : Cond.methodLink RL 65 yX4_shoot ∈ rs_wg := rs_lk2 (i := 152) rfl rfl
theorem wi_yX4_shoot : Cond.instanceMethod yX4_shoot ∈ rs_wg := rs_lk2 (i := 153) rfl rfl
theorem wx_yX4_shoot : Cond.selects RX4 yX4_shoot yX4_shoot ∈ rs_wg := rs_lk2 (i := 154) rfl rfl
theorem wc_yX4_shoot : Cond.code yX4_shoot cX4_shoot 3 (some FieldType.int) ∈ rs_wg := rs_lk2 (i := 155) rfl rfl
theorem wl_X4_119 : Cond.methodLink RX4 119 yX1_startOf ∈ rs_wg := rs_lk2 (i := 156) rfl rfl
theorem wi_yX1_startOf : Cond.instanceMethod yX1_startOf ∈ rs_wg := rs_lk2 (i := 157) rfl rfl
theorem wx_yX1_startOf : Cond.selects RX1 yX1_startOf yX1_startOf ∈ rs_wg := rs_lk2 (i := 158) rfl rfl
theorem wc_yX1_startOf : Cond.code yX1_startOf cX1_startOf 2 (some FieldType.int) ∈ rs_wg := rs_lk2 (i := 159) rfl rfl
theorem wl_X4_123 : Cond.methodLink RX4 123 yX1_greatestBands ∈ rs_wg := rs_lk2 (i := 160) rfl rfl
theorem wi_yX1_greatestBands : Cond.instanceMethod yX1_greatestBands ∈ rs_wg := rs_lk2 (i := 161) rfl rfl
theorem wx_yX1_greatestBands : Cond.selects RX1 yX1_greatestBands yX1_greatestBands ∈ rs_wg := rs_lk2 (i := 162) rfl rfl
theorem wc_yX1_greatestBands : Cond.code yX1_greatestBands cX1_greatestBands 4 (some FieldType.int) ∈ rs_wg := rs_lk2 (i := 163) rfl rfl
theorem wl_X1_92 : Cond.methodLink RX1 92 yX1_bands ∈ rs_wg := rs_lk2 (i := 164) rfl rfl
theorem wi_yX1_bands : Cond.instanceMethod yX1_bands ∈ rs_wg := rs_lk2 (i := 165) rfl rfl
theorem wx_yX1_bands : Cond.selects RX1 yX1_bands yX1_bands ∈ rs_wg := rs_lk2 (i := 166) rfl rfl
theorem wc_yX1_bands : Cond.code yX1_bands cX1_bands 6 (some FieldType.int) ∈ rs_wg := rs_lk2 (i := 167) rfl rfl
theorem wl_X1_86 : Cond.methodLink RX1 86 yX1_bright ∈ rs_wg := rs_lk2 (i := 168) rfl rfl
theorem wi_yX1_bright : Cond.instanceMethod yX1_bright ∈ rs_wg := rs_lk2 (i := 169) rfl rfl
theorem wx_yX1_bright : Cond.selects RX1 yX1_bright yX1_bright ∈ rs_wg := rs_lk2 (i := 170) rfl rfl
theorem wc_yX1_bright : Cond.code yX1_bright cX1_bright 3 (some FieldType.int) ∈ rs_wg := rs_lk2 (i := 171) rfl rfl
theorem wl_X1_77 : Cond.methodLink RX1 77 yX1_startOf ∈ rs_wg := rs_lk2 (i := 172) rfl rfl
theorem wl_X1_81 : Cond.methodLink RX1 81 Lib.Math.min.name ∈ rs_wg := rs_lk2 (i := 173) rfl rfl
theorem ws_Lib_Math_min_name : Cond.static Lib.Math.min.name ∈ rs_wg := rs_lk2 (i := 174) rfl rfl
theorem wc_Lib_Math_min_name : Cond.code Lib.Math.min.name prog_9_method_69_code 2 (some FieldType.int) ∈ rs_wg := rs_lk2 (i := 175) rfl rfl
theorem wl_X1_89 : Cond.methodLink RX1 89 Lib.Math.max.name ∈ rs_wg := rs_lk2 (i := 176) rfl rfl
theorem ws_Lib_Math_max_name : Cond.static Lib.Math.max.name ∈ rs_wg := rs_lk2 (i := 177) rfl rfl
theorem wc_Lib_Math_max_name : Cond.code Lib.Math.max.name prog_9_method_65_code 2 (some FieldType.int) ∈ rs_wg := rs_lk2 (i := 178) rfl rfl
theorem wl_X4_126 : Cond.methodLink RX4 126 yX1_take ∈ rs_wg := rs_lk2 (i := 179) rfl rfl
theorem wi_yX1_take : Cond.instanceMethod yX1_take ∈ rs_wg := rs_lk2 (i := 180) rfl rfl
theorem wx_yX1_take : Cond.selects RX1 yX1_take yX1_take ∈ rs_wg := rs_lk2 (i := 181) rfl rfl
theorem wc_yX1_take : Cond.code yX1_take cX1_take 3 none ∈ rs_wg := rs_lk2 (i := 182) rfl rfl
theorem wl_L_69 : Cond.methodLink RL 69 yX4_runs ∈ rs_wg := rs_lk2 (i := 183) rfl rfl
theorem wi_yX4_runs : Cond.instanceMethod yX4_runs ∈ rs_wg := rs_lk2 (i := 184) rfl rfl
theorem wx_yX4_runs : Cond.selects RX4 yX4_runs yX4_runs ∈ rs_wg := rs_lk2 (i := 185) rfl rfl
theorem wc_yX4_runs : Cond.code yX4_runs cX4_runs 3 (some FieldType.int) ∈ rs_wg := rs_lk2 (i := 186) rfl rfl
theorem wl_X4_130 : Cond.methodLink RX4 130 yX1_leastBands ∈ rs_wg := rs_lk2 (i := 187) rfl rfl
theorem wi_yX1_leastBands : Cond.instanceMethod yX1_leastBands ∈ rs_wg := rs_lk2 (i := 188) rfl rfl
theorem wx_yX1_leastBands : Cond.selects RX1 yX1_leastBands yX1_leastBands ∈ rs_wg := rs_lk2 (i := 189) rfl rfl
theorem wc_yX1_leastBands : Cond.code yX1_leastBands cX1_leastBands 4 (some FieldType.int) ∈ rs_wg := rs_lk2 (i := 190) rfl rfl
theorem wl_X4_133 : Cond.methodLink RX4 133 yX1_lightOfShots ∈ rs_wg := rs_lk2 (i := 191) rfl rfl
theorem wi_yX1_lightOfShots : Cond.instanceMethod yX1_lightOfShots ∈ rs_wg := rs_lk2 (i := 192) rfl rfl
theorem wx_yX1_lightOfShots : Cond.selects RX1 yX1_lightOfShots yX1_lightOfShots ∈ rs_wg := rs_lk2 (i := 193) rfl rfl
theorem wc_yX1_lightOfShots : Cond.code yX1_lightOfShots cX1_lightOfShots 4 (some FieldType.int) ∈ rs_wg := rs_lk2 (i := 194) rfl rfl
theorem wl_X1_95 : Cond.methodLink RX1 95 yX1_lightOf ∈ rs_wg := rs_lk2 (i := 195) rfl rfl
theorem wi_yX1_lightOf : Cond.instanceMethod yX1_lightOf ∈ rs_wg := rs_lk2 (i := 196) rfl rfl
theorem wx_yX1_lightOf : Cond.selects RX1 yX1_lightOf yX1_lightOf ∈ rs_wg := rs_lk2 (i := 197) rfl rfl
theorem wc_yX1_lightOf : Cond.code yX1_lightOf cX1_lightOf 4 (some FieldType.int) ∈ rs_wg := rs_lk2 (i := 198) rfl rfl
theorem wl_X4_136 : Cond.methodLink RX4 136 yX1_fullRows ∈ rs_wg := rs_lk2 (i := 199) rfl rfl
theorem wi_yX1_fullRows : Cond.instanceMethod yX1_fullRows ∈ rs_wg := rs_lk2 (i := 200) rfl rfl
theorem wx_yX1_fullRows : Cond.selects RX1 yX1_fullRows yX1_fullRows ∈ rs_wg := rs_lk2 (i := 201) rfl rfl
theorem wc_yX1_fullRows : Cond.code yX1_fullRows cX1_fullRows 5 (some FieldType.int) ∈ rs_wg := rs_lk2 (i := 202) rfl rfl
theorem wl_L_73 : Cond.methodLink RL 73 yX4_ahead ∈ rs_wg := rs_lk2 (i := 203) rfl rfl
theorem wi_yX4_ahead : Cond.instanceMethod yX4_ahead ∈ rs_wg := rs_lk2 (i := 204) rfl rfl
theorem wx_yX4_ahead : Cond.selects RX4 yX4_ahead yX4_ahead ∈ rs_wg := rs_lk2 (i := 205) rfl rfl
theorem wc_yX4_ahead : Cond.code yX4_ahead cX4_ahead 3 (some FieldType.int) ∈ rs_wg := rs_lk2 (i := 206) rfl rfl
theorem wl_X4_139 : Cond.methodLink RX4 139 yX1_bright ∈ rs_wg := rs_lk2 (i := 207) rfl rfl
theorem wl_L_77 : Cond.methodLink RL 77 yX4_when ∈ rs_wg := rs_lk2 (i := 208) rfl rfl
theorem wi_yX4_when : Cond.instanceMethod yX4_when ∈ rs_wg := rs_lk2 (i := 209) rfl rfl
theorem wx_yX4_when : Cond.selects RX4 yX4_when yX4_when ∈ rs_wg := rs_lk2 (i := 210) rfl rfl
theorem wc_yX4_when : Cond.code yX4_when cX4_when 3 (some FieldType.int) ∈ rs_wg := rs_lk2 (i := 211) rfl rfl
theorem wl_X4_142 : Cond.methodLink RX4 142 yX1_bands ∈ rs_wg := rs_lk2 (i := 212) rfl rfl
theorem wl_L_81 : Cond.methodLink RL 81 yX4_again ∈ rs_wg := rs_lk2 (i := 213) rfl rfl
theorem wi_yX4_again : Cond.instanceMethod yX4_again ∈ rs_wg := rs_lk2 (i := 214) rfl rfl
theorem wx_yX4_again : Cond.selects RX4 yX4_again yX4_again ∈ rs_wg := rs_lk2 (i := 215) rfl rfl
theorem wc_yX4_again : Cond.code yX4_again cX4_again 2 (some FieldType.int) ∈ rs_wg := rs_lk2 (i := 216) rfl rfl
theorem wl_X4_145 : Cond.methodLink RX4 145 yX1_isLikeFirst ∈ rs_wg := rs_lk2 (i := 217) rfl rfl
theorem wi_yX1_isLikeFirst : Cond.instanceMethod yX1_isLikeFirst ∈ rs_wg := rs_lk2 (i := 218) rfl rfl
theorem wx_yX1_isLikeFirst : Cond.selects RX1 yX1_isLikeFirst yX1_isLikeFirst ∈ rs_wg := rs_lk2 (i := 219) rfl rfl
theorem wc_yX1_isLikeFirst : Cond.code yX1_isLikeFirst cX1_isLikeFirst 3 (some FieldType.boolean) ∈ rs_wg := rs_lk2 (i := 220) rfl rfl
theorem wl_L_85 : Cond.methodLink RL 85 yX4_best ∈ rs_wg := rs_lk2 (i := 221) rfl rfl
theorem wi_yX4_best : Cond.instanceMethod yX4_best ∈ rs_wg := rs_lk2 (i := 222) rfl rfl
theorem wx_yX4_best : Cond.selects RX4 yX4_best yX4_best ∈ rs_wg := rs_lk2 (i := 223) rfl rfl
theorem wc_yX4_best : Cond.code yX4_best cX4_best 8 (some FieldType.int) ∈ rs_wg := rs_lk2 (i := 224) rfl rfl
theorem wl_L_89 : Cond.methodLink RL 89 yX4_kind ∈ rs_wg := rs_lk2 (i := 225) rfl rfl
theorem wi_yX4_kind : Cond.instanceMethod yX4_kind ∈ rs_wg := rs_lk2 (i := 226) rfl rfl
theorem wx_yX4_kind : Cond.selects RX4 yX4_kind yX4_kind ∈ rs_wg := rs_lk2 (i := 227) rfl rfl
theorem wc_yX4_kind : Cond.code yX4_kind cX4_kind 4 (some FieldType.int) ∈ rs_wg := rs_lk2 (i := 228) rfl rfl
theorem wl_X4_154 : Cond.methodLink RX4 154 yX4_bestPart ∈ rs_wg := rs_lk2 (i := 229) rfl rfl
theorem wi_yX4_bestPart : Cond.instanceMethod yX4_bestPart ∈ rs_wg := rs_lk2 (i := 231) rfl rfl
theorem wc_yX4_bestPart : Cond.code yX4_bestPart cX4_bestPart 9 (some FieldType.int) ∈ rs_wg := rs_lk2 (i := 232) rfl rfl
theorem wl_L_93 : Cond.methodLink RL 93 yX4_phase ∈ rs_wg := rs_lk2 (i := 233) rfl rfl
theorem wi_yX4_phase : Cond.instanceMethod yX4_phase ∈ rs_wg := rs_lk2 (i := 234) rfl rfl
theorem wx_yX4_phase : Cond.selects RX4 yX4_phase yX4_phase ∈ rs_wg := rs_lk2 (i := 235) rfl rfl
theorem wc_yX4_phase : Cond.code yX4_phase cX4_phase 4 (some FieldType.int) ∈ rs_wg := rs_lk2 (i := 236) rfl rfl
theorem wl_L_97 : Cond.methodLink RL 97 yX4_out ∈ rs_wg := rs_lk2 (i := 237) rfl rfl
theorem wi_yX4_out : Cond.instanceMethod yX4_out ∈ rs_wg := rs_lk2 (i := 238) rfl rfl
theorem wx_yX4_out : Cond.selects RX4 yX4_out yX4_out ∈ rs_wg := rs_lk2 (i := 239) rfl rfl
theorem wc_yX4_out : Cond.code yX4_out cX4_out 7 (some FieldType.int) ∈ rs_wg := rs_lk3 (i := 0) rfl rfl
theorem wl_X4_162 : Cond.methodLink RX4 162 yX0_putOut ∈ rs_wg := rs_lk3 (i := 1) rfl rfl
theorem wi_yX0_putOut : Cond.instanceMethod yX0_putOut ∈ rs_wg := rs_lk3 (i := 2) rfl rfl
theorem wx_yX0_putOut : Cond.selects RX0 yX0_putOut yX0_putOut ∈ rs_wg := rs_lk3 (i := 3) rfl rfl
theorem wc_yX0_putOut : Cond.code yX0_putOut cX0_putOut 1 none ∈ rs_wg := rs_lk3 (i := 4) rfl rfl
theorem wl_X0_31 : Cond.methodLink RX0 31 yJ7_fill_53178 ∈ rs_wg := rs_lk3 (i := 5) rfl rfl
theorem ws_yJ7_fill_53178 : Cond.static yJ7_fill_53178 ∈ rs_wg := rs_lk3 (i := 6) rfl rfl
theorem wc_yJ7_fill_53178 : Cond.code yJ7_fill_53178 cJ7_fill_53178 4 none ∈ rs_wg := rs_lk3 (i := 7) rfl rfl
theorem wl_X4_165 : Cond.methodLink RX4 165 yX0_copyFrom ∈ rs_wg := rs_lk3 (i := 8) rfl rfl
theorem wl_L_101 : Cond.methodLink RL 101 yX4_luck ∈ rs_wg := rs_lk3 (i := 9) rfl rfl
theorem wi_yX4_luck : Cond.instanceMethod yX4_luck ∈ rs_wg := rs_lk3 (i := 10) rfl rfl
theorem wx_yX4_luck : Cond.selects RX4 yX4_luck yX4_luck ∈ rs_wg := rs_lk3 (i := 11) rfl rfl
theorem wc_yX4_luck : Cond.code yX4_luck cX4_luck 12 (some FieldType.long) ∈ rs_wg := rs_lk3 (i := 12) rfl rfl
theorem wk_X4_168 : Cond.constantLong RX4 168 (-1) ∈ rs_wg := rs_lk3 (i := 13) rfl rfl
theorem wl_X4_170 : Cond.methodLink RX4 170 yX4_draftSteadyLamps ∈ rs_wg := rs_lk3 (i := 14) rfl rfl
theorem wi_yX4_draftSteadyLamps : Cond.instanceMethod yX4_draftSteadyLamps ∈ rs_wg := rs_lk3 (i := 16) rfl rfl
theorem wc_yX4_draftSteadyLamps : Cond.code yX4_draftSteadyLamps cX4_draftSteadyLamps 2 none ∈ rs_wg := rs_lk3 (i := 17) rfl rfl
theorem wk_X4_173 : Cond.constantLong RX4 173 (10) ∈ rs_wg := rs_lk3 (i := 18) rfl rfl
theorem wl_X4_175 : Cond.methodLink RX4 175 yX4_inLowestTerms ∈ rs_wg := rs_lk3 (i := 19) rfl rfl
theorem ws_yX4_inLowestTerms : Cond.static yX4_inLowestTerms ∈ rs_wg := rs_lk3 (i := 20) rfl rfl
theorem wc_yX4_inLowestTerms : Cond.code yX4_inLowestTerms cX4_inLowestTerms 12 (some FieldType.long) ∈ rs_wg := rs_lk3 (i := 21) rfl rfl
theorem wl_L_106 : Cond.methodLink RL 106 yX4_mean ∈ rs_wg := rs_lk3 (i := 22) rfl rfl
theorem wi_yX4_mean : Cond.instanceMethod yX4_mean ∈ rs_wg := rs_lk3 (i := 23) rfl rfl
theorem wx_yX4_mean : Cond.selects RX4 yX4_mean yX4_mean ∈ rs_wg := rs_lk3 (i := 24) rfl rfl
theorem wc_yX4_mean : Cond.code yX4_mean cX4_mean 8 (some FieldType.long) ∈ rs_wg := rs_lk3 (i := 25) rfl rfl
theorem wl_L_111 : Cond.methodLink RL 111 yX4_see ∈ rs_wg := rs_lk3 (i := 26) rfl rfl
theorem wi_yX4_see : Cond.instanceMethod yX4_see ∈ rs_wg := rs_lk3 (i := 27) rfl rfl
theorem wx_yX4_see : Cond.selects RX4 yX4_see yX4_see ∈ rs_wg := rs_lk3 (i := 28) rfl rfl
theorem wc_yX4_see : Cond.code yX4_see cX4_see 4 (some FieldType.int) ∈ rs_wg := rs_lk3 (i := 29) rfl rfl
theorem wl_X4_179 : Cond.methodLink RX4 179 yX1_addSeen ∈ rs_wg := rs_lk3 (i := 30) rfl rfl
theorem wi_yX1_addSeen : Cond.instanceMethod yX1_addSeen ∈ rs_wg := rs_lk3 (i := 31) rfl rfl
theorem wx_yX1_addSeen : Cond.selects RX1 yX1_addSeen yX1_addSeen ∈ rs_wg := rs_lk3 (i := 32) rfl rfl
theorem wc_yX1_addSeen : Cond.code yX1_addSeen cX1_addSeen 4 (some FieldType.boolean) ∈ rs_wg := rs_lk3 (i := 33) rfl rfl
theorem wl_L_115 : Cond.methodLink RL 115 yX4_forget ∈ rs_wg := rs_lk3 (i := 34) rfl rfl
theorem wi_yX4_forget : Cond.instanceMethod yX4_forget ∈ rs_wg := rs_lk3 (i := 35) rfl rfl
theorem wx_yX4_forget : Cond.selects RX4 yX4_forget yX4_forget ∈ rs_wg := rs_lk3 (i := 36) rfl rfl
theorem wc_yX4_forget : Cond.code yX4_forget cX4_forget 3 (some FieldType.int) ∈ rs_wg := rs_lk3 (i := 37) rfl rfl
theorem wl_L_119 : Cond.methodLink RL 119 yX4_kinds ∈ rs_wg := rs_lk3 (i := 38) rfl rfl
theorem wi_yX4_kinds : Cond.instanceMethod yX4_kinds ∈ rs_wg := rs_lk3 (i := 39) rfl rfl
theorem wx_yX4_kinds : Cond.selects RX4 yX4_kinds yX4_kinds ∈ rs_wg := rs_lk3 (i := 40) rfl rfl
theorem wc_yX4_kinds : Cond.code yX4_kinds cX4_kinds 2 (some FieldType.int) ∈ rs_wg := rs_lk3 (i := 41) rfl rfl
theorem wl_X4_185 : Cond.methodLink RX4 185 yX4_fitting ∈ rs_wg := rs_lk3 (i := 42) rfl rfl
theorem wi_yX4_fitting : Cond.instanceMethod yX4_fitting ∈ rs_wg := rs_lk3 (i := 44) rfl rfl
theorem wc_yX4_fitting : Cond.code yX4_fitting cX4_fitting 5 (some FieldType.int) ∈ rs_wg := rs_lk3 (i := 45) rfl rfl
theorem wl_X4_243 : Cond.methodLink RX4 243 yX1_isAsSeen ∈ rs_wg := rs_lk3 (i := 46) rfl rfl
theorem wi_yX1_isAsSeen : Cond.instanceMethod yX1_isAsSeen ∈ rs_wg := rs_lk3 (i := 47) rfl rfl
theorem wx_yX1_isAsSeen : Cond.selects RX1 yX1_isAsSeen yX1_isAsSeen ∈ rs_wg := rs_lk3 (i := 48) rfl rfl
theorem wc_yX1_isAsSeen : Cond.code yX1_isAsSeen cX1_isAsSeen 2 (some FieldType.boolean) ∈ rs_wg := rs_lk3 (i := 49) rfl rfl
theorem wl_L_123 : Cond.methodLink RL 123 yX4_phases ∈ rs_wg := rs_lk3 (i := 50) rfl rfl
theorem wi_yX4_phases : Cond.instanceMethod yX4_phases ∈ rs_wg := rs_lk3 (i := 51) rfl rfl
theorem wx_yX4_phases : Cond.selects RX4 yX4_phases yX4_phases ∈ rs_wg := rs_lk3 (i := 52) rfl rfl
theorem wc_yX4_phases : Cond.code yX4_phases cX4_phases 2 (some FieldType.int) ∈ rs_wg := rs_lk3 (i := 53) rfl rfl
theorem wl_L_127 : Cond.methodLink RL 127 yX4_ask ∈ rs_wg := rs_lk3 (i := 54) rfl rfl
theorem wi_yX4_ask : Cond.instanceMethod yX4_ask ∈ rs_wg := rs_lk3 (i := 55) rfl rfl
theorem wx_yX4_ask : Cond.selects RX4 yX4_ask yX4_ask ∈ rs_wg := rs_lk3 (i := 56) rfl rfl
theorem wc_yX4_ask : Cond.code yX4_ask cX4_ask 9 (some FieldType.int) ∈ rs_wg := rs_lk3 (i := 57) rfl rfl
theorem wl_X4_188 : Cond.methodLink RX4 188 yJ6_bitCount_0f7a4 ∈ rs_wg := rs_lk3 (i := 58) rfl rfl
theorem ws_yJ6_bitCount_0f7a4 : Cond.static yJ6_bitCount_0f7a4 ∈ rs_wg := rs_lk3 (i := 59) rfl rfl
theorem wc_yJ6_bitCount_0f7a4 : Cond.code yJ6_bitCount_0f7a4 cJ6_bitCount_0f7a4 1 (some FieldType.int) ∈ rs_wg := rs_lk3 (i := 60) rfl rfl
theorem wk_J6_265 : Cond.constant RJ6 265 (1431655765) ∈ rs_wg := rs_lk3 (i := 61) rfl rfl
theorem wk_J6_266 : Cond.constant RJ6 266 (858993459) ∈ rs_wg := rs_lk3 (i := 62) rfl rfl
theorem wk_J6_267 : Cond.constant RJ6 267 (252645135) ∈ rs_wg := rs_lk3 (i := 63) rfl rfl
theorem wl_X4_193 : Cond.methodLink RX4 193 yX4_mostAlike ∈ rs_wg := rs_lk3 (i := 64) rfl rfl
theorem wi_yX4_mostAlike : Cond.instanceMethod yX4_mostAlike ∈ rs_wg := rs_lk3 (i := 66) rfl rfl
theorem wc_yX4_mostAlike : Cond.code yX4_mostAlike cX4_mostAlike 9 (some FieldType.int) ∈ rs_wg := rs_lk3 (i := 67) rfl rfl
theorem wl_X4_197 : Cond.methodLink RX4 197 Lib.Math.max.name ∈ rs_wg := rs_lk3 (i := 68) rfl rfl
theorem wl_L_131 : Cond.methodLink RL 131 yX4_drift ∈ rs_wg := rs_lk3 (i := 69) rfl rfl
theorem wi_yX4_drift : Cond.instanceMethod yX4_drift ∈ rs_wg := rs_lk3 (i := 70) rfl rfl
theorem wx_yX4_drift : Cond.selects RX4 yX4_drift yX4_drift ∈ rs_wg := rs_lk3 (i := 71) rfl rfl
theorem wc_yX4_drift : Cond.code yX4_drift cX4_drift 9 (some FieldType.int) ∈ rs_wg := rs_lk3 (i := 72) rfl rfl
theorem wk_X4_196 : Cond.constant RX4 196 (1103515245) ∈ rs_wg := rs_lk3 (i := 73) rfl rfl
theorem wl_X4_202 : Cond.methodLink RX4 202 yX1_lightOf ∈ rs_wg := rs_lk3 (i := 74) rfl rfl
theorem wl_L_135 : Cond.methodLink RL 135 yX4_keep ∈ rs_wg := rs_lk3 (i := 75) rfl rfl
theorem wi_yX4_keep : Cond.instanceMethod yX4_keep ∈ rs_wg := rs_lk3 (i := 76) rfl rfl
theorem wx_yX4_keep : Cond.selects RX4 yX4_keep yX4_keep ∈ rs_wg := rs_lk3 (i := 77) rfl rfl
theorem wc_yX4_keep : Cond.code yX4_keep cX4_keep 3 (some FieldType.int) ∈ rs_wg := rs_lk3 (i := 78) rfl rfl
theorem wl_L_139 : Cond.methodLink RL 139 yX4_back ∈ rs_wg := rs_lk3 (i := 79) rfl rfl
theorem wi_yX4_back : Cond.instanceMethod yX4_back ∈ rs_wg := rs_lk3 (i := 80) rfl rfl
theorem wx_yX4_back : Cond.selects RX4 yX4_back yX4_back ∈ rs_wg := rs_lk3 (i := 81) rfl rfl
theorem wc_yX4_back : Cond.code yX4_back cX4_back 2 (some FieldType.int) ∈ rs_wg := rs_lk3 (i := 82) rfl rfl
theorem wl_L_143 : Cond.methodLink RL 143 yX4_sheet ∈ rs_wg := rs_lk3 (i := 83) rfl rfl
theorem wi_yX4_sheet : Cond.instanceMethod yX4_sheet ∈ rs_wg := rs_lk3 (i := 84) rfl rfl
theorem wx_yX4_sheet : Cond.selects RX4 yX4_sheet yX4_sheet ∈ rs_wg := rs_lk3 (i := 85) rfl rfl
theorem wc_yX4_sheet : Cond.code yX4_sheet cX4_sheet 4 (some FieldType.int) ∈ rs_wg := rs_lk3 (i := 86) rfl rfl
theorem wl_X4_205 : Cond.methodLink RX4 205 yX2_renew ∈ rs_wg := rs_lk3 (i := 87) rfl rfl
theorem wi_yX2_renew : Cond.instanceMethod yX2_renew ∈ rs_wg := rs_lk3 (i := 88) rfl rfl
theorem wx_yX2_renew : Cond.selects RX2 yX2_renew yX2_renew ∈ rs_wg := rs_lk3 (i := 89) rfl rfl
theorem wc_yX2_renew : Cond.code yX2_renew cX2_renew 3 none ∈ rs_wg := rs_lk3 (i := 90) rfl rfl
theorem wl_X2_19 : Cond.methodLink RX2 19 yJ7_fill_53178 ∈ rs_wg := rs_lk3 (i := 91) rfl rfl
theorem wl_L_147 : Cond.methodLink RL 147 yX4_lay ∈ rs_wg := rs_lk3 (i := 92) rfl rfl
theorem wi_yX4_lay : Cond.instanceMethod yX4_lay ∈ rs_wg := rs_lk3 (i := 93) rfl rfl
theorem wx_yX4_lay : Cond.selects RX4 yX4_lay yX4_lay ∈ rs_wg := rs_lk3 (i := 94) rfl rfl
theorem wc_yX4_lay : Cond.code yX4_lay cX4_lay 5 (some FieldType.int) ∈ rs_wg := rs_lk3 (i := 95) rfl rfl
theorem wl_X4_208 : Cond.methodLink RX4 208 yX2_faultAt ∈ rs_wg := rs_lk3 (i := 96) rfl rfl
theorem wi_yX2_faultAt : Cond.instanceMethod yX2_faultAt ∈ rs_wg := rs_lk3 (i := 97) rfl rfl
theorem wx_yX2_faultAt : Cond.selects RX2 yX2_faultAt yX2_faultAt ∈ rs_wg := rs_lk3 (i := 98) rfl rfl
theorem wc_yX2_faultAt : Cond.code yX2_faultAt cX2_faultAt 2 (some FieldType.int) ∈ rs_wg := rs_lk3 (i := 99) rfl rfl
theorem wl_X4_211 : Cond.methodLink RX4 211 yX2_store ∈ rs_wg := rs_lk3 (i := 100) rfl rfl
theorem wi_yX2_store : Cond.instanceMethod yX2_store ∈ rs_wg := rs_lk3 (i := 101) rfl rfl
theorem wx_yX2_store : Cond.selects RX2 yX2_store yX2_store ∈ rs_wg := rs_lk3 (i := 102) rfl rfl
theorem wc_yX2_store : Cond.code yX2_store cX2_store 3 none ∈ rs_wg := rs_lk3 (i := 103) rfl rfl
theorem wl_X2_28 : Cond.methodLink RX2 28 yX2_faultAt ∈ rs_wg := rs_lk3 (i := 104) rfl rfl
theorem wl_L_151 : Cond.methodLink RL 151 yX4_read ∈ rs_wg := rs_lk3 (i := 105) rfl rfl
theorem wi_yX4_read : Cond.instanceMethod yX4_read ∈ rs_wg := rs_lk3 (i := 106) rfl rfl
theorem wx_yX4_read : Cond.selects RX4 yX4_read yX4_read ∈ rs_wg := rs_lk3 (i := 107) rfl rfl
theorem wc_yX4_read : Cond.code yX4_read cX4_read 10 (some FieldType.int) ∈ rs_wg := rs_lk3 (i := 108) rfl rfl
theorem wl_X4_214 : Cond.methodLink RX4 214 yX2_faultOfPair ∈ rs_wg := rs_lk3 (i := 109) rfl rfl
theorem wi_yX2_faultOfPair : Cond.instanceMethod yX2_faultOfPair ∈ rs_wg := rs_lk3 (i := 110) rfl rfl
theorem wx_yX2_faultOfPair : Cond.selects RX2 yX2_faultOfPair yX2_faultOfPair ∈ rs_wg := rs_lk3 (i := 111) rfl rfl
theorem wc_yX2_faultOfPair : Cond.code yX2_faultOfPair cX2_faultOfPair 4 (some FieldType.int) ∈ rs_wg := rs_lk3 (i := 112) rfl rfl
theorem wl_X4_217 : Cond.methodLink RX4 217 yX4_isPhaseOfLamp ∈ rs_wg := rs_lk3 (i := 113) rfl rfl
theorem wi_yX4_isPhaseOfLamp : Cond.instanceMethod yX4_isPhaseOfLamp ∈ rs_wg := rs_lk3 (i := 115) rfl rfl
theorem wc_yX4_isPhaseOfLamp : Cond.code yX4_isPhaseOfLamp cX4_isPhaseOfLamp 3 (some FieldType.boolean) ∈ rs_wg := rs_lk3 (i := 116) rfl rfl
theorem wl_X4_224 : Cond.methodLink RX4 224 yX4_takePhases ∈ rs_wg := rs_lk3 (i := 117) rfl rfl
theorem wi_yX4_takePhases : Cond.instanceMethod yX4_takePhases ∈ rs_wg := rs_lk3 (i := 119) rfl rfl
theorem wc_yX4_takePhases : Cond.code yX4_takePhases cX4_takePhases 6 none ∈ rs_wg := rs_lk3 (i := 120) rfl rfl
theorem wl_L_156 : Cond.methodLink RL 156 yX4_torn ∈ rs_wg := rs_lk3 (i := 121) rfl rfl
theorem wi_yX4_torn : Cond.instanceMethod yX4_torn ∈ rs_wg := rs_lk3 (i := 122) rfl rfl
theorem wx_yX4_torn : Cond.selects RX4 yX4_torn yX4_torn ∈ rs_wg := rs_lk3 (i := 123) rfl rfl
theorem wc_yX4_torn : Cond.code yX4_torn cX4_torn 1 (some FieldType.int) ∈ rs_wg := rs_lk3 (i := 124) rfl rfl
theorem wl_L_160 : Cond.methodLink RL 160 yX4_count ∈ rs_wg := rs_lk3 (i := 125) rfl rfl
theorem wi_yX4_count : Cond.instanceMethod yX4_count ∈ rs_wg := rs_lk3 (i := 126) rfl rfl
theorem wx_yX4_count : Cond.selects RX4 yX4_count yX4_count ∈ rs_wg := rs_lk3 (i := 127) rfl rfl
theorem wc_yX4_count : Cond.code yX4_count cX4_count 2 (some FieldType.int) ∈ rs_wg := rs_lk3 (i := 128) rfl rfl
theorem wl_X4_234 : Cond.methodLink RX4 234 yX1_sumOfPart ∈ rs_wg := rs_lk3 (i := 129) rfl rfl
theorem wi_yX1_sumOfPart : Cond.instanceMethod yX1_sumOfPart ∈ rs_wg := rs_lk3 (i := 130) rfl rfl
theorem wx_yX1_sumOfPart : Cond.selects RX1 yX1_sumOfPart yX1_sumOfPart ∈ rs_wg := rs_lk3 (i := 131) rfl rfl
theorem wc_yX1_sumOfPart : Cond.code yX1_sumOfPart cX1_sumOfPart 4 (some FieldType.int) ∈ rs_wg := rs_lk3 (i := 132) rfl rfl
theorem wq_L_10 : Cond.classLink RL 10 RX5 ∈ rs_wg := rs_lk3 (i := 133) rfl rfl
theorem wj_X5 : Cond.instantiable RX5 34 ∈ rs_wg := rs_lk3 (i := 134) rfl rfl
theorem wl_L_12 : Cond.methodLink RL 12 yX5_init ∈ rs_wg := rs_lk3 (i := 135) rfl rfl
theorem wi_yX5_init : Cond.instanceMethod yX5_init ∈ rs_wg := rs_lk3 (i := 136) rfl rfl
theorem wc_yX5_init : Cond.code yX5_init cX5_init 2 none ∈ rs_wg := rs_lk3 (i := 137) rfl rfl
theorem wl_X5_1 : Cond.methodLink RX5 1 objectInit ∈ rs_wg := rs_lk3 (i := 138) rfl rfl
theorem wl_X5_53 : Cond.methodLink RX5 53 yX5_firstDraft ∈ rs_wg := rs_lk3 (i := 139) rfl rfl
theorem wi_yX5_firstDraft : Cond.instanceMethod yX5_firstDraft ∈ rs_wg := rs_lk3 (i := 141) rfl rfl
theorem wc_yX5_firstDraft : Cond.code yX5_firstDraft cX5_firstDraft 2 none ∈ rs_wg := rs_lk3 (i := 142) rfl rfl
theorem wl_X5_56 : Cond.methodLink RX5 56 yX5_keepDraft ∈ rs_wg := rs_lk3 (i := 143) rfl rfl
theorem wi_yX5_keepDraft : Cond.instanceMethod yX5_keepDraft ∈ rs_wg := rs_lk3 (i := 145) rfl rfl
theorem wc_yX5_keepDraft : Cond.code yX5_keepDraft cX5_keepDraft 2 none ∈ rs_wg := rs_lk3 (i := 146) rfl rfl
theorem wl_X5_7 : Cond.fieldLink RX5 7 "RowShutterModel" "st" "[I" ∈ rs_wg := rs_lk3 (i := 147) rfl rfl
theorem wl_X5_13 : Cond.fieldLink RX5 13 "RowShutterModel" "now" "[I" ∈ rs_wg := rs_lk3 (i := 148) rfl rfl
theorem wl_X5_16 : Cond.fieldLink RX5 16 "RowShutterModel" "isKept" "[Z" ∈ rs_wg := rs_lk3 (i := 149) rfl rfl
theorem wl_X5_20 : Cond.fieldLink RX5 20 "RowShutterModel" "draft" "[I" ∈ rs_wg := rs_lk3 (i := 150) rfl rfl
theorem wl_X5_23 : Cond.fieldLink RX5 23 "RowShutterModel" "hasTold" "[Z" ∈ rs_wg := rs_lk3 (i := 151) rfl rfl
theorem wl_X5_26 : Cond.fieldLink RX5 26 "RowShutterModel" "tape" "[I" ∈ rs_wg := rs_lk3 (i := 152) rfl rfl
theorem wl_X5_65 : Cond.fieldLink RX5 65 "RowShutterModel" "taped" "I" ∈ rs_wg := rs_lk3 (i := 153) rfl rfl
theorem wl_X5_78 : Cond.fieldLink RX5 78 "RowShutterModel" "pos" "I" ∈ rs_wg := rs_lk3 (i := 154) rfl rfl
theorem wl_X5_72 : Cond.fieldLink RX5 72 "RowShutterModel" "begun" "I" ∈ rs_wg := rs_lk3 (i := 155) rfl rfl
theorem wl_X5_93 : Cond.fieldLink RX5 93 "RowShutterModel" "sort" "I" ∈ rs_wg := rs_lk3 (i := 156) rfl rfl
theorem wl_X5_104 : Cond.fieldLink RX5 104 "RowShutterModel" "value" "I" ∈ rs_wg := rs_lk3 (i := 157) rfl rfl
theorem wl_X5_69 : Cond.fieldLink RX5 69 "RowShutterModel" "fault" "I" ∈ rs_wg := rs_lk3 (i := 158) rfl rfl
theorem wl_X5_75 : Cond.fieldLink RX5 75 "RowShutterModel" "wrongAt" "I" ∈ rs_wg := rs_lk3 (i := 159) rfl rfl
theorem wl_X5_143 : Cond.fieldLink RX5 143 "RowShutterModel" "put0" "I" ∈ rs_wg := rs_lk3 (i := 160) rfl rfl
theorem wl_X5_146 : Cond.fieldLink RX5 146 "RowShutterModel" "isFailing" "Z" ∈ rs_wg := rs_lk3 (i := 161) rfl rfl
theorem wl_X5_150 : Cond.fieldLink RX5 150 "RowShutterModel" "widest" "I" ∈ rs_wg := rs_lk3 (i := 162) rfl rfl
theorem wl_X5_153 : Cond.fieldLink RX5 153 "RowShutterModel" "narrowest" "I" ∈ rs_wg := rs_lk3 (i := 163) rfl rfl
theorem wl_X5_156 : Cond.fieldLink RX5 156 "RowShutterModel" "brightSum" "I" ∈ rs_wg := rs_lk3 (i := 164) rfl rfl
theorem wl_X5_159 : Cond.fieldLink RX5 159 "RowShutterModel" "fullRows" "I" ∈ rs_wg := rs_lk3 (i := 165) rfl rfl
theorem wl_X5_178 : Cond.fieldLink RX5 178 "RowShutterModel" "bands" "I" ∈ rs_wg := rs_lk3 (i := 166) rfl rfl
theorem wl_X5_29 : Cond.fieldLink RX5 29 "RowShutterModel" "bright" "[I" ∈ rs_wg := rs_lk3 (i := 167) rfl rfl
theorem wl_X5_32 : Cond.fieldLink RX5 32 "RowShutterModel" "firstRows" "[I" ∈ rs_wg := rs_lk3 (i := 168) rfl rfl
theorem wl_X5_221 : Cond.fieldLink RX5 221 "RowShutterModel" "bestCode" "I" ∈ rs_wg := rs_lk3 (i := 169) rfl rfl
theorem wl_X5_224 : Cond.fieldLink RX5 224 "RowShutterModel" "bestMuch" "I" ∈ rs_wg := rs_lk3 (i := 170) rfl rfl
theorem wl_X5_249 : Cond.fieldLink RX5 249 "RowShutterModel" "evenSum" "J" ∈ rs_wg := rs_lk3 (i := 171) rfl rfl
theorem wl_X5_253 : Cond.fieldLink RX5 253 "RowShutterModel" "shineSum" "J" ∈ rs_wg := rs_lk3 (i := 172) rfl rfl
theorem wl_X5_256 : Cond.fieldLink RX5 256 "RowShutterModel" "allWays" "J" ∈ rs_wg := rs_lk3 (i := 173) rfl rfl
theorem wl_X5_35 : Cond.fieldLink RX5 35 "RowShutterModel" "brights" "[I" ∈ rs_wg := rs_lk3 (i := 174) rfl rfl
theorem wl_X5_38 : Cond.fieldLink RX5 38 "RowShutterModel" "byPhase" "[I" ∈ rs_wg := rs_lk3 (i := 175) rfl rfl
theorem wl_X5_41 : Cond.fieldLink RX5 41 "RowShutterModel" "lanes" "[I" ∈ rs_wg := rs_lk3 (i := 176) rfl rfl
theorem wl_X5_44 : Cond.fieldLink RX5 44 "RowShutterModel" "sizes" "[I" ∈ rs_wg := rs_lk3 (i := 177) rfl rfl
theorem wl_X5_47 : Cond.fieldLink RX5 47 "RowShutterModel" "cells" "[I" ∈ rs_wg := rs_lk3 (i := 178) rfl rfl
theorem wl_X5_295 : Cond.fieldLink RX5 295 "RowShutterModel" "torn" "I" ∈ rs_wg := rs_lk3 (i := 179) rfl rfl
theorem wl_X5_50 : Cond.fieldLink RX5 50 "RowShutterModel" "before" "[I" ∈ rs_wg := rs_lk3 (i := 180) rfl rfl
theorem wl_L_17 : Cond.methodLink RL 17 yX5_feed ∈ rs_wg := rs_lk4 (i := 10) rfl rfl
theorem wi_yX5_feed : Cond.instanceMethod yX5_feed ∈ rs_wg := rs_lk4 (i := 11) rfl rfl
theorem wx_yX5_feed : Cond.selects RX5 yX5_feed yX5_feed ∈ rs_wg := rs_lk4 (i := 12) rfl rfl
theorem wc_yX5_feed : Cond.code yX5_feed cX5_feed 2 (some FieldType.int) ∈ rs_wg := rs_lk4 (i := 13) rfl rfl
theorem wk_X5_59 : Cond.constantLong RX5 59 (127) ∈ rs_wg := rs_lk4 (i := 14) rfl rfl
theorem wl_X5_61 : Cond.methodLink RX5 61 yX5_in ∈ rs_wg := rs_lk4 (i := 15) rfl rfl
theorem ws_yX5_in : Cond.static yX5_in ∈ rs_wg := rs_lk4 (i := 16) rfl rfl
theorem wc_yX5_in : Cond.code yX5_in cX5_in 6 (some FieldType.boolean) ∈ rs_wg := rs_lk4 (i := 17) rfl rfl
theorem wl_L_21 : Cond.methodLink RL 21 yX5_end ∈ rs_wg := rs_lk4 (i := 18) rfl rfl
theorem wi_yX5_end : Cond.instanceMethod yX5_end ∈ rs_wg := rs_lk4 (i := 19) rfl rfl
theorem wx_yX5_end : Cond.selects RX5 yX5_end yX5_end ∈ rs_wg := rs_lk4 (i := 20) rfl rfl
theorem wc_yX5_end : Cond.code yX5_end cX5_end 3 (some FieldType.int) ∈ rs_wg := rs_lk4 (i := 21) rfl rfl
theorem wl_L_26 : Cond.methodLink RL 26 yX5_text ∈ rs_wg := rs_lk4 (i := 22) rfl rfl
theorem wi_yX5_text : Cond.instanceMethod yX5_text ∈ rs_wg := rs_lk4 (i := 23) rfl rfl
theorem wx_yX5_text : Cond.selects RX5 yX5_text yX5_text ∈ rs_wg := rs_lk4 (i := 24) rfl rfl
theorem wc_yX5_text : Cond.code yX5_text cX5_text 2 (some FieldType.int) ∈ rs_wg := rs_lk4 (i := 25) rfl rfl
theorem wl_X5_111 : Cond.methodLink RX5 111 yX5_reads ∈ rs_wg := rs_lk4 (i := 26) rfl rfl
theorem wi_yX5_reads : Cond.instanceMethod yX5_reads ∈ rs_wg := rs_lk4 (i := 28) rfl rfl
theorem wc_yX5_reads : Cond.code yX5_reads cX5_reads 2 none ∈ rs_wg := rs_lk4 (i := 29) rfl rfl
theorem wl_X5_81 : Cond.methodLink RX5 81 yX5_byteAt ∈ rs_wg := rs_lk4 (i := 30) rfl rfl
theorem wi_yX5_byteAt : Cond.instanceMethod yX5_byteAt ∈ rs_wg := rs_lk4 (i := 32) rfl rfl
theorem wc_yX5_byteAt : Cond.code yX5_byteAt cX5_byteAt 2 (some FieldType.int) ∈ rs_wg := rs_lk4 (i := 33) rfl rfl
theorem wk_X5_96 : Cond.constantLong RX5 96 (97) ∈ rs_wg := rs_lk4 (i := 34) rfl rfl
theorem wk_X5_98 : Cond.constantLong RX5 98 (122) ∈ rs_wg := rs_lk4 (i := 35) rfl rfl
theorem wk_X5_100 : Cond.constantLong RX5 100 (48) ∈ rs_wg := rs_lk4 (i := 36) rfl rfl
theorem wk_X5_102 : Cond.constantLong RX5 102 (57) ∈ rs_wg := rs_lk4 (i := 37) rfl rfl
theorem wl_X5_107 : Cond.methodLink RX5 107 yX5_requires ∈ rs_wg := rs_lk4 (i := 38) rfl rfl
theorem wi_yX5_requires : Cond.instanceMethod yX5_requires ∈ rs_wg := rs_lk4 (i := 40) rfl rfl
theorem wc_yX5_requires : Cond.code yX5_requires cX5_requires 3 none ∈ rs_wg := rs_lk4 (i := 41) rfl rfl
theorem wl_X5_138 : Cond.methodLink RX5 138 yX5_readLine ∈ rs_wg := rs_lk4 (i := 42) rfl rfl
theorem wi_yX5_readLine : Cond.instanceMethod yX5_readLine ∈ rs_wg := rs_lk4 (i := 44) rfl rfl
theorem wc_yX5_readLine : Cond.code yX5_readLine cX5_readLine 2 none ∈ rs_wg := rs_lk4 (i := 45) rfl rfl
theorem wl_X5_130 : Cond.methodLink RX5 130 yX5_lineNow ∈ rs_wg := rs_lk4 (i := 46) rfl rfl
theorem wi_yX5_lineNow : Cond.instanceMethod yX5_lineNow ∈ rs_wg := rs_lk4 (i := 48) rfl rfl
theorem wc_yX5_lineNow : Cond.code yX5_lineNow cX5_lineNow 1 (some FieldType.int) ∈ rs_wg := rs_lk4 (i := 49) rfl rfl
theorem wl_X5_85 : Cond.methodLink RX5 85 yX5_is ∈ rs_wg := rs_lk4 (i := 50) rfl rfl
theorem wi_yX5_is : Cond.instanceMethod yX5_is ∈ rs_wg := rs_lk4 (i := 52) rfl rfl
theorem wc_yX5_is : Cond.code yX5_is cX5_is 5 (some FieldType.boolean) ∈ rs_wg := rs_lk4 (i := 53) rfl rfl
theorem wl_X5_89 : Cond.methodLink RX5 89 yX5_endsIn ∈ rs_wg := rs_lk4 (i := 54) rfl rfl
theorem wi_yX5_endsIn : Cond.instanceMethod yX5_endsIn ∈ rs_wg := rs_lk4 (i := 56) rfl rfl
theorem wc_yX5_endsIn : Cond.code yX5_endsIn cX5_endsIn 4 (some FieldType.boolean) ∈ rs_wg := rs_lk4 (i := 57) rfl rfl
theorem wl_X5_134 : Cond.methodLink RX5 134 yX5_readLineOf ∈ rs_wg := rs_lk4 (i := 58) rfl rfl
theorem wi_yX5_readLineOf : Cond.instanceMethod yX5_readLineOf ∈ rs_wg := rs_lk4 (i := 60) rfl rfl
theorem wc_yX5_readLineOf : Cond.code yX5_readLineOf cX5_readLineOf 4 none ∈ rs_wg := rs_lk4 (i := 61) rfl rfl
theorem wl_X5_114 : Cond.methodLink RX5 114 yX5_lowTold ∈ rs_wg := rs_lk4 (i := 62) rfl rfl
theorem ws_yX5_lowTold : Cond.static yX5_lowTold ∈ rs_wg := rs_lk4 (i := 63) rfl rfl
theorem wc_yX5_lowTold : Cond.code yX5_lowTold cX5_lowTold 1 (some FieldType.int) ∈ rs_wg := rs_lk4 (i := 64) rfl rfl
theorem wl_X5_117 : Cond.methodLink RX5 117 yX5_mostTold ∈ rs_wg := rs_lk4 (i := 65) rfl rfl
theorem ws_yX5_mostTold : Cond.static yX5_mostTold ∈ rs_wg := rs_lk4 (i := 66) rfl rfl
theorem wc_yX5_mostTold : Cond.code yX5_mostTold cX5_mostTold 1 (some FieldType.int) ∈ rs_wg := rs_lk4 (i := 67) rfl rfl
theorem wl_X5_120 : Cond.methodLink RX5 120 yX5_readNumber ∈ rs_wg := rs_lk4 (i := 68) rfl rfl
theorem wi_yX5_readNumber : Cond.instanceMethod yX5_readNumber ∈ rs_wg := rs_lk4 (i := 70) rfl rfl
theorem wc_yX5_readNumber : Cond.code yX5_readNumber cX5_readNumber 4 (some FieldType.int) ∈ rs_wg := rs_lk4 (i := 71) rfl rfl
theorem wl_X5_124 : Cond.methodLink RX5 124 yX5_lowOf ∈ rs_wg := rs_lk4 (i := 72) rfl rfl
theorem ws_yX5_lowOf : Cond.static yX5_lowOf ∈ rs_wg := rs_lk4 (i := 73) rfl rfl
theorem wc_yX5_lowOf : Cond.code yX5_lowOf cX5_lowOf 1 (some FieldType.int) ∈ rs_wg := rs_lk4 (i := 74) rfl rfl
theorem wl_X5_127 : Cond.methodLink RX5 127 yX5_mostOf ∈ rs_wg := rs_lk4 (i := 75) rfl rfl
theorem ws_yX5_mostOf : Cond.static yX5_mostOf ∈ rs_wg := rs_lk4 (i := 76) rfl rfl
theorem wc_yX5_mostOf : Cond.code yX5_mostOf cX5_mostOf 1 (some FieldType.int) ∈ rs_wg := rs_lk4 (i := 77) rfl rfl
theorem wl_L_30 : Cond.methodLink RL 30 yX5_fault ∈ rs_wg := rs_lk4 (i := 78) rfl rfl
theorem wi_yX5_fault : Cond.instanceMethod yX5_fault ∈ rs_wg := rs_lk4 (i := 79) rfl rfl
theorem wx_yX5_fault : Cond.selects RX5 yX5_fault yX5_fault ∈ rs_wg := rs_lk4 (i := 80) rfl rfl
theorem wc_yX5_fault : Cond.code yX5_fault cX5_fault 1 (some FieldType.int) ∈ rs_wg := rs_lk4 (i := 81) rfl rfl
theorem wl_L_34 : Cond.methodLink RL 34 yX5_rule ∈ rs_wg := rs_lk4 (i := 82) rfl rfl
theorem wi_yX5_rule : Cond.instanceMethod yX5_rule ∈ rs_wg := rs_lk4 (i := 83) rfl rfl
theorem wx_yX5_rule : Cond.selects RX5 yX5_rule yX5_rule ∈ rs_wg := rs_lk4 (i := 84) rfl rfl
theorem wc_yX5_rule : Cond.code yX5_rule cX5_rule 2 (some FieldType.int) ∈ rs_wg := rs_lk4 (i := 85) rfl rfl
theorem wl_X5_184 : Cond.methodLink RX5 184 yX5_starts ∈ rs_wg := rs_lk4 (i := 86) rfl rfl
theorem wi_yX5_starts : Cond.instanceMethod yX5_starts ∈ rs_wg := rs_lk4 (i := 88) rfl rfl
theorem wc_yX5_starts : Cond.code yX5_starts cX5_starts 2 none ∈ rs_wg := rs_lk4 (i := 89) rfl rfl
theorem wl_X5_168 : Cond.methodLink RX5 168 yX5_shine ∈ rs_wg := rs_lk4 (i := 90) rfl rfl
theorem wi_yX5_shine : Cond.instanceMethod yX5_shine ∈ rs_wg := rs_lk4 (i := 92) rfl rfl
theorem wc_yX5_shine : Cond.code yX5_shine cX5_shine 5 (some FieldType.int) ∈ rs_wg := rs_lk4 (i := 93) rfl rfl
theorem wl_X5_162 : Cond.methodLink RX5 162 yX5_of ∈ rs_wg := rs_lk4 (i := 94) rfl rfl
theorem wi_yX5_of : Cond.instanceMethod yX5_of ∈ rs_wg := rs_lk4 (i := 96) rfl rfl
theorem wc_yX5_of : Cond.code yX5_of cX5_of 3 (some FieldType.int) ∈ rs_wg := rs_lk4 (i := 97) rfl rfl
theorem wl_X5_165 : Cond.methodLink RX5 165 yX5_gives ∈ rs_wg := rs_lk4 (i := 98) rfl rfl
theorem wi_yX5_gives : Cond.instanceMethod yX5_gives ∈ rs_wg := rs_lk4 (i := 100) rfl rfl
theorem wc_yX5_gives : Cond.code yX5_gives cX5_gives 5 (some FieldType.int) ∈ rs_wg := rs_lk4 (i := 101) rfl rfl
theorem wl_L_39 : Cond.methodLink RL 39 yX5_lamp ∈ rs_wg := rs_lk4 (i := 102) rfl rfl
theorem wi_yX5_lamp : Cond.instanceMethod yX5_lamp ∈ rs_wg := rs_lk4 (i := 103) rfl rfl
theorem wx_yX5_lamp : Cond.selects RX5 yX5_lamp yX5_lamp ∈ rs_wg := rs_lk4 (i := 104) rfl rfl
theorem wc_yX5_lamp : Cond.code yX5_lamp cX5_lamp 3 (some FieldType.int) ∈ rs_wg := rs_lk4 (i := 105) rfl rfl
theorem wl_X5_187 : Cond.methodLink RX5 187 yX5_isLamp ∈ rs_wg := rs_lk4 (i := 106) rfl rfl
theorem wi_yX5_isLamp : Cond.instanceMethod yX5_isLamp ∈ rs_wg := rs_lk4 (i := 108) rfl rfl
theorem wc_yX5_isLamp : Cond.code yX5_isLamp cX5_isLamp 2 (some FieldType.boolean) ∈ rs_wg := rs_lk4 (i := 109) rfl rfl
theorem wk_X5_191 : Cond.constantLong RX5 191 (4) ∈ rs_wg := rs_lk4 (i := 110) rfl rfl
theorem wl_L_43 : Cond.methodLink RL 43 yX5_row ∈ rs_wg := rs_lk4 (i := 111) rfl rfl
theorem wi_yX5_row : Cond.instanceMethod yX5_row ∈ rs_wg := rs_lk4 (i := 112) rfl rfl
theorem wx_yX5_row : Cond.selects RX5 yX5_row yX5_row ∈ rs_wg := rs_lk4 (i := 113) rfl rfl
theorem wc_yX5_row : Cond.code yX5_row cX5_row 2 (some FieldType.int) ∈ rs_wg := rs_lk4 (i := 114) rfl rfl
theorem wl_X5_193 : Cond.methodLink RX5 193 yX5_isRow ∈ rs_wg := rs_lk4 (i := 115) rfl rfl
theorem ws_yX5_isRow : Cond.static yX5_isRow ∈ rs_wg := rs_lk4 (i := 116) rfl rfl
theorem wc_yX5_isRow : Cond.code yX5_isRow cX5_isRow 1 (some FieldType.boolean) ∈ rs_wg := rs_lk4 (i := 117) rfl rfl
theorem wk_X5_141 : Cond.constantLong RX5 141 (7) ∈ rs_wg := rs_lk4 (i := 118) rfl rfl
theorem wl_L_48 : Cond.methodLink RL 48 yX5_alter ∈ rs_wg := rs_lk4 (i := 119) rfl rfl
theorem wi_yX5_alter : Cond.instanceMethod yX5_alter ∈ rs_wg := rs_lk4 (i := 120) rfl rfl
theorem wx_yX5_alter : Cond.selects RX5 yX5_alter yX5_alter ∈ rs_wg := rs_lk4 (i := 121) rfl rfl
theorem wc_yX5_alter : Cond.code yX5_alter cX5_alter 4 (some FieldType.int) ∈ rs_wg := rs_lk4 (i := 122) rfl rfl
theorem wk_X5_196 : Cond.constantLong RX5 196 (3) ∈ rs_wg := rs_lk4 (i := 123) rfl rfl
theorem wl_X5_198 : Cond.methodLink RX5 198 yX5_becomes ∈ rs_wg := rs_lk4 (i := 124) rfl rfl
theorem wi_yX5_becomes : Cond.instanceMethod yX5_becomes ∈ rs_wg := rs_lk4 (i := 126) rfl rfl
theorem wc_yX5_becomes : Cond.code yX5_becomes cX5_becomes 4 (some FieldType.int) ∈ rs_wg := rs_lk4 (i := 127) rfl rfl
theorem wl_L_52 : Cond.methodLink RL 52 yX5_tell ∈ rs_wg := rs_lk4 (i := 128) rfl rfl
theorem wi_yX5_tell : Cond.instanceMethod yX5_tell ∈ rs_wg := rs_lk4 (i := 129) rfl rfl
theorem wx_yX5_tell : Cond.selects RX5 yX5_tell yX5_tell ∈ rs_wg := rs_lk4 (i := 130) rfl rfl
theorem wc_yX5_tell : Cond.code yX5_tell cX5_tell 3 (some FieldType.int) ∈ rs_wg := rs_lk4 (i := 131) rfl rfl
theorem wl_L_56 : Cond.methodLink RL 56 yX5_put ∈ rs_wg := rs_lk4 (i := 132) rfl rfl
theorem wi_yX5_put : Cond.instanceMethod yX5_put ∈ rs_wg := rs_lk4 (i := 133) rfl rfl
theorem wx_yX5_put : Cond.selects RX5 yX5_put yX5_put ∈ rs_wg := rs_lk4 (i := 134) rfl rfl
theorem wc_yX5_put : Cond.code yX5_put cX5_put 5 (some FieldType.int) ∈ rs_wg := rs_lk4 (i := 135) rfl rfl
theorem wk_X5_201 : Cond.constantLong RX5 201 (9) ∈ rs_wg := rs_lk4 (i := 136) rfl rfl
theorem wk_X5_203 : Cond.constantLong RX5 203 (12) ∈ rs_wg := rs_lk4 (i := 137) rfl rfl
theorem wl_L_60 : Cond.methodLink RL 60 yX5_cut ∈ rs_wg := rs_lk4 (i := 138) rfl rfl
theorem wi_yX5_cut : Cond.instanceMethod yX5_cut ∈ rs_wg := rs_lk4 (i := 139) rfl rfl
theorem wx_yX5_cut : Cond.selects RX5 yX5_cut yX5_cut ∈ rs_wg := rs_lk4 (i := 140) rfl rfl
theorem wc_yX5_cut : Cond.code yX5_cut cX5_cut 2 (some FieldType.int) ∈ rs_wg := rs_lk4 (i := 141) rfl rfl
theorem wl_L_64 : Cond.methodLink RL 64 yX5_rest ∈ rs_wg := rs_lk4 (i := 142) rfl rfl
theorem wi_yX5_rest : Cond.instanceMethod yX5_rest ∈ rs_wg := rs_lk4 (i := 143) rfl rfl
theorem wx_yX5_rest : Cond.selects RX5 yX5_rest yX5_rest ∈ rs_wg := rs_lk4 (i := 144) rfl rfl
theorem wc_yX5_rest : Cond.code yX5_rest cX5_rest 2 (some FieldType.int) ∈ rs_wg := rs_lk4 (i := 145) rfl rfl
theorem wk_X5_205 : Cond.constantLong RX5 205 (60) ∈ rs_wg := rs_lk4 (i := 146) rfl rfl
theorem wk_X5_207 : Cond.constant RX5 207 (99999) ∈ rs_wg := rs_lk4 (i := 147) rfl rfl
theorem wl_L_68 : Cond.methodLink RL 68 yX5_shoot ∈ rs_wg := rs_lk4 (i := 148) rfl rfl
theorem wi_yX5_shoot : Cond.instanceMethod yX5_shoot ∈ rs_wg := rs_lk4 (i := 149) rfl rfl
theorem wx_yX5_shoot : Cond.selects RX5 yX5_shoot yX5_shoot ∈ rs_wg := rs_lk4 (i := 150) rfl rfl
theorem wc_yX5_shoot : Cond.code yX5_shoot cX5_shoot 2 (some FieldType.int) ∈ rs_wg := rs_lk4 (i := 151) rfl rfl
theorem wl_X5_210 : Cond.methodLink RX5 210 yX5_isFar ∈ rs_wg := rs_lk4 (i := 152) rfl rfl
theorem ws_yX5_isFar : Cond.static yX5_isFar ∈ rs_wg := rs_lk4 (i := 153) rfl rfl
theorem wc_yX5_isFar : Cond.code yX5_isFar cX5_isFar 1 (some FieldType.boolean) ∈ rs_wg := rs_lk4 (i := 154) rfl rfl
theorem wk_X5_208 : Cond.constantLong RX5 208 (40) ∈ rs_wg := rs_lk4 (i := 155) rfl rfl
theorem wl_X5_213 : Cond.methodLink RX5 213 yX5_shotsGo ∈ rs_wg := rs_lk4 (i := 156) rfl rfl
theorem wi_yX5_shotsGo : Cond.instanceMethod yX5_shotsGo ∈ rs_wg := rs_lk4 (i := 158) rfl rfl
theorem wc_yX5_shotsGo : Cond.code yX5_shotsGo cX5_shotsGo 3 none ∈ rs_wg := rs_lk4 (i := 159) rfl rfl
theorem wl_X5_181 : Cond.methodLink RX5 181 yX5_shotGoes ∈ rs_wg := rs_lk4 (i := 160) rfl rfl
theorem wi_yX5_shotGoes : Cond.instanceMethod yX5_shotGoes ∈ rs_wg := rs_lk4 (i := 162) rfl rfl
theorem wc_yX5_shotGoes : Cond.code yX5_shotGoes cX5_shotGoes 5 none ∈ rs_wg := rs_lk4 (i := 163) rfl rfl
theorem wl_X5_171 : Cond.methodLink RX5 171 yX5_rowAt ∈ rs_wg := rs_lk4 (i := 164) rfl rfl
theorem wi_yX5_rowAt : Cond.instanceMethod yX5_rowAt ∈ rs_wg := rs_lk4 (i := 166) rfl rfl
theorem wc_yX5_rowAt : Cond.code yX5_rowAt cX5_rowAt 5 (some FieldType.int) ∈ rs_wg := rs_lk4 (i := 167) rfl rfl
theorem wl_X5_174 : Cond.methodLink RX5 174 yX5_flag ∈ rs_wg := rs_lk4 (i := 168) rfl rfl
theorem ws_yX5_flag : Cond.static yX5_flag ∈ rs_wg := rs_lk4 (i := 169) rfl rfl
theorem wc_yX5_flag : Cond.code yX5_flag cX5_flag 1 (some FieldType.int) ∈ rs_wg := rs_lk4 (i := 170) rfl rfl
theorem wl_X5_216 : Cond.methodLink RX5 216 yX5_settles ∈ rs_wg := rs_lk4 (i := 171) rfl rfl
theorem wi_yX5_settles : Cond.instanceMethod yX5_settles ∈ rs_wg := rs_lk4 (i := 173) rfl rfl
theorem wc_yX5_settles : Cond.code yX5_settles cX5_settles 2 none ∈ rs_wg := rs_lk4 (i := 174) rfl rfl
theorem wl_L_72 : Cond.methodLink RL 72 yX5_runs ∈ rs_wg := rs_lk4 (i := 175) rfl rfl
theorem wi_yX5_runs : Cond.instanceMethod yX5_runs ∈ rs_wg := rs_lk4 (i := 176) rfl rfl
theorem wx_yX5_runs : Cond.selects RX5 yX5_runs yX5_runs ∈ rs_wg := rs_lk4 (i := 177) rfl rfl
theorem wc_yX5_runs : Cond.code yX5_runs cX5_runs 3 (some FieldType.int) ∈ rs_wg := rs_lk4 (i := 178) rfl rfl
theorem wl_L_76 : Cond.methodLink RL 76 yX5_ahead ∈ rs_wg := rs_lk4 (i := 179) rfl rfl
theorem wi_yX5_ahead : Cond.instanceMethod yX5_ahead ∈ rs_wg := rs_lk4 (i := 180) rfl rfl
theorem wx_yX5_ahead : Cond.selects RX5 yX5_ahead yX5_ahead ∈ rs_wg := rs_lk4 (i := 181) rfl rfl
theorem wc_yX5_ahead : Cond.code yX5_ahead cX5_ahead 3 (some FieldType.int) ∈ rs_wg := rs_lk4 (i := 182) rfl rfl
theorem wl_L_80 : Cond.methodLink RL 80 yX5_when ∈ rs_wg := rs_lk4 (i := 183) rfl rfl
theorem wi_yX5_when : Cond.instanceMethod yX5_when ∈ rs_wg := rs_lk4 (i := 184) rfl rfl
theorem wx_yX5_when : Cond.selects RX5 yX5_when yX5_when ∈ rs_wg := rs_lk4 (i := 185) rfl rfl
theorem wc_yX5_when : Cond.code yX5_when cX5_when 3 (some FieldType.int) ∈ rs_wg := rs_lk4 (i := 186) rfl rfl
theorem wk_X5_219 : Cond.constantLong RX5 219 (255) ∈ rs_wg := rs_lk4 (i := 187) rfl rfl
theorem wl_L_84 : Cond.methodLink RL 84 yX5_again ∈ rs_wg := rs_lk4 (i := 188) rfl rfl
theorem wi_yX5_again : Cond.instanceMethod yX5_again ∈ rs_wg := rs_lk4 (i := 189) rfl rfl
theorem wx_yX5_again : Cond.selects RX5 yX5_again yX5_again ∈ rs_wg := rs_lk4 (i := 190) rfl rfl
theorem wc_yX5_again : Cond.code yX5_again cX5_again 4 (some FieldType.int) ∈ rs_wg := rs_lk4 (i := 191) rfl rfl
theorem wl_L_88 : Cond.methodLink RL 88 yX5_best ∈ rs_wg := rs_lk4 (i := 192) rfl rfl
theorem wi_yX5_best : Cond.instanceMethod yX5_best ∈ rs_wg := rs_lk4 (i := 193) rfl rfl
theorem wx_yX5_best : Cond.selects RX5 yX5_best yX5_best ∈ rs_wg := rs_lk4 (i := 194) rfl rfl
theorem wc_yX5_best : Cond.code yX5_best cX5_best 4 (some FieldType.int) ∈ rs_wg := rs_lk4 (i := 195) rfl rfl
theorem wl_X5_238 : Cond.methodLink RX5 238 yX5_isPart ∈ rs_wg := rs_lk4 (i := 196) rfl rfl
theorem ws_yX5_isPart : Cond.static yX5_isPart ∈ rs_wg := rs_lk4 (i := 197) rfl rfl
theorem wc_yX5_isPart : Cond.code yX5_isPart cX5_isPart 1 (some FieldType.boolean) ∈ rs_wg := rs_lk4 (i := 198) rfl rfl
theorem wl_X5_241 : Cond.methodLink RX5 241 yX5_bestOf ∈ rs_wg := rs_lk4 (i := 199) rfl rfl
theorem wi_yX5_bestOf : Cond.instanceMethod yX5_bestOf ∈ rs_wg := rs_lk4 (i := 201) rfl rfl
theorem wc_yX5_bestOf : Cond.code yX5_bestOf cX5_bestOf 7 (some FieldType.int) ∈ rs_wg := rs_lk4 (i := 202) rfl rfl
theorem wk_X5_227 : Cond.constant RX5 227 (1000000) ∈ rs_wg := rs_lk4 (i := 203) rfl rfl
theorem wl_X5_228 : Cond.methodLink RX5 228 yX5_startsJudging ∈ rs_wg := rs_lk4 (i := 204) rfl rfl
theorem wi_yX5_startsJudging : Cond.instanceMethod yX5_startsJudging ∈ rs_wg := rs_lk4 (i := 206) rfl rfl
theorem wc_yX5_startsJudging : Cond.code yX5_startsJudging cX5_startsJudging 2 none ∈ rs_wg := rs_lk4 (i := 207) rfl rfl
theorem wl_X5_231 : Cond.methodLink RX5 231 yX5_judges ∈ rs_wg := rs_lk4 (i := 208) rfl rfl
theorem wi_yX5_judges : Cond.instanceMethod yX5_judges ∈ rs_wg := rs_lk4 (i := 210) rfl rfl
theorem wc_yX5_judges : Cond.code yX5_judges cX5_judges 3 none ∈ rs_wg := rs_lk4 (i := 211) rfl rfl
theorem wl_X5_235 : Cond.methodLink RX5 235 yX5_judged ∈ rs_wg := rs_lk4 (i := 212) rfl rfl
theorem wi_yX5_judged : Cond.instanceMethod yX5_judged ∈ rs_wg := rs_lk4 (i := 214) rfl rfl
theorem wc_yX5_judged : Cond.code yX5_judged cX5_judged 2 (some FieldType.int) ∈ rs_wg := rs_lk4 (i := 215) rfl rfl
theorem wl_L_92 : Cond.methodLink RL 92 yX5_kind ∈ rs_wg := rs_lk4 (i := 216) rfl rfl
theorem wi_yX5_kind : Cond.instanceMethod yX5_kind ∈ rs_wg := rs_lk4 (i := 217) rfl rfl
theorem wx_yX5_kind : Cond.selects RX5 yX5_kind yX5_kind ∈ rs_wg := rs_lk4 (i := 218) rfl rfl
theorem wc_yX5_kind : Cond.code yX5_kind cX5_kind 4 (some FieldType.int) ∈ rs_wg := rs_lk4 (i := 219) rfl rfl
theorem wl_L_96 : Cond.methodLink RL 96 yX5_phase ∈ rs_wg := rs_lk4 (i := 220) rfl rfl
theorem wi_yX5_phase : Cond.instanceMethod yX5_phase ∈ rs_wg := rs_lk4 (i := 221) rfl rfl
theorem wx_yX5_phase : Cond.selects RX5 yX5_phase yX5_phase ∈ rs_wg := rs_lk4 (i := 222) rfl rfl
theorem wc_yX5_phase : Cond.code yX5_phase cX5_phase 4 (some FieldType.int) ∈ rs_wg := rs_lk4 (i := 223) rfl rfl
theorem wl_L_100 : Cond.methodLink RL 100 yX5_out ∈ rs_wg := rs_lk4 (i := 224) rfl rfl
theorem wi_yX5_out : Cond.instanceMethod yX5_out ∈ rs_wg := rs_lk4 (i := 225) rfl rfl
theorem wx_yX5_out : Cond.selects RX5 yX5_out yX5_out ∈ rs_wg := rs_lk4 (i := 226) rfl rfl
theorem wc_yX5_out : Cond.code yX5_out cX5_out 4 (some FieldType.int) ∈ rs_wg := rs_lk4 (i := 227) rfl rfl
theorem wl_L_105 : Cond.methodLink RL 105 yX5_luck ∈ rs_wg := rs_lk4 (i := 228) rfl rfl
theorem wi_yX5_luck : Cond.instanceMethod yX5_luck ∈ rs_wg := rs_lk4 (i := 229) rfl rfl
theorem wx_yX5_luck : Cond.selects RX5 yX5_luck yX5_luck ∈ rs_wg := rs_lk4 (i := 230) rfl rfl
theorem wc_yX5_luck : Cond.code yX5_luck cX5_luck 5 (some FieldType.long) ∈ rs_wg := rs_lk4 (i := 231) rfl rfl
theorem wk_X5_259 : Cond.constantLong RX5 259 (10) ∈ rs_wg := rs_lk4 (i := 232) rfl rfl
theorem wk_X5_261 : Cond.constantLong RX5 261 (8) ∈ rs_wg := rs_lk4 (i := 233) rfl rfl
theorem wk_X5_263 : Cond.constantLong RX5 263 (-1) ∈ rs_wg := rs_lk4 (i := 234) rfl rfl
theorem wl_X5_265 : Cond.methodLink RX5 265 yX5_findOdds ∈ rs_wg := rs_lk4 (i := 235) rfl rfl
theorem wi_yX5_findOdds : Cond.instanceMethod yX5_findOdds ∈ rs_wg := rs_lk4 (i := 237) rfl rfl
theorem wc_yX5_findOdds : Cond.code yX5_findOdds cX5_findOdds 8 none ∈ rs_wg := rs_lk4 (i := 238) rfl rfl
theorem wl_X5_269 : Cond.methodLink RX5 269 yX5_lowest ∈ rs_wg := rs_lk4 (i := 239) rfl rfl
theorem ws_yX5_lowest : Cond.static yX5_lowest ∈ rs_wg := rs_lk5 (i := 0) rfl rfl
theorem wc_yX5_lowest : Cond.code yX5_lowest cX5_lowest 7 (some FieldType.long) ∈ rs_wg := rs_lk5 (i := 1) rfl rfl
theorem wl_X5_245 : Cond.methodLink RX5 245 yX5_common ∈ rs_wg := rs_lk5 (i := 2) rfl rfl
theorem ws_yX5_common : Cond.static yX5_common ∈ rs_wg := rs_lk5 (i := 3) rfl rfl
theorem wc_yX5_common : Cond.code yX5_common cX5_common 10 (some FieldType.long) ∈ rs_wg := rs_lk5 (i := 4) rfl rfl
theorem wl_L_110 : Cond.methodLink RL 110 yX5_mean ∈ rs_wg := rs_lk5 (i := 5) rfl rfl
theorem wi_yX5_mean : Cond.instanceMethod yX5_mean ∈ rs_wg := rs_lk5 (i := 6) rfl rfl
theorem wx_yX5_mean : Cond.selects RX5 yX5_mean yX5_mean ∈ rs_wg := rs_lk5 (i := 7) rfl rfl
theorem wc_yX5_mean : Cond.code yX5_mean cX5_mean 4 (some FieldType.long) ∈ rs_wg := rs_lk5 (i := 8) rfl rfl
theorem wl_L_114 : Cond.methodLink RL 114 yX5_see ∈ rs_wg := rs_lk5 (i := 9) rfl rfl
theorem wi_yX5_see : Cond.instanceMethod yX5_see ∈ rs_wg := rs_lk5 (i := 10) rfl rfl
theorem wx_yX5_see : Cond.selects RX5 yX5_see yX5_see ∈ rs_wg := rs_lk5 (i := 11) rfl rfl
theorem wc_yX5_see : Cond.code yX5_see cX5_see 5 (some FieldType.int) ∈ rs_wg := rs_lk5 (i := 12) rfl rfl
theorem wk_X5_273 : Cond.constantLong RX5 273 (20) ∈ rs_wg := rs_lk5 (i := 13) rfl rfl
theorem wl_L_118 : Cond.methodLink RL 118 yX5_forget ∈ rs_wg := rs_lk5 (i := 14) rfl rfl
theorem wi_yX5_forget : Cond.instanceMethod yX5_forget ∈ rs_wg := rs_lk5 (i := 15) rfl rfl
theorem wx_yX5_forget : Cond.selects RX5 yX5_forget yX5_forget ∈ rs_wg := rs_lk5 (i := 16) rfl rfl
theorem wc_yX5_forget : Cond.code yX5_forget cX5_forget 2 (some FieldType.int) ∈ rs_wg := rs_lk5 (i := 17) rfl rfl
theorem wl_L_122 : Cond.methodLink RL 122 yX5_kinds ∈ rs_wg := rs_lk5 (i := 18) rfl rfl
theorem wi_yX5_kinds : Cond.instanceMethod yX5_kinds ∈ rs_wg := rs_lk5 (i := 19) rfl rfl
theorem wx_yX5_kinds : Cond.selects RX5 yX5_kinds yX5_kinds ∈ rs_wg := rs_lk5 (i := 20) rfl rfl
theorem wc_yX5_kinds : Cond.code yX5_kinds cX5_kinds 2 (some FieldType.int) ∈ rs_wg := rs_lk5 (i := 21) rfl rfl
theorem wl_X5_279 : Cond.methodLink RX5 279 yX5_which ∈ rs_wg := rs_lk5 (i := 22) rfl rfl
theorem wi_yX5_which : Cond.instanceMethod yX5_which ∈ rs_wg := rs_lk5 (i := 24) rfl rfl
theorem wc_yX5_which : Cond.code yX5_which cX5_which 5 (some FieldType.int) ∈ rs_wg := rs_lk5 (i := 25) rfl rfl
theorem wl_X5_275 : Cond.methodLink RX5 275 yX5_isSoWith ∈ rs_wg := rs_lk5 (i := 26) rfl rfl
theorem wi_yX5_isSoWith : Cond.instanceMethod yX5_isSoWith ∈ rs_wg := rs_lk5 (i := 28) rfl rfl
theorem wc_yX5_isSoWith : Cond.code yX5_isSoWith cX5_isSoWith 6 (some FieldType.boolean) ∈ rs_wg := rs_lk5 (i := 29) rfl rfl
theorem wl_L_126 : Cond.methodLink RL 126 yX5_phases ∈ rs_wg := rs_lk5 (i := 30) rfl rfl
theorem wi_yX5_phases : Cond.instanceMethod yX5_phases ∈ rs_wg := rs_lk5 (i := 31) rfl rfl
theorem wx_yX5_phases : Cond.selects RX5 yX5_phases yX5_phases ∈ rs_wg := rs_lk5 (i := 32) rfl rfl
theorem wc_yX5_phases : Cond.code yX5_phases cX5_phases 2 (some FieldType.int) ∈ rs_wg := rs_lk5 (i := 33) rfl rfl
theorem wl_L_130 : Cond.methodLink RL 130 yX5_ask ∈ rs_wg := rs_lk5 (i := 34) rfl rfl
theorem wi_yX5_ask : Cond.instanceMethod yX5_ask ∈ rs_wg := rs_lk5 (i := 35) rfl rfl
theorem wx_yX5_ask : Cond.selects RX5 yX5_ask yX5_ask ∈ rs_wg := rs_lk5 (i := 36) rfl rfl
theorem wc_yX5_ask : Cond.code yX5_ask cX5_ask 11 (some FieldType.int) ∈ rs_wg := rs_lk5 (i := 37) rfl rfl
theorem wl_L_134 : Cond.methodLink RL 134 yX5_drift ∈ rs_wg := rs_lk5 (i := 38) rfl rfl
theorem wi_yX5_drift : Cond.instanceMethod yX5_drift ∈ rs_wg := rs_lk5 (i := 39) rfl rfl
theorem wx_yX5_drift : Cond.selects RX5 yX5_drift yX5_drift ∈ rs_wg := rs_lk5 (i := 40) rfl rfl
theorem wc_yX5_drift : Cond.code yX5_drift cX5_drift 7 (some FieldType.int) ∈ rs_wg := rs_lk5 (i := 41) rfl rfl
theorem wk_X5_282 : Cond.constant RX5 282 (1103515245) ∈ rs_wg := rs_lk5 (i := 42) rfl rfl
theorem wl_L_138 : Cond.methodLink RL 138 yX5_keep ∈ rs_wg := rs_lk5 (i := 43) rfl rfl
theorem wi_yX5_keep : Cond.instanceMethod yX5_keep ∈ rs_wg := rs_lk5 (i := 44) rfl rfl
theorem wx_yX5_keep : Cond.selects RX5 yX5_keep yX5_keep ∈ rs_wg := rs_lk5 (i := 45) rfl rfl
theorem wc_yX5_keep : Cond.code yX5_keep cX5_keep 3 (some FieldType.int) ∈ rs_wg := rs_lk5 (i := 46) rfl rfl
theorem wl_X5_283 : Cond.methodLink RX5 283 yX5_copies ∈ rs_wg := rs_lk5 (i := 47) rfl rfl
theorem wi_yX5_copies : Cond.instanceMethod yX5_copies ∈ rs_wg := rs_lk5 (i := 49) rfl rfl
theorem wc_yX5_copies : Cond.code yX5_copies cX5_copies 4 none ∈ rs_wg := rs_lk5 (i := 50) rfl rfl
theorem wl_L_142 : Cond.methodLink RL 142 yX5_back ∈ rs_wg := rs_lk5 (i := 51) rfl rfl
theorem wi_yX5_back : Cond.instanceMethod yX5_back ∈ rs_wg := rs_lk5 (i := 52) rfl rfl
theorem wx_yX5_back : Cond.selects RX5 yX5_back yX5_back ∈ rs_wg := rs_lk5 (i := 53) rfl rfl
theorem wc_yX5_back : Cond.code yX5_back cX5_back 2 (some FieldType.int) ∈ rs_wg := rs_lk5 (i := 54) rfl rfl
theorem wl_L_146 : Cond.methodLink RL 146 yX5_sheet ∈ rs_wg := rs_lk5 (i := 55) rfl rfl
theorem wi_yX5_sheet : Cond.instanceMethod yX5_sheet ∈ rs_wg := rs_lk5 (i := 56) rfl rfl
theorem wx_yX5_sheet : Cond.selects RX5 yX5_sheet yX5_sheet ∈ rs_wg := rs_lk5 (i := 57) rfl rfl
theorem wc_yX5_sheet : Cond.code yX5_sheet cX5_sheet 5 (some FieldType.int) ∈ rs_wg := rs_lk5 (i := 58) rfl rfl
theorem wl_X5_288 : Cond.methodLink RX5 288 yX5_isSheet ∈ rs_wg := rs_lk5 (i := 59) rfl rfl
theorem ws_yX5_isSheet : Cond.static yX5_isSheet ∈ rs_wg := rs_lk5 (i := 60) rfl rfl
theorem wc_yX5_isSheet : Cond.code yX5_isSheet cX5_isSheet 2 (some FieldType.boolean) ∈ rs_wg := rs_lk5 (i := 61) rfl rfl
theorem wk_X5_286 : Cond.constantLong RX5 286 (2) ∈ rs_wg := rs_lk5 (i := 62) rfl rfl
theorem wl_L_150 : Cond.methodLink RL 150 yX5_lay ∈ rs_wg := rs_lk5 (i := 63) rfl rfl
theorem wi_yX5_lay : Cond.instanceMethod yX5_lay ∈ rs_wg := rs_lk5 (i := 64) rfl rfl
theorem wx_yX5_lay : Cond.selects RX5 yX5_lay yX5_lay ∈ rs_wg := rs_lk5 (i := 65) rfl rfl
theorem wc_yX5_lay : Cond.code yX5_lay cX5_lay 4 (some FieldType.int) ∈ rs_wg := rs_lk5 (i := 66) rfl rfl
theorem wl_L_155 : Cond.methodLink RL 155 yX5_read ∈ rs_wg := rs_lk5 (i := 67) rfl rfl
theorem wi_yX5_read : Cond.instanceMethod yX5_read ∈ rs_wg := rs_lk5 (i := 68) rfl rfl
theorem wx_yX5_read : Cond.selects RX5 yX5_read yX5_read ∈ rs_wg := rs_lk5 (i := 69) rfl rfl
theorem wc_yX5_read : Cond.code yX5_read cX5_read 11 (some FieldType.int) ∈ rs_wg := rs_lk5 (i := 70) rfl rfl
theorem wl_X5_291 : Cond.methodLink RX5 291 yX5_alter ∈ rs_wg := rs_lk5 (i := 71) rfl rfl
theorem wl_L_159 : Cond.methodLink RL 159 yX5_torn ∈ rs_wg := rs_lk5 (i := 72) rfl rfl
theorem wi_yX5_torn : Cond.instanceMethod yX5_torn ∈ rs_wg := rs_lk5 (i := 73) rfl rfl
theorem wx_yX5_torn : Cond.selects RX5 yX5_torn yX5_torn ∈ rs_wg := rs_lk5 (i := 74) rfl rfl
theorem wc_yX5_torn : Cond.code yX5_torn cX5_torn 1 (some FieldType.int) ∈ rs_wg := rs_lk5 (i := 75) rfl rfl
theorem wl_L_163 : Cond.methodLink RL 163 yX5_count ∈ rs_wg := rs_lk5 (i := 76) rfl rfl
theorem wi_yX5_count : Cond.instanceMethod yX5_count ∈ rs_wg := rs_lk5 (i := 77) rfl rfl
theorem wx_yX5_count : Cond.selects RX5 yX5_count yX5_count ∈ rs_wg := rs_lk5 (i := 78) rfl rfl
theorem wc_yX5_count : Cond.code yX5_count cX5_count 2 (some FieldType.int) ∈ rs_wg := rs_lk5 (i := 79) rfl rfl
theorem wl_X5_298 : Cond.methodLink RX5 298 yX5_sumOf ∈ rs_wg := rs_lk5 (i := 80) rfl rfl
theorem wi_yX5_sumOf : Cond.instanceMethod yX5_sumOf ∈ rs_wg := rs_lk5 (i := 82) rfl rfl
theorem wc_yX5_sumOf : Cond.code yX5_sumOf cX5_sumOf 4 (some FieldType.int) ∈ rs_wg := rs_lk5 (i := 83) rfl rfl
theorem wl_J0_9 : Cond.fieldLink RJ0 9 "java/lang/String" "value" "[B" ∈ rs_wg := rs_lk5 (i := 84) rfl rfl
theorem wl_J0_15 : Cond.fieldLink RJ0 15 "java/lang/String" "coder" "B" ∈ rs_wg := rs_lk5 (i := 85) rfl rfl
theorem rs_lkp {i : Nat} {w : Cond} (h : (k2_sels lw_privs)[i]? = some w) (hg : goodWord w = true) : w ∈ rs_wg := List.mem_filter.mpr ⟨List.mem_append_left _ (List.mem_of_getElem? h), hg⟩
theorem wx_yX3_advance : Cond.selects RX3 yX3_advance yX3_advance ∈ rs_wg := rs_lkp (i := 0) rfl rfl
theorem wx_yX3_takeAll : Cond.selects RX3 yX3_takeAll yX3_takeAll ∈ rs_wg := rs_lkp (i := 1) rfl rfl
theorem wx_yX3_readLine : Cond.selects RX3 yX3_readLine yX3_readLine ∈ rs_wg := rs_lkp (i := 2) rfl rfl
theorem wx_yX3_lineBegun : Cond.selects RX3 yX3_lineBegun yX3_lineBegun ∈ rs_wg := rs_lkp (i := 3) rfl rfl
theorem wx_yX3_isCalled : Cond.selects RX3 yX3_isCalled yX3_isCalled ∈ rs_wg := rs_lkp (i := 4) rfl rfl
theorem wx_yX3_readLamp : Cond.selects RX3 yX3_readLamp yX3_readLamp ∈ rs_wg := rs_lkp (i := 5) rfl rfl
theorem wx_yX3_readNumber : Cond.selects RX3 yX3_readNumber yX3_readNumber ∈ rs_wg := rs_lkp (i := 6) rfl rfl
theorem wx_yX0_sumUp : Cond.selects RX0 yX0_sumUp yX0_sumUp ∈ rs_wg := rs_lkp (i := 7) rfl rfl
theorem wx_yX0_givesAt : Cond.selects RX0 yX0_givesAt yX0_givesAt ∈ rs_wg := rs_lkp (i := 8) rfl rfl
theorem wx_yX3_readRule : Cond.selects RX3 yX3_readRule yX3_readRule ∈ rs_wg := rs_lkp (i := 9) rfl rfl
theorem wx_yX1_lightIn : Cond.selects RX1 yX1_lightIn yX1_lightIn ∈ rs_wg := rs_lkp (i := 10) rfl rfl
theorem wx_yX4_bestPart : Cond.selects RX4 yX4_bestPart yX4_bestPart ∈ rs_wg := rs_lkp (i := 11) rfl rfl
theorem wx_yX4_draftSteadyLamps : Cond.selects RX4 yX4_draftSteadyLamps yX4_draftSteadyLamps ∈ rs_wg := rs_lkp (i := 12) rfl rfl
theorem wx_yX4_fitting : Cond.selects RX4 yX4_fitting yX4_fitting ∈ rs_wg := rs_lkp (i := 13) rfl rfl
theorem wx_yX4_mostAlike : Cond.selects RX4 yX4_mostAlike yX4_mostAlike ∈ rs_wg := rs_lkp (i := 14) rfl rfl
theorem wx_yX4_isPhaseOfLamp : Cond.selects RX4 yX4_isPhaseOfLamp yX4_isPhaseOfLamp ∈ rs_wg := rs_lkp (i := 15) rfl rfl
theorem wx_yX4_takePhases : Cond.selects RX4 yX4_takePhases yX4_takePhases ∈ rs_wg := rs_lkp (i := 16) rfl rfl
theorem wx_yX5_firstDraft : Cond.selects RX5 yX5_firstDraft yX5_firstDraft ∈ rs_wg := rs_lkp (i := 17) rfl rfl
theorem wx_yX5_keepDraft : Cond.selects RX5 yX5_keepDraft yX5_keepDraft ∈ rs_wg := rs_lkp (i := 18) rfl rfl
theorem wx_yX5_reads : Cond.selects RX5 yX5_reads yX5_reads ∈ rs_wg := rs_lkp (i := 19) rfl rfl
theorem wx_yX5_byteAt : Cond.selects RX5 yX5_byteAt yX5_byteAt ∈ rs_wg := rs_lkp (i := 20) rfl rfl
theorem wx_yX5_requires : Cond.selects RX5 yX5_requires yX5_requires ∈ rs_wg := rs_lkp (i := 21) rfl rfl
theorem wx_yX5_readLine : Cond.selects RX5 yX5_readLine yX5_readLine ∈ rs_wg := rs_lkp (i := 22) rfl rfl
theorem wx_yX5_lineNow : Cond.selects RX5 yX5_lineNow yX5_lineNow ∈ rs_wg := rs_lkp (i := 23) rfl rfl
theorem wx_yX5_is : Cond.selects RX5 yX5_is yX5_is ∈ rs_wg := rs_lkp (i := 24) rfl rfl
theorem wx_yX5_endsIn : Cond.selects RX5 yX5_endsIn yX5_endsIn ∈ rs_wg := rs_lkp (i := 25) rfl rfl
theorem wx_yX5_readLineOf : Cond.selects RX5 yX5_readLineOf yX5_readLineOf ∈ rs_wg := rs_lkp (i := 26) rfl rfl
theorem wx_yX5_readNumber : Cond.selects RX5 yX5_readNumber yX5_readNumber ∈ rs_wg := rs_lkp (i := 27) rfl rfl
theorem wx_yX5_starts : Cond.selects RX5 yX5_starts yX5_starts ∈ rs_wg := rs_lkp (i := 28) rfl rfl
theorem wx_yX5_shine : Cond.selects RX5 yX5_shine yX5_shine ∈ rs_wg := rs_lkp (i := 29) rfl rfl
theorem wx_yX5_of : Cond.selects RX5 yX5_of yX5_of ∈ rs_wg := rs_lkp (i := 30) rfl rfl
theorem wx_yX5_gives : Cond.selects RX5 yX5_gives yX5_gives ∈ rs_wg := rs_lkp (i := 31) rfl rfl
theorem wx_yX5_isLamp : Cond.selects RX5 yX5_isLamp yX5_isLamp ∈ rs_wg := rs_lkp (i := 32) rfl rfl
theorem wx_yX5_becomes : Cond.selects RX5 yX5_becomes yX5_becomes ∈ rs_wg := rs_lkp (i := 33) rfl rfl
theorem wx_yX5_shotsGo : Cond.selects RX5 yX5_shotsGo yX5_shotsGo ∈ rs_wg := rs_lkp (i := 34) rfl rfl
theorem wx_yX5_shotGoes : Cond.selects RX5 yX5_shotGoes yX5_shotGoes ∈ rs_wg := rs_lkp (i := 35) rfl rfl
theorem wx_yX5_rowAt : Cond.selects RX5 yX5_rowAt yX5_rowAt ∈ rs_wg := rs_lkp (i := 36) rfl rfl
theorem wx_yX5_settles : Cond.selects RX5 yX5_settles yX5_settles ∈ rs_wg := rs_lkp (i := 37) rfl rfl
theorem wx_yX5_bestOf : Cond.selects RX5 yX5_bestOf yX5_bestOf ∈ rs_wg := rs_lkp (i := 38) rfl rfl
theorem wx_yX5_startsJudging : Cond.selects RX5 yX5_startsJudging yX5_startsJudging ∈ rs_wg := rs_lkp (i := 39) rfl rfl
theorem wx_yX5_judges : Cond.selects RX5 yX5_judges yX5_judges ∈ rs_wg := rs_lkp (i := 40) rfl rfl
theorem wx_yX5_judged : Cond.selects RX5 yX5_judged yX5_judged ∈ rs_wg := rs_lkp (i := 41) rfl rfl
theorem wx_yX5_findOdds : Cond.selects RX5 yX5_findOdds yX5_findOdds ∈ rs_wg := rs_lkp (i := 42) rfl rfl
theorem wx_yX5_which : Cond.selects RX5 yX5_which yX5_which ∈ rs_wg := rs_lkp (i := 43) rfl rfl
theorem wx_yX5_isSoWith : Cond.selects RX5 yX5_isSoWith yX5_isSoWith ∈ rs_wg := rs_lkp (i := 44) rfl rfl
theorem wx_yX5_copies : Cond.selects RX5 yX5_copies yX5_copies ∈ rs_wg := rs_lkp (i := 45) rfl rfl
theorem wx_yX5_sumOf : Cond.selects RX5 yX5_sumOf yX5_sumOf ∈ rs_wg := rs_lkp (i := 46) rfl rfl
theorem wu_X0 : ∀ w ∈ u_ws RX0 TX0 2, w ∈ rs_wg := fun w hw => (show ∀ w ∈ u_ws RX0 TX0 2, w ∈ rs_wg from fun w hw => List.mem_filter.mpr ((show ∀ w ∈ u_ws RX0 TX0 2, w ∈ lw_tbl ∧ goodWord w = true by decide +kernel) w hw)) w hw
theorem wu_X1 : ∀ w ∈ u_ws RX1 TX1 11, w ∈ rs_wg := fun w hw => (show ∀ w ∈ u_ws RX1 TX1 11, w ∈ rs_wg from fun w hw => List.mem_filter.mpr ((show ∀ w ∈ u_ws RX1 TX1 11, w ∈ lw_tbl ∧ goodWord w = true by decide +kernel) w hw)) w hw
theorem wu_X2 : ∀ w ∈ u_ws RX2 TX2 3, w ∈ rs_wg := fun w hw => (show ∀ w ∈ u_ws RX2 TX2 3, w ∈ rs_wg from fun w hw => List.mem_filter.mpr ((show ∀ w ∈ u_ws RX2 TX2 3, w ∈ lw_tbl ∧ goodWord w = true by decide +kernel) w hw)) w hw
theorem wu_X3 : ∀ w ∈ u_ws RX3 TX3 7, w ∈ rs_wg := fun w hw => (show ∀ w ∈ u_ws RX3 TX3 7, w ∈ rs_wg from fun w hw => List.mem_filter.mpr ((show ∀ w ∈ u_ws RX3 TX3 7, w ∈ lw_tbl ∧ goodWord w = true by decide +kernel) w hw)) w hw
theorem wu_X4 : ∀ w ∈ u_ws RX4 TX4 8, w ∈ rs_wg := fun w hw => (show ∀ w ∈ u_ws RX4 TX4 8, w ∈ rs_wg from fun w hw => List.mem_filter.mpr ((show ∀ w ∈ u_ws RX4 TX4 8, w ∈ lw_tbl ∧ goodWord w = true by decide +kernel) w hw)) w hw
theorem wu_X5 : ∀ w ∈ u_ws RX5 TX5 34, w ∈ rs_wg := fun w hw => (show ∀ w ∈ u_ws RX5 TX5 34, w ∈ rs_wg from fun w hw => List.mem_filter.mpr ((show ∀ w ∈ u_ws RX5 TX5 34, w ∈ lw_tbl ∧ goodWord w = true by decide +kernel) w hw)) w hw
