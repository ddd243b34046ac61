def lwt : List Cond := lw_tbl.filter goodWord
theorem tblG {w : Cond} (h : w ∈ lwt) : (w.onTables && w.keeps) = true ∨ ∃ ty, w = .arrayClass ty := good_of_word (List.mem_filter.mp h).2
theorem tw0 : (Cond.initialized RL) ∈ lwt := List.mem_filter.mpr ⟨List.mem_append_right _ (List.mem_of_getElem? (i := 0) (by decide +kernel)), rfl⟩
theorem tw1 : (Cond.initialized RX11) ∈ lwt := List.mem_filter.mpr ⟨List.mem_append_right _ (List.mem_of_getElem? (i := 1) (by decide +kernel)), rfl⟩
theorem tw2 : (Cond.initialized RX4) ∈ lwt := List.mem_filter.mpr ⟨List.mem_append_right _ (List.mem_of_getElem? (i := 2) (by decide +kernel)), rfl⟩
theorem tw3 : (Cond.initialized RX7) ∈ lwt := List.mem_filter.mpr ⟨List.mem_append_right _ (List.mem_of_getElem? (i := 3) (by decide +kernel)), rfl⟩
theorem tw4 : (Cond.initialized RX9) ∈ lwt := List.mem_filter.mpr ⟨List.mem_append_right _ (List.mem_of_getElem? (i := 4) (by decide +kernel)), rfl⟩
theorem tw5 : (Cond.initialized RX0) ∈ lwt := List.mem_filter.mpr ⟨List.mem_append_right _ (List.mem_of_getElem? (i := 5) (by decide +kernel)), rfl⟩
theorem tw6 : (Cond.initialized RX1) ∈ lwt := List.mem_filter.mpr ⟨List.mem_append_right _ (List.mem_of_getElem? (i := 6) (by decide +kernel)), rfl⟩
theorem tw7 : (Cond.initialized RX12) ∈ lwt := List.mem_filter.mpr ⟨List.mem_append_right _ (List.mem_of_getElem? (i := 7) (by decide +kernel)), rfl⟩
theorem tw8 : (Cond.initialized RX6) ∈ lwt := List.mem_filter.mpr ⟨List.mem_append_right _ (List.mem_of_getElem? (i := 8) (by decide +kernel)), rfl⟩
theorem tw9 : (Cond.initialized RX5) ∈ lwt := List.mem_filter.mpr ⟨List.mem_append_right _ (List.mem_of_getElem? (i := 9) (by decide +kernel)), rfl⟩
theorem tw10 : (Cond.initialized RX2) ∈ lwt := List.mem_filter.mpr ⟨List.mem_append_right _ (List.mem_of_getElem? (i := 10) (by decide +kernel)), rfl⟩
theorem tw11 : (Cond.initialized RX3) ∈ lwt := List.mem_filter.mpr ⟨List.mem_append_right _ (List.mem_of_getElem? (i := 11) (by decide +kernel)), rfl⟩
theorem tw12 : (Cond.initialized RX10) ∈ lwt := List.mem_filter.mpr ⟨List.mem_append_right _ (List.mem_of_getElem? (i := 12) (by decide +kernel)), rfl⟩
theorem tw13 : (Cond.initialized RX8) ∈ lwt := List.mem_filter.mpr ⟨List.mem_append_right _ (List.mem_of_getElem? (i := 13) (by decide +kernel)), rfl⟩
theorem tw14 : (Cond.initialized RJ6) ∈ lwt := List.mem_filter.mpr ⟨List.mem_append_right _ (List.mem_of_getElem? (i := 14) (by decide +kernel)), rfl⟩
theorem tw15 : (Cond.initialized RJ7) ∈ lwt := List.mem_filter.mpr ⟨List.mem_append_right _ (List.mem_of_getElem? (i := 15) (by decide +kernel)), rfl⟩
theorem tw16 : (Cond.initialized RJ9) ∈ lwt := List.mem_filter.mpr ⟨List.mem_append_right _ (List.mem_of_getElem? (i := 16) (by decide +kernel)), rfl⟩
theorem tw17 : (Cond.initialized RJ10) ∈ lwt := List.mem_filter.mpr ⟨List.mem_append_right _ (List.mem_of_getElem? (i := 17) (by decide +kernel)), rfl⟩
theorem tw18 : (Cond.classLink RL 7 RX11) ∈ lwt := List.mem_filter.mpr ⟨List.mem_append_right _ (List.mem_of_getElem? (i := 18) (by decide +kernel)), rfl⟩
theorem tw19 : (Cond.instantiable RX11 13) ∈ lwt := List.mem_filter.mpr ⟨List.mem_append_right _ (List.mem_of_getElem? (i := 19) (by decide +kernel)), rfl⟩
theorem tw20 : (Cond.methodLink RL 9 yX11_init) ∈ lwt := List.mem_filter.mpr ⟨List.mem_append_right _ (List.mem_of_getElem? (i := 20) (by decide +kernel)), rfl⟩
theorem tw21 : (Cond.instanceMethod yX11_init) ∈ lwt := List.mem_filter.mpr ⟨List.mem_append_right _ (List.mem_of_getElem? (i := 21) (by decide +kernel)), rfl⟩
theorem tw22 : (Cond.code yX11_init cX11_init 1 (Option.none : Option FieldType)) ∈ lwt := List.mem_filter.mpr ⟨List.mem_append_right _ (List.mem_of_getElem? (i := 22) (by decide +kernel)), rfl⟩
theorem tw23 : (Cond.methodLink RX11 3 objectInit) ∈ lwt := List.mem_filter.mpr ⟨List.mem_append_right _ (List.mem_of_getElem? (i := 23) (by decide +kernel)), rfl⟩
theorem tw24 : (Cond.instanceMethod objectInit) ∈ lwt := List.mem_filter.mpr ⟨List.mem_append_right _ (List.mem_of_getElem? (i := 24) (by decide +kernel)), rfl⟩
theorem tw25 : (Cond.code objectInit object_method_1_code 1 (Option.none : Option Jvm.ClassFile.FieldType)) ∈ lwt := List.mem_filter.mpr ⟨List.mem_append_right _ (List.mem_of_getElem? (i := 25) (by decide +kernel)), rfl⟩
theorem tw26 : (Cond.classLink RX11 9 RX4) ∈ lwt := List.mem_filter.mpr ⟨List.mem_append_right _ (List.mem_of_getElem? (i := 26) (by decide +kernel)), rfl⟩
theorem tw27 : (Cond.instantiable RX4 2) ∈ lwt := List.mem_filter.mpr ⟨List.mem_append_right _ (List.mem_of_getElem? (i := 27) (by decide +kernel)), rfl⟩
theorem tn28 : (Cond.methodLinkNest RX11 11 yX4_init RX11) ∈ lw_tbl := List.mem_append_right _ (List.mem_of_getElem? (i := 28) (by decide +kernel))
theorem tw29 : (Cond.instanceMethod yX4_init) ∈ lwt := List.mem_filter.mpr ⟨List.mem_append_right _ (List.mem_of_getElem? (i := 29) (by decide +kernel)), rfl⟩
theorem tw30 : (Cond.code yX4_init cX4_init 1 (Option.none : Option FieldType)) ∈ lwt := List.mem_filter.mpr ⟨List.mem_append_right _ (List.mem_of_getElem? (i := 30) (by decide +kernel)), rfl⟩
theorem tw31 : (Cond.methodLink RX4 3 objectInit) ∈ lwt := List.mem_filter.mpr ⟨List.mem_append_right _ (List.mem_of_getElem? (i := 31) (by decide +kernel)), rfl⟩
theorem tw32 : (Cond.fieldLink RX4 11 RX4 "codes" "[I") ∈ lwt := List.mem_filter.mpr ⟨List.mem_append_right _ (List.mem_of_getElem? (i := 32) (by decide +kernel)), rfl⟩
theorem tw33 : (Cond.fieldLink RX4 19 RX4 "length" "I") ∈ lwt := List.mem_filter.mpr ⟨List.mem_append_right _ (List.mem_of_getElem? (i := 33) (by decide +kernel)), rfl⟩
theorem tn34 : (Cond.fieldLinkNest RX11 297 RX4 "length" "I" RX11) ∈ lw_tbl := List.mem_append_right _ (List.mem_of_getElem? (i := 34) (by decide +kernel))
theorem tw35 : (Cond.laysFinal RX4 RX4 "codes" "[I") ∈ lwt := List.mem_filter.mpr ⟨List.mem_append_right _ (List.mem_of_getElem? (i := 35) (by decide +kernel)), rfl⟩
theorem tw37 : (Cond.lays RX4 RX4 "length" "I") ∈ lwt := List.mem_filter.mpr ⟨List.mem_append_right _ (List.mem_of_getElem? (i := 37) (by decide +kernel)), rfl⟩
theorem tw40 : (Cond.arrayClass FieldType.int) ∈ lwt := List.mem_filter.mpr ⟨List.mem_append_right _ (List.mem_of_getElem? (i := 40) (by decide +kernel)), rfl⟩
theorem tw41 : (Cond.classLink RX11 16 RX6) ∈ lwt := List.mem_filter.mpr ⟨List.mem_append_right _ (List.mem_of_getElem? (i := 41) (by decide +kernel)), rfl⟩
theorem tn42 : (Cond.arrayOver (FieldType.object "BlackBalls$Rule")) ∈ lw_tbl := List.mem_append_right _ (List.mem_of_getElem? (i := 42) (by decide +kernel))
theorem tw43 : (Cond.classLink RX11 22 RX5) ∈ lwt := List.mem_filter.mpr ⟨List.mem_append_right _ (List.mem_of_getElem? (i := 43) (by decide +kernel)), rfl⟩
theorem tn44 : (Cond.arrayOver (FieldType.object "BlackBalls$Person")) ∈ lw_tbl := List.mem_append_right _ (List.mem_of_getElem? (i := 44) (by decide +kernel))
theorem tw45 : (Cond.classLink RX11 32 RX7) ∈ lwt := List.mem_filter.mpr ⟨List.mem_append_right _ (List.mem_of_getElem? (i := 45) (by decide +kernel)), rfl⟩
theorem tw46 : (Cond.instantiable RX7 3) ∈ lwt := List.mem_filter.mpr ⟨List.mem_append_right _ (List.mem_of_getElem? (i := 46) (by decide +kernel)), rfl⟩
theorem tn47 : (Cond.methodLinkNest RX11 34 yX7_init RX11) ∈ lw_tbl := List.mem_append_right _ (List.mem_of_getElem? (i := 47) (by decide +kernel))
theorem tw48 : (Cond.instanceMethod yX7_init) ∈ lwt := List.mem_filter.mpr ⟨List.mem_append_right _ (List.mem_of_getElem? (i := 48) (by decide +kernel)), rfl⟩
theorem tw49 : (Cond.code yX7_init cX7_init 1 (Option.none : Option FieldType)) ∈ lwt := List.mem_filter.mpr ⟨List.mem_append_right _ (List.mem_of_getElem? (i := 49) (by decide +kernel)), rfl⟩
theorem tw50 : (Cond.methodLink RX7 3 objectInit) ∈ lwt := List.mem_filter.mpr ⟨List.mem_append_right _ (List.mem_of_getElem? (i := 50) (by decide +kernel)), rfl⟩
theorem tw51 : (Cond.fieldLink RX7 9 RX7 "ways" "[J") ∈ lwt := List.mem_filter.mpr ⟨List.mem_append_right _ (List.mem_of_getElem? (i := 51) (by decide +kernel)), rfl⟩
theorem tw52 : (Cond.fieldLink RX7 15 RX7 "balls" "I") ∈ lwt := List.mem_filter.mpr ⟨List.mem_append_right _ (List.mem_of_getElem? (i := 52) (by decide +kernel)), rfl⟩
theorem tw53 : (Cond.fieldLink RX7 19 RX7 "all" "J") ∈ lwt := List.mem_filter.mpr ⟨List.mem_append_right _ (List.mem_of_getElem? (i := 53) (by decide +kernel)), rfl⟩
theorem tw54 : (Cond.laysFinal RX7 RX7 "ways" "[J") ∈ lwt := List.mem_filter.mpr ⟨List.mem_append_right _ (List.mem_of_getElem? (i := 54) (by decide +kernel)), rfl⟩
theorem tw56 : (Cond.lays RX7 RX7 "balls" "I") ∈ lwt := List.mem_filter.mpr ⟨List.mem_append_right _ (List.mem_of_getElem? (i := 56) (by decide +kernel)), rfl⟩
theorem tw58 : (Cond.lays RX7 RX7 "all" "J") ∈ lwt := List.mem_filter.mpr ⟨List.mem_append_right _ (List.mem_of_getElem? (i := 58) (by decide +kernel)), rfl⟩
theorem tw61 : (Cond.arrayClass FieldType.long) ∈ lwt := List.mem_filter.mpr ⟨List.mem_append_right _ (List.mem_of_getElem? (i := 61) (by decide +kernel)), rfl⟩
theorem tw62 : (Cond.classLink RX11 39 RX9) ∈ lwt := List.mem_filter.mpr ⟨List.mem_append_right _ (List.mem_of_getElem? (i := 62) (by decide +kernel)), rfl⟩
theorem tw63 : (Cond.instantiable RX9 3) ∈ lwt := List.mem_filter.mpr ⟨List.mem_append_right _ (List.mem_of_getElem? (i := 63) (by decide +kernel)), rfl⟩
theorem tn64 : (Cond.methodLinkNest RX11 41 yX9_init RX11) ∈ lw_tbl := List.mem_append_right _ (List.mem_of_getElem? (i := 64) (by decide +kernel))
theorem tw65 : (Cond.instanceMethod yX9_init) ∈ lwt := List.mem_filter.mpr ⟨List.mem_append_right _ (List.mem_of_getElem? (i := 65) (by decide +kernel)), rfl⟩
theorem tw66 : (Cond.code yX9_init cX9_init 1 (Option.none : Option FieldType)) ∈ lwt := List.mem_filter.mpr ⟨List.mem_append_right _ (List.mem_of_getElem? (i := 66) (by decide +kernel)), rfl⟩
theorem tw67 : (Cond.methodLink RX9 3 objectInit) ∈ lwt := List.mem_filter.mpr ⟨List.mem_append_right _ (List.mem_of_getElem? (i := 67) (by decide +kernel)), rfl⟩
theorem tw68 : (Cond.fieldLink RX9 11 RX9 "ways" "[J") ∈ lwt := List.mem_filter.mpr ⟨List.mem_append_right _ (List.mem_of_getElem? (i := 68) (by decide +kernel)), rfl⟩
theorem tw69 : (Cond.fieldLink RX9 21 RX9 "asked" "I") ∈ lwt := List.mem_filter.mpr ⟨List.mem_append_right _ (List.mem_of_getElem? (i := 69) (by decide +kernel)), rfl⟩
theorem tw70 : (Cond.fieldLink RX9 25 RX9 "all" "J") ∈ lwt := List.mem_filter.mpr ⟨List.mem_append_right _ (List.mem_of_getElem? (i := 70) (by decide +kernel)), rfl⟩
theorem tw71 : (Cond.laysFinal RX9 RX9 "ways" "[J") ∈ lwt := List.mem_filter.mpr ⟨List.mem_append_right _ (List.mem_of_getElem? (i := 71) (by decide +kernel)), rfl⟩
theorem tw73 : (Cond.lays RX9 RX9 "asked" "I") ∈ lwt := List.mem_filter.mpr ⟨List.mem_append_right _ (List.mem_of_getElem? (i := 73) (by decide +kernel)), rfl⟩
theorem tw75 : (Cond.lays RX9 RX9 "all" "J") ∈ lwt := List.mem_filter.mpr ⟨List.mem_append_right _ (List.mem_of_getElem? (i := 75) (by decide +kernel)), rfl⟩
theorem tw78 : (Cond.classLink RX11 46 RX0) ∈ lwt := List.mem_filter.mpr ⟨List.mem_append_right _ (List.mem_of_getElem? (i := 78) (by decide +kernel)), rfl⟩
theorem tw79 : (Cond.instantiable RX0 5) ∈ lwt := List.mem_filter.mpr ⟨List.mem_append_right _ (List.mem_of_getElem? (i := 79) (by decide +kernel)), rfl⟩
theorem tn80 : (Cond.methodLinkNest RX11 48 yX0_init RX11) ∈ lw_tbl := List.mem_append_right _ (List.mem_of_getElem? (i := 80) (by decide +kernel))
theorem tw81 : (Cond.instanceMethod yX0_init) ∈ lwt := List.mem_filter.mpr ⟨List.mem_append_right _ (List.mem_of_getElem? (i := 81) (by decide +kernel)), rfl⟩
theorem tw82 : (Cond.code yX0_init cX0_init 1 (Option.none : Option FieldType)) ∈ lwt := List.mem_filter.mpr ⟨List.mem_append_right _ (List.mem_of_getElem? (i := 82) (by decide +kernel)), rfl⟩
theorem tw83 : (Cond.methodLink RX0 3 objectInit) ∈ lwt := List.mem_filter.mpr ⟨List.mem_append_right _ (List.mem_of_getElem? (i := 83) (by decide +kernel)), rfl⟩
theorem tw84 : (Cond.fieldLink RX0 9 RX0 "blackTenths" "[I") ∈ lwt := List.mem_filter.mpr ⟨List.mem_append_right _ (List.mem_of_getElem? (i := 84) (by decide +kernel)), rfl⟩
theorem tw85 : (Cond.fieldLink RX0 15 RX0 "came" "I") ∈ lwt := List.mem_filter.mpr ⟨List.mem_append_right _ (List.mem_of_getElem? (i := 85) (by decide +kernel)), rfl⟩
theorem tn86 : (Cond.fieldLinkNest RX1 54 RX0 "seed" "I" RX11) ∈ lw_tbl := List.mem_append_right _ (List.mem_of_getElem? (i := 86) (by decide +kernel))
theorem tw87 : (Cond.fieldLink RX0 19 RX0 "seed" "I") ∈ lwt := List.mem_filter.mpr ⟨List.mem_append_right _ (List.mem_of_getElem? (i := 87) (by decide +kernel)), rfl⟩
theorem tn88 : (Cond.fieldLinkNest RX11 255 RX0 "seed" "I" RX11) ∈ lw_tbl := List.mem_append_right _ (List.mem_of_getElem? (i := 88) (by decide +kernel))
theorem tw89 : (Cond.fieldLink RX0 22 RX0 "lastBlacks" "I") ∈ lwt := List.mem_filter.mpr ⟨List.mem_append_right _ (List.mem_of_getElem? (i := 89) (by decide +kernel)), rfl⟩
theorem tn90 : (Cond.fieldLinkNest RX11 249 RX0 "lastBlacks" "I" RX11) ∈ lw_tbl := List.mem_append_right _ (List.mem_of_getElem? (i := 90) (by decide +kernel))
theorem tn91 : (Cond.fieldLinkNest RX1 55 RX0 "letIn" "Z" RX11) ∈ lw_tbl := List.mem_append_right _ (List.mem_of_getElem? (i := 91) (by decide +kernel))
theorem tw92 : (Cond.fieldLink RX0 25 RX0 "letIn" "Z") ∈ lwt := List.mem_filter.mpr ⟨List.mem_append_right _ (List.mem_of_getElem? (i := 92) (by decide +kernel)), rfl⟩
theorem tn93 : (Cond.fieldLinkNest RX11 252 RX0 "letIn" "Z" RX11) ∈ lw_tbl := List.mem_append_right _ (List.mem_of_getElem? (i := 93) (by decide +kernel))
theorem tw94 : (Cond.laysFinal RX0 RX0 "blackTenths" "[I") ∈ lwt := List.mem_filter.mpr ⟨List.mem_append_right _ (List.mem_of_getElem? (i := 94) (by decide +kernel)), rfl⟩
theorem tw96 : (Cond.lays RX0 RX0 "came" "I") ∈ lwt := List.mem_filter.mpr ⟨List.mem_append_right _ (List.mem_of_getElem? (i := 96) (by decide +kernel)), rfl⟩
theorem tw98 : (Cond.lays RX0 RX0 "seed" "I") ∈ lwt := List.mem_filter.mpr ⟨List.mem_append_right _ (List.mem_of_getElem? (i := 98) (by decide +kernel)), rfl⟩
theorem tw100 : (Cond.lays RX0 RX0 "lastBlacks" "I") ∈ lwt := List.mem_filter.mpr ⟨List.mem_append_right _ (List.mem_of_getElem? (i := 100) (by decide +kernel)), rfl⟩
theorem tw102 : (Cond.lays RX0 RX0 "letIn" "Z") ∈ lwt := List.mem_filter.mpr ⟨List.mem_append_right _ (List.mem_of_getElem? (i := 102) (by decide +kernel)), rfl⟩
theorem tw105 : (Cond.classLink RX11 53 RX1) ∈ lwt := List.mem_filter.mpr ⟨List.mem_append_right _ (List.mem_of_getElem? (i := 105) (by decide +kernel)), rfl⟩
theorem tw106 : (Cond.instantiable RX1 5) ∈ lwt := List.mem_filter.mpr ⟨List.mem_append_right _ (List.mem_of_getElem? (i := 106) (by decide +kernel)), rfl⟩
theorem tn107 : (Cond.methodLinkNest RX11 55 yX1_init RX11) ∈ lw_tbl := List.mem_append_right _ (List.mem_of_getElem? (i := 107) (by decide +kernel))
theorem tw108 : (Cond.instanceMethod yX1_init) ∈ lwt := List.mem_filter.mpr ⟨List.mem_append_right _ (List.mem_of_getElem? (i := 108) (by decide +kernel)), rfl⟩
theorem tw109 : (Cond.code yX1_init cX1_init 1 (Option.none : Option FieldType)) ∈ lwt := List.mem_filter.mpr ⟨List.mem_append_right _ (List.mem_of_getElem? (i := 109) (by decide +kernel)), rfl⟩
theorem tw110 : (Cond.methodLink RX1 1 objectInit) ∈ lwt := List.mem_filter.mpr ⟨List.mem_append_right _ (List.mem_of_getElem? (i := 110) (by decide +kernel)), rfl⟩
theorem tw111 : (Cond.classLink RX1 13 RX0) ∈ lwt := List.mem_filter.mpr ⟨List.mem_append_right _ (List.mem_of_getElem? (i := 111) (by decide +kernel)), rfl⟩
theorem tn112 : (Cond.methodLinkNest RX1 15 yX0_init RX11) ∈ lw_tbl := List.mem_append_right _ (List.mem_of_getElem? (i := 112) (by decide +kernel))
theorem tw113 : (Cond.fieldLink RX1 9 RX1 "tastes" "[I") ∈ lwt := List.mem_filter.mpr ⟨List.mem_append_right _ (List.mem_of_getElem? (i := 113) (by decide +kernel)), rfl⟩
theorem tw114 : (Cond.fieldLink RX1 16 RX1 "ballot" "LBlackBalls$Ballot;") ∈ lwt := List.mem_filter.mpr ⟨List.mem_append_right _ (List.mem_of_getElem? (i := 114) (by decide +kernel)), rfl⟩
theorem tw115 : (Cond.fieldLink RX1 27 RX1 "size" "I") ∈ lwt := List.mem_filter.mpr ⟨List.mem_append_right _ (List.mem_of_getElem? (i := 115) (by decide +kernel)), rfl⟩
theorem tn116 : (Cond.fieldLinkNest RX11 276 RX1 "size" "I" RX11) ∈ lw_tbl := List.mem_append_right _ (List.mem_of_getElem? (i := 116) (by decide +kernel))
theorem tw117 : (Cond.fieldLink RX1 24 RX1 "letIn" "I") ∈ lwt := List.mem_filter.mpr ⟨List.mem_append_right _ (List.mem_of_getElem? (i := 117) (by decide +kernel)), rfl⟩
theorem tn118 : (Cond.fieldLinkNest RX11 282 RX1 "letIn" "I" RX11) ∈ lw_tbl := List.mem_append_right _ (List.mem_of_getElem? (i := 118) (by decide +kernel))
theorem tw119 : (Cond.fieldLink RX1 20 RX1 "seed" "I") ∈ lwt := List.mem_filter.mpr ⟨List.mem_append_right _ (List.mem_of_getElem? (i := 119) (by decide +kernel)), rfl⟩
theorem tn120 : (Cond.fieldLinkNest RX11 284 RX1 "seed" "I" RX11) ∈ lw_tbl := List.mem_append_right _ (List.mem_of_getElem? (i := 120) (by decide +kernel))
theorem tw121 : (Cond.laysFinal RX1 RX1 "tastes" "[I") ∈ lwt := List.mem_filter.mpr ⟨List.mem_append_right _ (List.mem_of_getElem? (i := 121) (by decide +kernel)), rfl⟩
theorem tw123 : (Cond.laysFinal RX1 RX1 "ballot" "LBlackBalls$Ballot;") ∈ lwt := List.mem_filter.mpr ⟨List.mem_append_right _ (List.mem_of_getElem? (i := 123) (by decide +kernel)), rfl⟩
theorem tw125 : (Cond.lays RX1 RX1 "size" "I") ∈ lwt := List.mem_filter.mpr ⟨List.mem_append_right _ (List.mem_of_getElem? (i := 125) (by decide +kernel)), rfl⟩
theorem tw127 : (Cond.lays RX1 RX1 "letIn" "I") ∈ lwt := List.mem_filter.mpr ⟨List.mem_append_right _ (List.mem_of_getElem? (i := 127) (by decide +kernel)), rfl⟩
theorem tw129 : (Cond.lays RX1 RX1 "seed" "I") ∈ lwt := List.mem_filter.mpr ⟨List.mem_append_right _ (List.mem_of_getElem? (i := 129) (by decide +kernel)), rfl⟩
theorem tw132 : (Cond.fieldLink RX11 12 RX11 "page" "LBlackBalls$Page;") ∈ lwt := List.mem_filter.mpr ⟨List.mem_append_right _ (List.mem_of_getElem? (i := 132) (by decide +kernel)), rfl⟩
theorem tw133 : (Cond.fieldLink RX11 18 RX11 "rules" "[LBlackBalls$Rule;") ∈ lwt := List.mem_filter.mpr ⟨List.mem_append_right _ (List.mem_of_getElem? (i := 133) (by decide +kernel)), rfl⟩
theorem tw134 : (Cond.fieldLink RX11 24 RX11 "people" "[LBlackBalls$Person;") ∈ lwt := List.mem_filter.mpr ⟨List.mem_append_right _ (List.mem_of_getElem? (i := 134) (by decide +kernel)), rfl⟩
theorem tw135 : (Cond.fieldLink RX11 28 RX11 "friends" "[I") ∈ lwt := List.mem_filter.mpr ⟨List.mem_append_right _ (List.mem_of_getElem? (i := 135) (by decide +kernel)), rfl⟩
theorem tw136 : (Cond.fieldLink RX11 35 RX11 "tally" "LBlackBalls$Tally;") ∈ lwt := List.mem_filter.mpr ⟨List.mem_append_right _ (List.mem_of_getElem? (i := 136) (by decide +kernel)), rfl⟩
theorem tw137 : (Cond.fieldLink RX11 42 RX11 "turnout" "LBlackBalls$Turnout;") ∈ lwt := List.mem_filter.mpr ⟨List.mem_append_right _ (List.mem_of_getElem? (i := 137) (by decide +kernel)), rfl⟩
theorem tw138 : (Cond.fieldLink RX11 49 RX11 "ballot" "LBlackBalls$Ballot;") ∈ lwt := List.mem_filter.mpr ⟨List.mem_append_right _ (List.mem_of_getElem? (i := 138) (by decide +kernel)), rfl⟩
theorem tw139 : (Cond.fieldLink RX11 56 RX11 "club" "LBlackBalls$Club;") ∈ lwt := List.mem_filter.mpr ⟨List.mem_append_right _ (List.mem_of_getElem? (i := 139) (by decide +kernel)), rfl⟩
theorem tw140 : (Cond.fieldLink RX11 60 RX11 "vetoRow" "[J") ∈ lwt := List.mem_filter.mpr ⟨List.mem_append_right _ (List.mem_of_getElem? (i := 140) (by decide +kernel)), rfl⟩
theorem tw141 : (Cond.fieldLink RX11 79 RX11 "ruleCount" "I") ∈ lwt := List.mem_filter.mpr ⟨List.mem_append_right _ (List.mem_of_getElem? (i := 141) (by decide +kernel)), rfl⟩
theorem tw142 : (Cond.fieldLink RX11 103 RX11 "peopleCount" "I") ∈ lwt := List.mem_filter.mpr ⟨List.mem_append_right _ (List.mem_of_getElem? (i := 142) (by decide +kernel)), rfl⟩
theorem tw143 : (Cond.fieldLink RX11 126 RX11 "candidateCount" "I") ∈ lwt := List.mem_filter.mpr ⟨List.mem_append_right _ (List.mem_of_getElem? (i := 143) (by decide +kernel)), rfl⟩
theorem tw144 : (Cond.fieldLink RX11 291 RX11 "imageKept" "Z") ∈ lwt := List.mem_filter.mpr ⟨List.mem_append_right _ (List.mem_of_getElem? (i := 144) (by decide +kernel)), rfl⟩
theorem tw145 : (Cond.laysFinal RX11 RX11 "page" "LBlackBalls$Page;") ∈ lwt := List.mem_filter.mpr ⟨List.mem_append_right _ (List.mem_of_getElem? (i := 145) (by decide +kernel)), rfl⟩
theorem tw147 : (Cond.laysFinal RX11 RX11 "rules" "[LBlackBalls$Rule;") ∈ lwt := List.mem_filter.mpr ⟨List.mem_append_right _ (List.mem_of_getElem? (i := 147) (by decide +kernel)), rfl⟩
theorem tw149 : (Cond.laysFinal RX11 RX11 "people" "[LBlackBalls$Person;") ∈ lwt := List.mem_filter.mpr ⟨List.mem_append_right _ (List.mem_of_getElem? (i := 149) (by decide +kernel)), rfl⟩
theorem tw151 : (Cond.laysFinal RX11 RX11 "friends" "[I") ∈ lwt := List.mem_filter.mpr ⟨List.mem_append_right _ (List.mem_of_getElem? (i := 151) (by decide +kernel)), rfl⟩
theorem tw153 : (Cond.laysFinal RX11 RX11 "tally" "LBlackBalls$Tally;") ∈ lwt := List.mem_filter.mpr ⟨List.mem_append_right _ (List.mem_of_getElem? (i := 153) (by decide +kernel)), rfl⟩
theorem tw155 : (Cond.laysFinal RX11 RX11 "turnout" "LBlackBalls$Turnout;") ∈ lwt := List.mem_filter.mpr ⟨List.mem_append_right _ (List.mem_of_getElem? (i := 155) (by decide +kernel)), rfl⟩
theorem tw157 : (Cond.laysFinal RX11 RX11 "ballot" "LBlackBalls$Ballot;") ∈ lwt := List.mem_filter.mpr ⟨List.mem_append_right _ (List.mem_of_getElem? (i := 157) (by decide +kernel)), rfl⟩
theorem tw159 : (Cond.laysFinal RX11 RX11 "club" "LBlackBalls$Club;") ∈ lwt := List.mem_filter.mpr ⟨List.mem_append_right _ (List.mem_of_getElem? (i := 159) (by decide +kernel)), rfl⟩
theorem tw161 : (Cond.laysFinal RX11 RX11 "vetoRow" "[J") ∈ lwt := List.mem_filter.mpr ⟨List.mem_append_right _ (List.mem_of_getElem? (i := 161) (by decide +kernel)), rfl⟩
theorem tw163 : (Cond.lays RX11 RX11 "ruleCount" "I") ∈ lwt := List.mem_filter.mpr ⟨List.mem_append_right _ (List.mem_of_getElem? (i := 163) (by decide +kernel)), rfl⟩
theorem tw165 : (Cond.lays RX11 RX11 "peopleCount" "I") ∈ lwt := List.mem_filter.mpr ⟨List.mem_append_right _ (List.mem_of_getElem? (i := 165) (by decide +kernel)), rfl⟩
theorem tw167 : (Cond.lays RX11 RX11 "candidateCount" "I") ∈ lwt := List.mem_filter.mpr ⟨List.mem_append_right _ (List.mem_of_getElem? (i := 167) (by decide +kernel)), rfl⟩
theorem tw169 : (Cond.lays RX11 RX11 "imageKept" "Z") ∈ lwt := List.mem_filter.mpr ⟨List.mem_append_right _ (List.mem_of_getElem? (i := 169) (by decide +kernel)), rfl⟩
theorem tw172 : (Cond.methodLink RL 15 yX11_letters) ∈ lwt := List.mem_filter.mpr ⟨List.mem_append_right _ (List.mem_of_getElem? (i := 172) (by decide +kernel)), rfl⟩
theorem tw173 : (Cond.instanceMethod yX11_letters) ∈ lwt := List.mem_filter.mpr ⟨List.mem_append_right _ (List.mem_of_getElem? (i := 173) (by decide +kernel)), rfl⟩
theorem tw174 : (Cond.selects RX11 yX11_letters yX11_letters) ∈ lwt := List.mem_filter.mpr ⟨List.mem_append_right _ (List.mem_of_getElem? (i := 174) (by decide +kernel)), rfl⟩
theorem tw175 : (Cond.code yX11_letters cX11_letters 3 (Option.some FieldType.int)) ∈ lwt := List.mem_filter.mpr ⟨List.mem_append_right _ (List.mem_of_getElem? (i := 175) (by decide +kernel)), rfl⟩
theorem tw176 : (Cond.methodLink RX11 64 yX4_write) ∈ lwt := List.mem_filter.mpr ⟨List.mem_append_right _ (List.mem_of_getElem? (i := 176) (by decide +kernel)), rfl⟩
theorem tw177 : (Cond.instanceMethod yX4_write) ∈ lwt := List.mem_filter.mpr ⟨List.mem_append_right _ (List.mem_of_getElem? (i := 177) (by decide +kernel)), rfl⟩
theorem tw178 : (Cond.selects RX4 yX4_write yX4_write) ∈ lwt := List.mem_filter.mpr ⟨List.mem_append_right _ (List.mem_of_getElem? (i := 178) (by decide +kernel)), rfl⟩
theorem tw179 : (Cond.code yX4_write cX4_write 5 (Option.some FieldType.int)) ∈ lwt := List.mem_filter.mpr ⟨List.mem_append_right _ (List.mem_of_getElem? (i := 179) (by decide +kernel)), rfl⟩
theorem tw180 : (Cond.methodLink RX4 15 yX4_howManyLetters) ∈ lwt := List.mem_filter.mpr ⟨List.mem_append_right _ (List.mem_of_getElem? (i := 180) (by decide +kernel)), rfl⟩
theorem tw181 : (Cond.static yX4_howManyLetters) ∈ lwt := List.mem_filter.mpr ⟨List.mem_append_right _ (List.mem_of_getElem? (i := 181) (by decide +kernel)), rfl⟩
theorem tw182 : (Cond.code yX4_howManyLetters cX4_howManyLetters 5 (Option.some FieldType.int)) ∈ lwt := List.mem_filter.mpr ⟨List.mem_append_right _ (List.mem_of_getElem? (i := 182) (by decide +kernel)), rfl⟩
theorem tw183 : (Cond.methodLink RX4 23 yX4_codeIn) ∈ lwt := List.mem_filter.mpr ⟨List.mem_append_right _ (List.mem_of_getElem? (i := 183) (by decide +kernel)), rfl⟩
theorem tw184 : (Cond.static yX4_codeIn) ∈ lwt := List.mem_filter.mpr ⟨List.mem_append_right _ (List.mem_of_getElem? (i := 184) (by decide +kernel)), rfl⟩
theorem tw185 : (Cond.code yX4_codeIn cX4_codeIn 3 (Option.some FieldType.int)) ∈ lwt := List.mem_filter.mpr ⟨List.mem_append_right _ (List.mem_of_getElem? (i := 185) (by decide +kernel)), rfl⟩
theorem tw186 : (Cond.constantLong RX4 52 (255 : Int64)) ∈ lwt := List.mem_filter.mpr ⟨List.mem_append_right _ (List.mem_of_getElem? (i := 186) (by decide +kernel)), rfl⟩
theorem tw187 : (Cond.methodLink RL 20 yX11_blank) ∈ lwt := List.mem_filter.mpr ⟨List.mem_append_right _ (List.mem_of_getElem? (i := 187) (by decide +kernel)), rfl⟩
theorem tw188 : (Cond.instanceMethod yX11_blank) ∈ lwt := List.mem_filter.mpr ⟨List.mem_append_right _ (List.mem_of_getElem? (i := 188) (by decide +kernel)), rfl⟩
theorem tw189 : (Cond.selects RX11 yX11_blank yX11_blank) ∈ lwt := List.mem_filter.mpr ⟨List.mem_append_right _ (List.mem_of_getElem? (i := 189) (by decide +kernel)), rfl⟩
theorem tw190 : (Cond.code yX11_blank cX11_blank 1 (Option.some FieldType.int)) ∈ lwt := List.mem_filter.mpr ⟨List.mem_append_right _ (List.mem_of_getElem? (i := 190) (by decide +kernel)), rfl⟩
theorem tw191 : (Cond.methodLink RX11 68 yX4_wipe) ∈ lwt := List.mem_filter.mpr ⟨List.mem_append_right _ (List.mem_of_getElem? (i := 191) (by decide +kernel)), rfl⟩
theorem tw192 : (Cond.instanceMethod yX4_wipe) ∈ lwt := List.mem_filter.mpr ⟨List.mem_append_right _ (List.mem_of_getElem? (i := 192) (by decide +kernel)), rfl⟩
theorem tw193 : (Cond.selects RX4 yX4_wipe yX4_wipe) ∈ lwt := List.mem_filter.mpr ⟨List.mem_append_right _ (List.mem_of_getElem? (i := 193) (by decide +kernel)), rfl⟩
theorem tw194 : (Cond.code yX4_wipe cX4_wipe 2 (Option.some FieldType.int)) ∈ lwt := List.mem_filter.mpr ⟨List.mem_append_right _ (List.mem_of_getElem? (i := 194) (by decide +kernel)), rfl⟩
theorem tw195 : (Cond.methodLink RL 25 yX11_fault) ∈ lwt := List.mem_filter.mpr ⟨List.mem_append_right _ (List.mem_of_getElem? (i := 195) (by decide +kernel)), rfl⟩
theorem tw196 : (Cond.instanceMethod yX11_fault) ∈ lwt := List.mem_filter.mpr ⟨List.mem_append_right _ (List.mem_of_getElem? (i := 196) (by decide +kernel)), rfl⟩
theorem tw197 : (Cond.selects RX11 yX11_fault yX11_fault) ∈ lwt := List.mem_filter.mpr ⟨List.mem_append_right _ (List.mem_of_getElem? (i := 197) (by decide +kernel)), rfl⟩
theorem tw198 : (Cond.code yX11_fault cX11_fault 1 (Option.some FieldType.int)) ∈ lwt := List.mem_filter.mpr ⟨List.mem_append_right _ (List.mem_of_getElem? (i := 198) (by decide +kernel)), rfl⟩
theorem tw199 : (Cond.methodLink RX11 72 yX4_firstFault) ∈ lwt := List.mem_filter.mpr ⟨List.mem_append_right _ (List.mem_of_getElem? (i := 199) (by decide +kernel)), rfl⟩
theorem tw200 : (Cond.instanceMethod yX4_firstFault) ∈ lwt := List.mem_filter.mpr ⟨List.mem_append_right _ (List.mem_of_getElem? (i := 200) (by decide +kernel)), rfl⟩
theorem tw201 : (Cond.selects RX4 yX4_firstFault yX4_firstFault) ∈ lwt := List.mem_filter.mpr ⟨List.mem_append_right _ (List.mem_of_getElem? (i := 201) (by decide +kernel)), rfl⟩
theorem tw202 : (Cond.code yX4_firstFault cX4_firstFault 3 (Option.some FieldType.int)) ∈ lwt := List.mem_filter.mpr ⟨List.mem_append_right _ (List.mem_of_getElem? (i := 202) (by decide +kernel)), rfl⟩
theorem tw203 : (Cond.methodLink RX4 27 yX4_dueBehind) ∈ lwt := List.mem_filter.mpr ⟨List.mem_append_right _ (List.mem_of_getElem? (i := 203) (by decide +kernel)), rfl⟩
theorem tw204 : (Cond.static yX4_dueBehind) ∈ lwt := List.mem_filter.mpr ⟨List.mem_append_right _ (List.mem_of_getElem? (i := 204) (by decide +kernel)), rfl⟩
theorem tw205 : (Cond.code yX4_dueBehind cX4_dueBehind 2 (Option.some FieldType.int)) ∈ lwt := List.mem_filter.mpr ⟨List.mem_append_right _ (List.mem_of_getElem? (i := 205) (by decide +kernel)), rfl⟩
theorem tn206 : (Cond.methodLinkNest RX4 54 yX11_within RX11) ∈ lw_tbl := List.mem_append_right _ (List.mem_of_getElem? (i := 206) (by decide +kernel))
theorem tw207 : (Cond.static yX11_within) ∈ lwt := List.mem_filter.mpr ⟨List.mem_append_right _ (List.mem_of_getElem? (i := 207) (by decide +kernel)), rfl⟩
theorem tw208 : (Cond.code yX11_within cX11_within 3 (Option.some FieldType.boolean)) ∈ lwt := List.mem_filter.mpr ⟨List.mem_append_right _ (List.mem_of_getElem? (i := 208) (by decide +kernel)), rfl⟩
theorem tw209 : (Cond.methodLink RX4 31 yX4_isCount) ∈ lwt := List.mem_filter.mpr ⟨List.mem_append_right _ (List.mem_of_getElem? (i := 209) (by decide +kernel)), rfl⟩
theorem tw210 : (Cond.static yX4_isCount) ∈ lwt := List.mem_filter.mpr ⟨List.mem_append_right _ (List.mem_of_getElem? (i := 210) (by decide +kernel)), rfl⟩
theorem tw211 : (Cond.code yX4_isCount cX4_isCount 1 (Option.some FieldType.boolean)) ∈ lwt := List.mem_filter.mpr ⟨List.mem_append_right _ (List.mem_of_getElem? (i := 211) (by decide +kernel)), rfl⟩
theorem tw212 : (Cond.methodLink RL 29 yX11_rule) ∈ lwt := List.mem_filter.mpr ⟨List.mem_append_right _ (List.mem_of_getElem? (i := 212) (by decide +kernel)), rfl⟩
theorem tw213 : (Cond.instanceMethod yX11_rule) ∈ lwt := List.mem_filter.mpr ⟨List.mem_append_right _ (List.mem_of_getElem? (i := 213) (by decide +kernel)), rfl⟩
theorem tw214 : (Cond.selects RX11 yX11_rule yX11_rule) ∈ lwt := List.mem_filter.mpr ⟨List.mem_append_right _ (List.mem_of_getElem? (i := 214) (by decide +kernel)), rfl⟩
theorem tw215 : (Cond.code yX11_rule cX11_rule 1 (Option.some FieldType.int)) ∈ lwt := List.mem_filter.mpr ⟨List.mem_append_right _ (List.mem_of_getElem? (i := 215) (by decide +kernel)), rfl⟩
theorem tw216 : (Cond.methodLink RX11 75 yX4_isRule) ∈ lwt := List.mem_filter.mpr ⟨List.mem_append_right _ (List.mem_of_getElem? (i := 216) (by decide +kernel)), rfl⟩
theorem tw217 : (Cond.instanceMethod yX4_isRule) ∈ lwt := List.mem_filter.mpr ⟨List.mem_append_right _ (List.mem_of_getElem? (i := 217) (by decide +kernel)), rfl⟩
theorem tw218 : (Cond.selects RX4 yX4_isRule yX4_isRule) ∈ lwt := List.mem_filter.mpr ⟨List.mem_append_right _ (List.mem_of_getElem? (i := 218) (by decide +kernel)), rfl⟩
theorem tw219 : (Cond.code yX4_isRule cX4_isRule 1 (Option.some FieldType.boolean)) ∈ lwt := List.mem_filter.mpr ⟨List.mem_append_right _ (List.mem_of_getElem? (i := 219) (by decide +kernel)), rfl⟩
theorem tw220 : (Cond.methodLink RX4 35 yX4_firstFault) ∈ lwt := List.mem_filter.mpr ⟨List.mem_append_right _ (List.mem_of_getElem? (i := 220) (by decide +kernel)), rfl⟩
theorem tw221 : (Cond.methodLink RX11 83 yX4_toRule) ∈ lwt := List.mem_filter.mpr ⟨List.mem_append_right _ (List.mem_of_getElem? (i := 221) (by decide +kernel)), rfl⟩
theorem tw222 : (Cond.instanceMethod yX4_toRule) ∈ lwt := List.mem_filter.mpr ⟨List.mem_append_right _ (List.mem_of_getElem? (i := 222) (by decide +kernel)), rfl⟩
theorem tw223 : (Cond.selects RX4 yX4_toRule yX4_toRule) ∈ lwt := List.mem_filter.mpr ⟨List.mem_append_right _ (List.mem_of_getElem? (i := 223) (by decide +kernel)), rfl⟩
theorem tw224 : (Cond.code yX4_toRule cX4_toRule 7 (Option.some (FieldType.object "BlackBalls$Rule"))) ∈ lwt := List.mem_filter.mpr ⟨List.mem_append_right _ (List.mem_of_getElem? (i := 224) (by decide +kernel)), rfl⟩
theorem tw225 : (Cond.methodLink RX4 39 yX4_codeAt) ∈ lwt := List.mem_filter.mpr ⟨List.mem_append_right _ (List.mem_of_getElem? (i := 225) (by decide +kernel)), rfl⟩
theorem tw227 : (Cond.instanceMethod yX4_codeAt) ∈ lwt := List.mem_filter.mpr ⟨List.mem_append_right _ (List.mem_of_getElem? (i := 227) (by decide +kernel)), rfl⟩
theorem tw228 : (Cond.code yX4_codeAt cX4_codeAt 2 (Option.some FieldType.int)) ∈ lwt := List.mem_filter.mpr ⟨List.mem_append_right _ (List.mem_of_getElem? (i := 228) (by decide +kernel)), rfl⟩
theorem tw229 : (Cond.classLink RX4 43 RX6) ∈ lwt := List.mem_filter.mpr ⟨List.mem_append_right _ (List.mem_of_getElem? (i := 229) (by decide +kernel)), rfl⟩
theorem tw230 : (Cond.instantiable RX6 5) ∈ lwt := List.mem_filter.mpr ⟨List.mem_append_right _ (List.mem_of_getElem? (i := 230) (by decide +kernel)), rfl⟩
theorem tw231 : (Cond.methodLink RX4 45 yX6_init) ∈ lwt := List.mem_filter.mpr ⟨List.mem_append_right _ (List.mem_of_getElem? (i := 231) (by decide +kernel)), rfl⟩
theorem tw232 : (Cond.instanceMethod yX6_init) ∈ lwt := List.mem_filter.mpr ⟨List.mem_append_right _ (List.mem_of_getElem? (i := 232) (by decide +kernel)), rfl⟩
theorem tw233 : (Cond.code yX6_init cX6_init 6 (Option.none : Option FieldType)) ∈ lwt := List.mem_filter.mpr ⟨List.mem_append_right _ (List.mem_of_getElem? (i := 233) (by decide +kernel)), rfl⟩
theorem tw234 : (Cond.methodLink RX6 1 objectInit) ∈ lwt := List.mem_filter.mpr ⟨List.mem_append_right _ (List.mem_of_getElem? (i := 234) (by decide +kernel)), rfl⟩
theorem tw235 : (Cond.fieldLink RX6 7 RX6 "blacks" "I") ∈ lwt := List.mem_filter.mpr ⟨List.mem_append_right _ (List.mem_of_getElem? (i := 235) (by decide +kernel)), rfl⟩
theorem tw236 : (Cond.fieldLink RX6 13 RX6 "ratio" "I") ∈ lwt := List.mem_filter.mpr ⟨List.mem_append_right _ (List.mem_of_getElem? (i := 236) (by decide +kernel)), rfl⟩
theorem tw237 : (Cond.fieldLink RX6 16 RX6 "quorum" "I") ∈ lwt := List.mem_filter.mpr ⟨List.mem_append_right _ (List.mem_of_getElem? (i := 237) (by decide +kernel)), rfl⟩
theorem tw238 : (Cond.fieldLink RX6 19 RX6 "twice" "Z") ∈ lwt := List.mem_filter.mpr ⟨List.mem_append_right _ (List.mem_of_getElem? (i := 238) (by decide +kernel)), rfl⟩
theorem tn239 : (Cond.fieldLinkNest RX0 38 RX6 "twice" "Z" RX11) ∈ lw_tbl := List.mem_append_right _ (List.mem_of_getElem? (i := 239) (by decide +kernel))
theorem tn240 : (Cond.fieldLinkNest RX11 194 RX6 "twice" "Z" RX11) ∈ lw_tbl := List.mem_append_right _ (List.mem_of_getElem? (i := 240) (by decide +kernel))
theorem tw241 : (Cond.fieldLink RX6 23 RX6 "countTold" "Z") ∈ lwt := List.mem_filter.mpr ⟨List.mem_append_right _ (List.mem_of_getElem? (i := 241) (by decide +kernel)), rfl⟩
theorem tn242 : (Cond.fieldLinkNest RX11 343 RX6 "countTold" "Z" RX11) ∈ lw_tbl := List.mem_append_right _ (List.mem_of_getElem? (i := 242) (by decide +kernel))
theorem tw243 : (Cond.laysFinal RX6 RX6 "blacks" "I") ∈ lwt := List.mem_filter.mpr ⟨List.mem_append_right _ (List.mem_of_getElem? (i := 243) (by decide +kernel)), rfl⟩
theorem tw245 : (Cond.laysFinal RX6 RX6 "ratio" "I") ∈ lwt := List.mem_filter.mpr ⟨List.mem_append_right _ (List.mem_of_getElem? (i := 245) (by decide +kernel)), rfl⟩
theorem tw247 : (Cond.laysFinal RX6 RX6 "quorum" "I") ∈ lwt := List.mem_filter.mpr ⟨List.mem_append_right _ (List.mem_of_getElem? (i := 247) (by decide +kernel)), rfl⟩
theorem tw249 : (Cond.laysFinal RX6 RX6 "twice" "Z") ∈ lwt := List.mem_filter.mpr ⟨List.mem_append_right _ (List.mem_of_getElem? (i := 249) (by decide +kernel)), rfl⟩
theorem tw251 : (Cond.laysFinal RX6 RX6 "countTold" "Z") ∈ lwt := List.mem_filter.mpr ⟨List.mem_append_right _ (List.mem_of_getElem? (i := 251) (by decide +kernel)), rfl⟩
theorem tw254 : (Cond.methodLink RL 33 yX11_ruleTold) ∈ lwt := List.mem_filter.mpr ⟨List.mem_append_right _ (List.mem_of_getElem? (i := 254) (by decide +kernel)), rfl⟩
theorem tw255 : (Cond.instanceMethod yX11_ruleTold) ∈ lwt := List.mem_filter.mpr ⟨List.mem_append_right _ (List.mem_of_getElem? (i := 255) (by decide +kernel)), rfl⟩
theorem tw256 : (Cond.selects RX11 yX11_ruleTold yX11_ruleTold) ∈ lwt := List.mem_filter.mpr ⟨List.mem_append_right _ (List.mem_of_getElem? (i := 256) (by decide +kernel)), rfl⟩
theorem tw257 : (Cond.code yX11_ruleTold cX11_ruleTold 4 (Option.some FieldType.int)) ∈ lwt := List.mem_filter.mpr ⟨List.mem_append_right _ (List.mem_of_getElem? (i := 257) (by decide +kernel)), rfl⟩
theorem tw258 : (Cond.methodLink RX11 87 yX11_ruleAt) ∈ lwt := List.mem_filter.mpr ⟨List.mem_append_right _ (List.mem_of_getElem? (i := 258) (by decide +kernel)), rfl⟩
theorem tw260 : (Cond.instanceMethod yX11_ruleAt) ∈ lwt := List.mem_filter.mpr ⟨List.mem_append_right _ (List.mem_of_getElem? (i := 260) (by decide +kernel)), rfl⟩
theorem tw261 : (Cond.code yX11_ruleAt cX11_ruleAt 2 (Option.some (FieldType.object "BlackBalls$Rule"))) ∈ lwt := List.mem_filter.mpr ⟨List.mem_append_right _ (List.mem_of_getElem? (i := 261) (by decide +kernel)), rfl⟩
theorem tw262 : (Cond.methodLink RX11 91 yX11_within) ∈ lwt := List.mem_filter.mpr ⟨List.mem_append_right _ (List.mem_of_getElem? (i := 262) (by decide +kernel)), rfl⟩
theorem tw263 : (Cond.methodLink RX11 95 yX6_told) ∈ lwt := List.mem_filter.mpr ⟨List.mem_append_right _ (List.mem_of_getElem? (i := 263) (by decide +kernel)), rfl⟩
theorem tw264 : (Cond.instanceMethod yX6_told) ∈ lwt := List.mem_filter.mpr ⟨List.mem_append_right _ (List.mem_of_getElem? (i := 264) (by decide +kernel)), rfl⟩
theorem tw265 : (Cond.selects RX6 yX6_told yX6_told) ∈ lwt := List.mem_filter.mpr ⟨List.mem_append_right _ (List.mem_of_getElem? (i := 265) (by decide +kernel)), rfl⟩
theorem tw266 : (Cond.code yX6_told cX6_told 2 (Option.some FieldType.int)) ∈ lwt := List.mem_filter.mpr ⟨List.mem_append_right _ (List.mem_of_getElem? (i := 266) (by decide +kernel)), rfl⟩
theorem tw267 : (Cond.methodLink RL 38 yX11_member) ∈ lwt := List.mem_filter.mpr ⟨List.mem_append_right _ (List.mem_of_getElem? (i := 267) (by decide +kernel)), rfl⟩
theorem tw268 : (Cond.instanceMethod yX11_member) ∈ lwt := List.mem_filter.mpr ⟨List.mem_append_right _ (List.mem_of_getElem? (i := 268) (by decide +kernel)), rfl⟩
theorem tw269 : (Cond.selects RX11 yX11_member yX11_member) ∈ lwt := List.mem_filter.mpr ⟨List.mem_append_right _ (List.mem_of_getElem? (i := 269) (by decide +kernel)), rfl⟩
theorem tw270 : (Cond.code yX11_member cX11_member 4 (Option.some FieldType.int)) ∈ lwt := List.mem_filter.mpr ⟨List.mem_append_right _ (List.mem_of_getElem? (i := 270) (by decide +kernel)), rfl⟩
theorem tw271 : (Cond.methodLink RX11 99 yX11_personAt) ∈ lwt := List.mem_filter.mpr ⟨List.mem_append_right _ (List.mem_of_getElem? (i := 271) (by decide +kernel)), rfl⟩
theorem tw273 : (Cond.instanceMethod yX11_personAt) ∈ lwt := List.mem_filter.mpr ⟨List.mem_append_right _ (List.mem_of_getElem? (i := 273) (by decide +kernel)), rfl⟩
theorem tw274 : (Cond.code yX11_personAt cX11_personAt 2 (Option.some (FieldType.object "BlackBalls$Person"))) ∈ lwt := List.mem_filter.mpr ⟨List.mem_append_right _ (List.mem_of_getElem? (i := 274) (by decide +kernel)), rfl⟩
theorem tw275 : (Cond.methodLink RX11 106 yX11_newPerson) ∈ lwt := List.mem_filter.mpr ⟨List.mem_append_right _ (List.mem_of_getElem? (i := 275) (by decide +kernel)), rfl⟩
theorem tw277 : (Cond.instanceMethod yX11_newPerson) ∈ lwt := List.mem_filter.mpr ⟨List.mem_append_right _ (List.mem_of_getElem? (i := 277) (by decide +kernel)), rfl⟩
theorem tw278 : (Cond.code yX11_newPerson cX11_newPerson 4 (Option.some (FieldType.object "BlackBalls$Person"))) ∈ lwt := List.mem_filter.mpr ⟨List.mem_append_right _ (List.mem_of_getElem? (i := 278) (by decide +kernel)), rfl⟩
theorem tw279 : (Cond.classLink RX11 324 RX2) ∈ lwt := List.mem_filter.mpr ⟨List.mem_append_right _ (List.mem_of_getElem? (i := 279) (by decide +kernel)), rfl⟩
theorem tw280 : (Cond.instantiable RX2 6) ∈ lwt := List.mem_filter.mpr ⟨List.mem_append_right _ (List.mem_of_getElem? (i := 280) (by decide +kernel)), rfl⟩
theorem tw281 : (Cond.methodLink RX11 326 yX2_init) ∈ lwt := List.mem_filter.mpr ⟨List.mem_append_right _ (List.mem_of_getElem? (i := 281) (by decide +kernel)), rfl⟩
theorem tw282 : (Cond.instanceMethod yX2_init) ∈ lwt := List.mem_filter.mpr ⟨List.mem_append_right _ (List.mem_of_getElem? (i := 282) (by decide +kernel)), rfl⟩
theorem tw283 : (Cond.code yX2_init cX2_init 3 (Option.none : Option FieldType)) ∈ lwt := List.mem_filter.mpr ⟨List.mem_append_right _ (List.mem_of_getElem? (i := 283) (by decide +kernel)), rfl⟩
theorem tw284 : (Cond.methodLink RX2 3 yX5_init) ∈ lwt := List.mem_filter.mpr ⟨List.mem_append_right _ (List.mem_of_getElem? (i := 284) (by decide +kernel)), rfl⟩
theorem tw285 : (Cond.instanceMethod yX5_init) ∈ lwt := List.mem_filter.mpr ⟨List.mem_append_right _ (List.mem_of_getElem? (i := 285) (by decide +kernel)), rfl⟩
theorem tw286 : (Cond.code yX5_init cX5_init 3 (Option.none : Option FieldType)) ∈ lwt := List.mem_filter.mpr ⟨List.mem_append_right _ (List.mem_of_getElem? (i := 286) (by decide +kernel)), rfl⟩
theorem tw287 : (Cond.methodLink RX5 3 objectInit) ∈ lwt := List.mem_filter.mpr ⟨List.mem_append_right _ (List.mem_of_getElem? (i := 287) (by decide +kernel)), rfl⟩
theorem tw288 : (Cond.fieldLink RX5 22 RX5 "number" "I") ∈ lwt := List.mem_filter.mpr ⟨List.mem_append_right _ (List.mem_of_getElem? (i := 288) (by decide +kernel)), rfl⟩
theorem tn289 : (Cond.fieldLinkNest RX11 114 RX5 "number" "I" RX11) ∈ lw_tbl := List.mem_append_right _ (List.mem_of_getElem? (i := 289) (by decide +kernel))
theorem tw290 : (Cond.fieldLink RX5 9 RX5 "mindsEach" "[I") ∈ lwt := List.mem_filter.mpr ⟨List.mem_append_right _ (List.mem_of_getElem? (i := 290) (by decide +kernel)), rfl⟩
theorem tw291 : (Cond.fieldLink RX5 15 RX5 "keptMinds" "[I") ∈ lwt := List.mem_filter.mpr ⟨List.mem_append_right _ (List.mem_of_getElem? (i := 291) (by decide +kernel)), rfl⟩
theorem tw292 : (Cond.fieldLink RX5 25 RX5 "comesTenths" "I") ∈ lwt := List.mem_filter.mpr ⟨List.mem_append_right _ (List.mem_of_getElem? (i := 292) (by decide +kernel)), rfl⟩
theorem tn293 : (Cond.fieldLinkNest RX11 123 RX5 "comesTenths" "I" RX11) ∈ lw_tbl := List.mem_append_right _ (List.mem_of_getElem? (i := 293) (by decide +kernel))
theorem tw294 : (Cond.fieldLink RX5 18 RX5 "keptComes" "I") ∈ lwt := List.mem_filter.mpr ⟨List.mem_append_right _ (List.mem_of_getElem? (i := 294) (by decide +kernel)), rfl⟩
theorem tw295 : (Cond.fieldLink RX5 42 RX5 "keptCandidates" "I") ∈ lwt := List.mem_filter.mpr ⟨List.mem_append_right _ (List.mem_of_getElem? (i := 295) (by decide +kernel)), rfl⟩
theorem tw296 : (Cond.laysFinal RX2 RX5 "number" "I") ∈ lwt := List.mem_filter.mpr ⟨List.mem_append_right _ (List.mem_of_getElem? (i := 296) (by decide +kernel)), rfl⟩
theorem tw298 : (Cond.laysFinal RX2 RX5 "mindsEach" "[I") ∈ lwt := List.mem_filter.mpr ⟨List.mem_append_right _ (List.mem_of_getElem? (i := 298) (by decide +kernel)), rfl⟩
theorem tw300 : (Cond.laysFinal RX2 RX5 "keptMinds" "[I") ∈ lwt := List.mem_filter.mpr ⟨List.mem_append_right _ (List.mem_of_getElem? (i := 300) (by decide +kernel)), rfl⟩
theorem tw302 : (Cond.lays RX2 RX5 "comesTenths" "I") ∈ lwt := List.mem_filter.mpr ⟨List.mem_append_right _ (List.mem_of_getElem? (i := 302) (by decide +kernel)), rfl⟩
theorem tw304 : (Cond.lays RX2 RX5 "keptComes" "I") ∈ lwt := List.mem_filter.mpr ⟨List.mem_append_right _ (List.mem_of_getElem? (i := 304) (by decide +kernel)), rfl⟩
theorem tw306 : (Cond.lays RX2 RX5 "keptCandidates" "I") ∈ lwt := List.mem_filter.mpr ⟨List.mem_append_right _ (List.mem_of_getElem? (i := 306) (by decide +kernel)), rfl⟩
theorem tw309 : (Cond.classLink RX11 328 RX3) ∈ lwt := List.mem_filter.mpr ⟨List.mem_append_right _ (List.mem_of_getElem? (i := 309) (by decide +kernel)), rfl⟩
theorem tw310 : (Cond.instantiable RX3 7) ∈ lwt := List.mem_filter.mpr ⟨List.mem_append_right _ (List.mem_of_getElem? (i := 310) (by decide +kernel)), rfl⟩
theorem tw311 : (Cond.methodLink RX11 330 yX3_init) ∈ lwt := List.mem_filter.mpr ⟨List.mem_append_right _ (List.mem_of_getElem? (i := 311) (by decide +kernel)), rfl⟩
theorem tw312 : (Cond.instanceMethod yX3_init) ∈ lwt := List.mem_filter.mpr ⟨List.mem_append_right _ (List.mem_of_getElem? (i := 312) (by decide +kernel)), rfl⟩
theorem tw313 : (Cond.code yX3_init cX3_init 4 (Option.none : Option FieldType)) ∈ lwt := List.mem_filter.mpr ⟨List.mem_append_right _ (List.mem_of_getElem? (i := 313) (by decide +kernel)), rfl⟩
theorem tw314 : (Cond.methodLink RX3 3 yX5_init) ∈ lwt := List.mem_filter.mpr ⟨List.mem_append_right _ (List.mem_of_getElem? (i := 314) (by decide +kernel)), rfl⟩
theorem tw315 : (Cond.fieldLink RX3 9 RX3 "slips" "I") ∈ lwt := List.mem_filter.mpr ⟨List.mem_append_right _ (List.mem_of_getElem? (i := 315) (by decide +kernel)), rfl⟩
theorem tw316 : (Cond.laysFinal RX3 RX3 "slips" "I") ∈ lwt := List.mem_filter.mpr ⟨List.mem_append_right _ (List.mem_of_getElem? (i := 316) (by decide +kernel)), rfl⟩
theorem tw318 : (Cond.laysFinal RX3 RX5 "number" "I") ∈ lwt := List.mem_filter.mpr ⟨List.mem_append_right _ (List.mem_of_getElem? (i := 318) (by decide +kernel)), rfl⟩
theorem tw319 : (Cond.laysFinal RX3 RX5 "mindsEach" "[I") ∈ lwt := List.mem_filter.mpr ⟨List.mem_append_right _ (List.mem_of_getElem? (i := 319) (by decide +kernel)), rfl⟩
theorem tw320 : (Cond.laysFinal RX3 RX5 "keptMinds" "[I") ∈ lwt := List.mem_filter.mpr ⟨List.mem_append_right _ (List.mem_of_getElem? (i := 320) (by decide +kernel)), rfl⟩
theorem tw321 : (Cond.lays RX3 RX5 "comesTenths" "I") ∈ lwt := List.mem_filter.mpr ⟨List.mem_append_right _ (List.mem_of_getElem? (i := 321) (by decide +kernel)), rfl⟩
theorem tw322 : (Cond.lays RX3 RX5 "keptComes" "I") ∈ lwt := List.mem_filter.mpr ⟨List.mem_append_right _ (List.mem_of_getElem? (i := 322) (by decide +kernel)), rfl⟩
theorem tw323 : (Cond.lays RX3 RX5 "keptCandidates" "I") ∈ lwt := List.mem_filter.mpr ⟨List.mem_append_right _ (List.mem_of_getElem? (i := 323) (by decide +kernel)), rfl⟩
theorem tw325 : (Cond.classLink RX11 333 RX10) ∈ lwt := List.mem_filter.mpr ⟨List.mem_append_right _ (List.mem_of_getElem? (i := 325) (by decide +kernel)), rfl⟩
theorem tw326 : (Cond.instantiable RX10 7) ∈ lwt := List.mem_filter.mpr ⟨List.mem_append_right _ (List.mem_of_getElem? (i := 326) (by decide +kernel)), rfl⟩
theorem tw327 : (Cond.methodLink RX11 335 yX10_init) ∈ lwt := List.mem_filter.mpr ⟨List.mem_append_right _ (List.mem_of_getElem? (i := 327) (by decide +kernel)), rfl⟩
theorem tw328 : (Cond.instanceMethod yX10_init) ∈ lwt := List.mem_filter.mpr ⟨List.mem_append_right _ (List.mem_of_getElem? (i := 328) (by decide +kernel)), rfl⟩
theorem tw329 : (Cond.code yX10_init cX10_init 4 (Option.none : Option FieldType)) ∈ lwt := List.mem_filter.mpr ⟨List.mem_append_right _ (List.mem_of_getElem? (i := 329) (by decide +kernel)), rfl⟩
theorem tw330 : (Cond.methodLink RX10 3 yX5_init) ∈ lwt := List.mem_filter.mpr ⟨List.mem_append_right _ (List.mem_of_getElem? (i := 330) (by decide +kernel)), rfl⟩
theorem tw331 : (Cond.fieldLink RX10 9 RX10 "other" "I") ∈ lwt := List.mem_filter.mpr ⟨List.mem_append_right _ (List.mem_of_getElem? (i := 331) (by decide +kernel)), rfl⟩
theorem tw332 : (Cond.laysFinal RX10 RX10 "other" "I") ∈ lwt := List.mem_filter.mpr ⟨List.mem_append_right _ (List.mem_of_getElem? (i := 332) (by decide +kernel)), rfl⟩
theorem tw334 : (Cond.laysFinal RX10 RX5 "number" "I") ∈ lwt := List.mem_filter.mpr ⟨List.mem_append_right _ (List.mem_of_getElem? (i := 334) (by decide +kernel)), rfl⟩
theorem tw335 : (Cond.laysFinal RX10 RX5 "mindsEach" "[I") ∈ lwt := List.mem_filter.mpr ⟨List.mem_append_right _ (List.mem_of_getElem? (i := 335) (by decide +kernel)), rfl⟩
theorem tw336 : (Cond.laysFinal RX10 RX5 "keptMinds" "[I") ∈ lwt := List.mem_filter.mpr ⟨List.mem_append_right _ (List.mem_of_getElem? (i := 336) (by decide +kernel)), rfl⟩
theorem tw337 : (Cond.lays RX10 RX5 "comesTenths" "I") ∈ lwt := List.mem_filter.mpr ⟨List.mem_append_right _ (List.mem_of_getElem? (i := 337) (by decide +kernel)), rfl⟩
theorem tw338 : (Cond.lays RX10 RX5 "keptComes" "I") ∈ lwt := List.mem_filter.mpr ⟨List.mem_append_right _ (List.mem_of_getElem? (i := 338) (by decide +kernel)), rfl⟩
theorem tw339 : (Cond.lays RX10 RX5 "keptCandidates" "I") ∈ lwt := List.mem_filter.mpr ⟨List.mem_append_right _ (List.mem_of_getElem? (i := 339) (by decide +kernel)), rfl⟩
theorem tw341 : (Cond.classLink RX11 336 RX8) ∈ lwt := List.mem_filter.mpr ⟨List.mem_append_right _ (List.mem_of_getElem? (i := 341) (by decide +kernel)), rfl⟩
theorem tw342 : (Cond.instantiable RX8 7) ∈ lwt := List.mem_filter.mpr ⟨List.mem_append_right _ (List.mem_of_getElem? (i := 342) (by decide +kernel)), rfl⟩
theorem tw343 : (Cond.methodLink RX11 338 yX8_init) ∈ lwt := List.mem_filter.mpr ⟨List.mem_append_right _ (List.mem_of_getElem? (i := 343) (by decide +kernel)), rfl⟩
theorem tw344 : (Cond.instanceMethod yX8_init) ∈ lwt := List.mem_filter.mpr ⟨List.mem_append_right _ (List.mem_of_getElem? (i := 344) (by decide +kernel)), rfl⟩
theorem tw345 : (Cond.code yX8_init cX8_init 4 (Option.none : Option FieldType)) ∈ lwt := List.mem_filter.mpr ⟨List.mem_append_right _ (List.mem_of_getElem? (i := 345) (by decide +kernel)), rfl⟩
theorem tw346 : (Cond.methodLink RX8 3 yX10_init) ∈ lwt := List.mem_filter.mpr ⟨List.mem_append_right _ (List.mem_of_getElem? (i := 346) (by decide +kernel)), rfl⟩
theorem tw347 : (Cond.laysFinal RX8 RX10 "other" "I") ∈ lwt := List.mem_filter.mpr ⟨List.mem_append_right _ (List.mem_of_getElem? (i := 347) (by decide +kernel)), rfl⟩
theorem tw348 : (Cond.laysFinal RX8 RX5 "number" "I") ∈ lwt := List.mem_filter.mpr ⟨List.mem_append_right _ (List.mem_of_getElem? (i := 348) (by decide +kernel)), rfl⟩
theorem tw349 : (Cond.laysFinal RX8 RX5 "mindsEach" "[I") ∈ lwt := List.mem_filter.mpr ⟨List.mem_append_right _ (List.mem_of_getElem? (i := 349) (by decide +kernel)), rfl⟩
theorem tw350 : (Cond.laysFinal RX8 RX5 "keptMinds" "[I") ∈ lwt := List.mem_filter.mpr ⟨List.mem_append_right _ (List.mem_of_getElem? (i := 350) (by decide +kernel)), rfl⟩
theorem tw351 : (Cond.lays RX8 RX5 "comesTenths" "I") ∈ lwt := List.mem_filter.mpr ⟨List.mem_append_right _ (List.mem_of_getElem? (i := 351) (by decide +kernel)), rfl⟩
theorem tw352 : (Cond.lays RX8 RX5 "keptComes" "I") ∈ lwt := List.mem_filter.mpr ⟨List.mem_append_right _ (List.mem_of_getElem? (i := 352) (by decide +kernel)), rfl⟩
theorem tw353 : (Cond.lays RX8 RX5 "keptCandidates" "I") ∈ lwt := List.mem_filter.mpr ⟨List.mem_append_right _ (List.mem_of_getElem? (i := 353) (by decide +kernel)), rfl⟩
theorem tw355 : (Cond.instantiable RX5 6) ∈ lwt := List.mem_filter.mpr ⟨List.mem_append_right _ (List.mem_of_getElem? (i := 355) (by decide +kernel)), rfl⟩
theorem tw356 : (Cond.methodLink RX11 339 yX5_init) ∈ lwt := List.mem_filter.mpr ⟨List.mem_append_right _ (List.mem_of_getElem? (i := 356) (by decide +kernel)), rfl⟩
theorem tw357 : (Cond.laysFinal RX5 RX5 "number" "I") ∈ lwt := List.mem_filter.mpr ⟨List.mem_append_right _ (List.mem_of_getElem? (i := 357) (by decide +kernel)), rfl⟩
theorem tw358 : (Cond.laysFinal RX5 RX5 "mindsEach" "[I") ∈ lwt := List.mem_filter.mpr ⟨List.mem_append_right _ (List.mem_of_getElem? (i := 358) (by decide +kernel)), rfl⟩
theorem tw359 : (Cond.laysFinal RX5 RX5 "keptMinds" "[I") ∈ lwt := List.mem_filter.mpr ⟨List.mem_append_right _ (List.mem_of_getElem? (i := 359) (by decide +kernel)), rfl⟩
theorem tw360 : (Cond.lays RX5 RX5 "comesTenths" "I") ∈ lwt := List.mem_filter.mpr ⟨List.mem_append_right _ (List.mem_of_getElem? (i := 360) (by decide +kernel)), rfl⟩
theorem tw361 : (Cond.lays RX5 RX5 "keptComes" "I") ∈ lwt := List.mem_filter.mpr ⟨List.mem_append_right _ (List.mem_of_getElem? (i := 361) (by decide +kernel)), rfl⟩
theorem tw362 : (Cond.lays RX5 RX5 "keptCandidates" "I") ∈ lwt := List.mem_filter.mpr ⟨List.mem_append_right _ (List.mem_of_getElem? (i := 362) (by decide +kernel)), rfl⟩
theorem tw364 : (Cond.methodLink RL 43 yX11_as) ∈ lwt := List.mem_filter.mpr ⟨List.mem_append_right _ (List.mem_of_getElem? (i := 364) (by decide +kernel)), rfl⟩
theorem tw365 : (Cond.instanceMethod yX11_as) ∈ lwt := List.mem_filter.mpr ⟨List.mem_append_right _ (List.mem_of_getElem? (i := 365) (by decide +kernel)), rfl⟩
theorem tw366 : (Cond.selects RX11 yX11_as yX11_as) ∈ lwt := List.mem_filter.mpr ⟨List.mem_append_right _ (List.mem_of_getElem? (i := 366) (by decide +kernel)), rfl⟩
theorem tw367 : (Cond.code yX11_as cX11_as 4 (Option.some FieldType.int)) ∈ lwt := List.mem_filter.mpr ⟨List.mem_append_right _ (List.mem_of_getElem? (i := 367) (by decide +kernel)), rfl⟩
theorem tw368 : (Cond.methodLink RX11 110 yX11_isSuch) ∈ lwt := List.mem_filter.mpr ⟨List.mem_append_right _ (List.mem_of_getElem? (i := 368) (by decide +kernel)), rfl⟩
theorem tw369 : (Cond.static yX11_isSuch) ∈ lwt := List.mem_filter.mpr ⟨List.mem_append_right _ (List.mem_of_getElem? (i := 369) (by decide +kernel)), rfl⟩
theorem tw370 : (Cond.code yX11_isSuch cX11_isSuch 2 (Option.some FieldType.boolean)) ∈ lwt := List.mem_filter.mpr ⟨List.mem_append_right _ (List.mem_of_getElem? (i := 370) (by decide +kernel)), rfl⟩
theorem tw371 : (Cond.methodLink RL 47 yX11_about) ∈ lwt := List.mem_filter.mpr ⟨List.mem_append_right _ (List.mem_of_getElem? (i := 371) (by decide +kernel)), rfl⟩
theorem tw372 : (Cond.instanceMethod yX11_about) ∈ lwt := List.mem_filter.mpr ⟨List.mem_append_right _ (List.mem_of_getElem? (i := 372) (by decide +kernel)), rfl⟩
theorem tw373 : (Cond.selects RX11 yX11_about yX11_about) ∈ lwt := List.mem_filter.mpr ⟨List.mem_append_right _ (List.mem_of_getElem? (i := 373) (by decide +kernel)), rfl⟩
theorem tw374 : (Cond.code yX11_about cX11_about 4 (Option.some FieldType.int)) ∈ lwt := List.mem_filter.mpr ⟨List.mem_append_right _ (List.mem_of_getElem? (i := 374) (by decide +kernel)), rfl⟩
theorem tw375 : (Cond.methodLink RX11 117 yX5_kind) ∈ lwt := List.mem_filter.mpr ⟨List.mem_append_right _ (List.mem_of_getElem? (i := 375) (by decide +kernel)), rfl⟩
theorem tw376 : (Cond.instanceMethod yX5_kind) ∈ lwt := List.mem_filter.mpr ⟨List.mem_append_right _ (List.mem_of_getElem? (i := 376) (by decide +kernel)), rfl⟩
theorem tw377 : (Cond.selects RX5 yX5_kind yX5_kind) ∈ lwt := List.mem_filter.mpr ⟨List.mem_append_right _ (List.mem_of_getElem? (i := 377) (by decide +kernel)), rfl⟩
theorem tw378 : (Cond.sameMethod RX5 RX5 "kind" "()I") ∈ lwt := List.mem_filter.mpr ⟨List.mem_append_right _ (List.mem_of_getElem? (i := 378) (by decide +kernel)), rfl⟩
theorem tw379 : (Cond.selects RX2 yX5_kind yX2_kind) ∈ lwt := List.mem_filter.mpr ⟨List.mem_append_right _ (List.mem_of_getElem? (i := 379) (by decide +kernel)), rfl⟩
theorem tw380 : (Cond.instanceMethod yX2_kind) ∈ lwt := List.mem_filter.mpr ⟨List.mem_append_right _ (List.mem_of_getElem? (i := 380) (by decide +kernel)), rfl⟩
theorem tw381 : (Cond.code yX2_kind cX2_kind 1 (Option.some FieldType.int)) ∈ lwt := List.mem_filter.mpr ⟨List.mem_append_right _ (List.mem_of_getElem? (i := 381) (by decide +kernel)), rfl⟩
theorem tw382 : (Cond.selects RX3 yX5_kind yX3_kind) ∈ lwt := List.mem_filter.mpr ⟨List.mem_append_right _ (List.mem_of_getElem? (i := 382) (by decide +kernel)), rfl⟩
theorem tw383 : (Cond.instanceMethod yX3_kind) ∈ lwt := List.mem_filter.mpr ⟨List.mem_append_right _ (List.mem_of_getElem? (i := 383) (by decide +kernel)), rfl⟩
theorem tw384 : (Cond.code yX3_kind cX3_kind 1 (Option.some FieldType.int)) ∈ lwt := List.mem_filter.mpr ⟨List.mem_append_right _ (List.mem_of_getElem? (i := 384) (by decide +kernel)), rfl⟩
theorem tw385 : (Cond.selects RX8 yX5_kind yX8_kind) ∈ lwt := List.mem_filter.mpr ⟨List.mem_append_right _ (List.mem_of_getElem? (i := 385) (by decide +kernel)), rfl⟩
theorem tw386 : (Cond.instanceMethod yX8_kind) ∈ lwt := List.mem_filter.mpr ⟨List.mem_append_right _ (List.mem_of_getElem? (i := 386) (by decide +kernel)), rfl⟩
theorem tw387 : (Cond.code yX8_kind cX8_kind 1 (Option.some FieldType.int)) ∈ lwt := List.mem_filter.mpr ⟨List.mem_append_right _ (List.mem_of_getElem? (i := 387) (by decide +kernel)), rfl⟩
theorem tw388 : (Cond.selects RX10 yX5_kind yX10_kind) ∈ lwt := List.mem_filter.mpr ⟨List.mem_append_right _ (List.mem_of_getElem? (i := 388) (by decide +kernel)), rfl⟩
theorem tw389 : (Cond.instanceMethod yX10_kind) ∈ lwt := List.mem_filter.mpr ⟨List.mem_append_right _ (List.mem_of_getElem? (i := 389) (by decide +kernel)), rfl⟩
theorem tw390 : (Cond.code yX10_kind cX10_kind 1 (Option.some FieldType.int)) ∈ lwt := List.mem_filter.mpr ⟨List.mem_append_right _ (List.mem_of_getElem? (i := 390) (by decide +kernel)), rfl⟩
theorem tw391 : (Cond.code yX5_kind cX5_kind 1 (Option.some FieldType.int)) ∈ lwt := List.mem_filter.mpr ⟨List.mem_append_right _ (List.mem_of_getElem? (i := 391) (by decide +kernel)), rfl⟩
theorem tw392 : (Cond.methodLink RX11 120 yX5_n) ∈ lwt := List.mem_filter.mpr ⟨List.mem_append_right _ (List.mem_of_getElem? (i := 392) (by decide +kernel)), rfl⟩
theorem tw393 : (Cond.instanceMethod yX5_n) ∈ lwt := List.mem_filter.mpr ⟨List.mem_append_right _ (List.mem_of_getElem? (i := 393) (by decide +kernel)), rfl⟩
theorem tw394 : (Cond.selects RX5 yX5_n yX5_n) ∈ lwt := List.mem_filter.mpr ⟨List.mem_append_right _ (List.mem_of_getElem? (i := 394) (by decide +kernel)), rfl⟩
theorem tw395 : (Cond.sameMethod RX5 RX5 "n" "()I") ∈ lwt := List.mem_filter.mpr ⟨List.mem_append_right _ (List.mem_of_getElem? (i := 395) (by decide +kernel)), rfl⟩
theorem tw396 : (Cond.selects RX2 yX5_n yX5_n) ∈ lwt := List.mem_filter.mpr ⟨List.mem_append_right _ (List.mem_of_getElem? (i := 396) (by decide +kernel)), rfl⟩
theorem tw397 : (Cond.selects RX3 yX5_n yX3_n) ∈ lwt := List.mem_filter.mpr ⟨List.mem_append_right _ (List.mem_of_getElem? (i := 397) (by decide +kernel)), rfl⟩
theorem tw398 : (Cond.instanceMethod yX3_n) ∈ lwt := List.mem_filter.mpr ⟨List.mem_append_right _ (List.mem_of_getElem? (i := 398) (by decide +kernel)), rfl⟩
theorem tw399 : (Cond.code yX3_n cX3_n 1 (Option.some FieldType.int)) ∈ lwt := List.mem_filter.mpr ⟨List.mem_append_right _ (List.mem_of_getElem? (i := 399) (by decide +kernel)), rfl⟩
theorem tw400 : (Cond.selects RX8 yX5_n yX10_n) ∈ lwt := List.mem_filter.mpr ⟨List.mem_append_right _ (List.mem_of_getElem? (i := 400) (by decide +kernel)), rfl⟩
theorem tw401 : (Cond.instanceMethod yX10_n) ∈ lwt := List.mem_filter.mpr ⟨List.mem_append_right _ (List.mem_of_getElem? (i := 401) (by decide +kernel)), rfl⟩
theorem tw402 : (Cond.code yX10_n cX10_n 1 (Option.some FieldType.int)) ∈ lwt := List.mem_filter.mpr ⟨List.mem_append_right _ (List.mem_of_getElem? (i := 402) (by decide +kernel)), rfl⟩
theorem tw403 : (Cond.selects RX10 yX5_n yX10_n) ∈ lwt := List.mem_filter.mpr ⟨List.mem_append_right _ (List.mem_of_getElem? (i := 403) (by decide +kernel)), rfl⟩
theorem tw404 : (Cond.code yX5_n cX5_n 1 (Option.some FieldType.int)) ∈ lwt := List.mem_filter.mpr ⟨List.mem_append_right _ (List.mem_of_getElem? (i := 404) (by decide +kernel)), rfl⟩
theorem tw405 : (Cond.methodLink RL 51 yX11_comes) ∈ lwt := List.mem_filter.mpr ⟨List.mem_append_right _ (List.mem_of_getElem? (i := 405) (by decide +kernel)), rfl⟩
theorem tw406 : (Cond.instanceMethod yX11_comes) ∈ lwt := List.mem_filter.mpr ⟨List.mem_append_right _ (List.mem_of_getElem? (i := 406) (by decide +kernel)), rfl⟩
theorem tw407 : (Cond.selects RX11 yX11_comes yX11_comes) ∈ lwt := List.mem_filter.mpr ⟨List.mem_append_right _ (List.mem_of_getElem? (i := 407) (by decide +kernel)), rfl⟩
theorem tw408 : (Cond.code yX11_comes cX11_comes 5 (Option.some FieldType.int)) ∈ lwt := List.mem_filter.mpr ⟨List.mem_append_right _ (List.mem_of_getElem? (i := 408) (by decide +kernel)), rfl⟩
theorem tw409 : (Cond.methodLink RL 55 yX11_candidate) ∈ lwt := List.mem_filter.mpr ⟨List.mem_append_right _ (List.mem_of_getElem? (i := 409) (by decide +kernel)), rfl⟩
theorem tw410 : (Cond.instanceMethod yX11_candidate) ∈ lwt := List.mem_filter.mpr ⟨List.mem_append_right _ (List.mem_of_getElem? (i := 410) (by decide +kernel)), rfl⟩
theorem tw411 : (Cond.selects RX11 yX11_candidate yX11_candidate) ∈ lwt := List.mem_filter.mpr ⟨List.mem_append_right _ (List.mem_of_getElem? (i := 411) (by decide +kernel)), rfl⟩
theorem tw412 : (Cond.code yX11_candidate cX11_candidate 2 (Option.some FieldType.int)) ∈ lwt := List.mem_filter.mpr ⟨List.mem_append_right _ (List.mem_of_getElem? (i := 412) (by decide +kernel)), rfl⟩
theorem tw413 : (Cond.methodLink RL 60 yX11_minds) ∈ lwt := List.mem_filter.mpr ⟨List.mem_append_right _ (List.mem_of_getElem? (i := 413) (by decide +kernel)), rfl⟩
theorem tw414 : (Cond.instanceMethod yX11_minds) ∈ lwt := List.mem_filter.mpr ⟨List.mem_append_right _ (List.mem_of_getElem? (i := 414) (by decide +kernel)), rfl⟩
theorem tw415 : (Cond.selects RX11 yX11_minds yX11_minds) ∈ lwt := List.mem_filter.mpr ⟨List.mem_append_right _ (List.mem_of_getElem? (i := 415) (by decide +kernel)), rfl⟩
theorem tw416 : (Cond.code yX11_minds cX11_minds 6 (Option.some FieldType.int)) ∈ lwt := List.mem_filter.mpr ⟨List.mem_append_right _ (List.mem_of_getElem? (i := 416) (by decide +kernel)), rfl⟩
theorem tw417 : (Cond.methodLink RX11 129 yX11_isCandidate) ∈ lwt := List.mem_filter.mpr ⟨List.mem_append_right _ (List.mem_of_getElem? (i := 417) (by decide +kernel)), rfl⟩
theorem tw419 : (Cond.instanceMethod yX11_isCandidate) ∈ lwt := List.mem_filter.mpr ⟨List.mem_append_right _ (List.mem_of_getElem? (i := 419) (by decide +kernel)), rfl⟩
theorem tw420 : (Cond.code yX11_isCandidate cX11_isCandidate 2 (Option.some FieldType.boolean)) ∈ lwt := List.mem_filter.mpr ⟨List.mem_append_right _ (List.mem_of_getElem? (i := 420) (by decide +kernel)), rfl⟩
theorem tw421 : (Cond.methodLink RX11 133 yX5_mindsOf) ∈ lwt := List.mem_filter.mpr ⟨List.mem_append_right _ (List.mem_of_getElem? (i := 421) (by decide +kernel)), rfl⟩
theorem tw422 : (Cond.instanceMethod yX5_mindsOf) ∈ lwt := List.mem_filter.mpr ⟨List.mem_append_right _ (List.mem_of_getElem? (i := 422) (by decide +kernel)), rfl⟩
theorem tw423 : (Cond.selects RX5 yX5_mindsOf yX5_mindsOf) ∈ lwt := List.mem_filter.mpr ⟨List.mem_append_right _ (List.mem_of_getElem? (i := 423) (by decide +kernel)), rfl⟩
theorem tw424 : (Cond.sameMethod RX5 RX5 "mindsOf" "(I)I") ∈ lwt := List.mem_filter.mpr ⟨List.mem_append_right _ (List.mem_of_getElem? (i := 424) (by decide +kernel)), rfl⟩
theorem tw425 : (Cond.selects RX2 yX5_mindsOf yX5_mindsOf) ∈ lwt := List.mem_filter.mpr ⟨List.mem_append_right _ (List.mem_of_getElem? (i := 425) (by decide +kernel)), rfl⟩
theorem tw426 : (Cond.selects RX3 yX5_mindsOf yX5_mindsOf) ∈ lwt := List.mem_filter.mpr ⟨List.mem_append_right _ (List.mem_of_getElem? (i := 426) (by decide +kernel)), rfl⟩
theorem tw427 : (Cond.selects RX8 yX5_mindsOf yX5_mindsOf) ∈ lwt := List.mem_filter.mpr ⟨List.mem_append_right _ (List.mem_of_getElem? (i := 427) (by decide +kernel)), rfl⟩
theorem tw428 : (Cond.selects RX10 yX5_mindsOf yX5_mindsOf) ∈ lwt := List.mem_filter.mpr ⟨List.mem_append_right _ (List.mem_of_getElem? (i := 428) (by decide +kernel)), rfl⟩
theorem tw429 : (Cond.code yX5_mindsOf cX5_mindsOf 2 (Option.some FieldType.int)) ∈ lwt := List.mem_filter.mpr ⟨List.mem_append_right _ (List.mem_of_getElem? (i := 429) (by decide +kernel)), rfl⟩
theorem tw430 : (Cond.methodLink RX11 136 yX5_mindFrom) ∈ lwt := List.mem_filter.mpr ⟨List.mem_append_right _ (List.mem_of_getElem? (i := 430) (by decide +kernel)), rfl⟩
theorem tw431 : (Cond.instanceMethod yX5_mindFrom) ∈ lwt := List.mem_filter.mpr ⟨List.mem_append_right _ (List.mem_of_getElem? (i := 431) (by decide +kernel)), rfl⟩
theorem tw432 : (Cond.selects RX5 yX5_mindFrom yX5_mindFrom) ∈ lwt := List.mem_filter.mpr ⟨List.mem_append_right _ (List.mem_of_getElem? (i := 432) (by decide +kernel)), rfl⟩
theorem tw433 : (Cond.sameMethod RX5 RX5 "mindFrom" "(II)V") ∈ lwt := List.mem_filter.mpr ⟨List.mem_append_right _ (List.mem_of_getElem? (i := 433) (by decide +kernel)), rfl⟩
theorem tw434 : (Cond.selects RX2 yX5_mindFrom yX5_mindFrom) ∈ lwt := List.mem_filter.mpr ⟨List.mem_append_right _ (List.mem_of_getElem? (i := 434) (by decide +kernel)), rfl⟩
theorem tw435 : (Cond.selects RX3 yX5_mindFrom yX5_mindFrom) ∈ lwt := List.mem_filter.mpr ⟨List.mem_append_right _ (List.mem_of_getElem? (i := 435) (by decide +kernel)), rfl⟩
theorem tw436 : (Cond.selects RX8 yX5_mindFrom yX5_mindFrom) ∈ lwt := List.mem_filter.mpr ⟨List.mem_append_right _ (List.mem_of_getElem? (i := 436) (by decide +kernel)), rfl⟩
theorem tw437 : (Cond.selects RX10 yX5_mindFrom yX5_mindFrom) ∈ lwt := List.mem_filter.mpr ⟨List.mem_append_right _ (List.mem_of_getElem? (i := 437) (by decide +kernel)), rfl⟩
theorem tw438 : (Cond.code yX5_mindFrom cX5_mindFrom 3 (Option.none : Option FieldType)) ∈ lwt := List.mem_filter.mpr ⟨List.mem_append_right _ (List.mem_of_getElem? (i := 438) (by decide +kernel)), rfl⟩
theorem tw439 : (Cond.methodLink RL 64 yX11_friend) ∈ lwt := List.mem_filter.mpr ⟨List.mem_append_right _ (List.mem_of_getElem? (i := 439) (by decide +kernel)), rfl⟩
theorem tw440 : (Cond.instanceMethod yX11_friend) ∈ lwt := List.mem_filter.mpr ⟨List.mem_append_right _ (List.mem_of_getElem? (i := 440) (by decide +kernel)), rfl⟩
theorem tw441 : (Cond.selects RX11 yX11_friend yX11_friend) ∈ lwt := List.mem_filter.mpr ⟨List.mem_append_right _ (List.mem_of_getElem? (i := 441) (by decide +kernel)), rfl⟩
theorem tw442 : (Cond.code yX11_friend cX11_friend 3 (Option.some FieldType.int)) ∈ lwt := List.mem_filter.mpr ⟨List.mem_append_right _ (List.mem_of_getElem? (i := 442) (by decide +kernel)), rfl⟩
theorem tw443 : (Cond.methodLink RX11 140 yX11_friendOf) ∈ lwt := List.mem_filter.mpr ⟨List.mem_append_right _ (List.mem_of_getElem? (i := 443) (by decide +kernel)), rfl⟩
theorem tw445 : (Cond.instanceMethod yX11_friendOf) ∈ lwt := List.mem_filter.mpr ⟨List.mem_append_right _ (List.mem_of_getElem? (i := 445) (by decide +kernel)), rfl⟩
theorem tw446 : (Cond.code yX11_friendOf cX11_friendOf 2 (Option.some FieldType.int)) ∈ lwt := List.mem_filter.mpr ⟨List.mem_append_right _ (List.mem_of_getElem? (i := 446) (by decide +kernel)), rfl⟩
theorem tw447 : (Cond.methodLink RX11 143 yX11_isMinded) ∈ lwt := List.mem_filter.mpr ⟨List.mem_append_right _ (List.mem_of_getElem? (i := 447) (by decide +kernel)), rfl⟩
theorem tw449 : (Cond.instanceMethod yX11_isMinded) ∈ lwt := List.mem_filter.mpr ⟨List.mem_append_right _ (List.mem_of_getElem? (i := 449) (by decide +kernel)), rfl⟩
theorem tw450 : (Cond.code yX11_isMinded cX11_isMinded 2 (Option.some FieldType.boolean)) ∈ lwt := List.mem_filter.mpr ⟨List.mem_append_right _ (List.mem_of_getElem? (i := 450) (by decide +kernel)), rfl⟩
theorem tw451 : (Cond.methodLink RX11 146 yX11_howManyMindMuch) ∈ lwt := List.mem_filter.mpr ⟨List.mem_append_right _ (List.mem_of_getElem? (i := 451) (by decide +kernel)), rfl⟩
theorem tw453 : (Cond.instanceMethod yX11_howManyMindMuch) ∈ lwt := List.mem_filter.mpr ⟨List.mem_append_right _ (List.mem_of_getElem? (i := 453) (by decide +kernel)), rfl⟩
theorem tw454 : (Cond.code yX11_howManyMindMuch cX11_howManyMindMuch 4 (Option.some FieldType.int)) ∈ lwt := List.mem_filter.mpr ⟨List.mem_append_right _ (List.mem_of_getElem? (i := 454) (by decide +kernel)), rfl⟩
theorem tw455 : (Cond.methodLink RX11 340 yX5_mindsMuch) ∈ lwt := List.mem_filter.mpr ⟨List.mem_append_right _ (List.mem_of_getElem? (i := 455) (by decide +kernel)), rfl⟩
theorem tw456 : (Cond.instanceMethod yX5_mindsMuch) ∈ lwt := List.mem_filter.mpr ⟨List.mem_append_right _ (List.mem_of_getElem? (i := 456) (by decide +kernel)), rfl⟩
theorem tw457 : (Cond.selects RX5 yX5_mindsMuch yX5_mindsMuch) ∈ lwt := List.mem_filter.mpr ⟨List.mem_append_right _ (List.mem_of_getElem? (i := 457) (by decide +kernel)), rfl⟩
theorem tw458 : (Cond.sameMethod RX5 RX5 "mindsMuch" "(I)Z") ∈ lwt := List.mem_filter.mpr ⟨List.mem_append_right _ (List.mem_of_getElem? (i := 458) (by decide +kernel)), rfl⟩
theorem tw459 : (Cond.selects RX2 yX5_mindsMuch yX5_mindsMuch) ∈ lwt := List.mem_filter.mpr ⟨List.mem_append_right _ (List.mem_of_getElem? (i := 459) (by decide +kernel)), rfl⟩
theorem tw460 : (Cond.selects RX3 yX5_mindsMuch yX5_mindsMuch) ∈ lwt := List.mem_filter.mpr ⟨List.mem_append_right _ (List.mem_of_getElem? (i := 460) (by decide +kernel)), rfl⟩
theorem tw461 : (Cond.selects RX8 yX5_mindsMuch yX5_mindsMuch) ∈ lwt := List.mem_filter.mpr ⟨List.mem_append_right _ (List.mem_of_getElem? (i := 461) (by decide +kernel)), rfl⟩
theorem tw462 : (Cond.selects RX10 yX5_mindsMuch yX5_mindsMuch) ∈ lwt := List.mem_filter.mpr ⟨List.mem_append_right _ (List.mem_of_getElem? (i := 462) (by decide +kernel)), rfl⟩
theorem tw463 : (Cond.code yX5_mindsMuch cX5_mindsMuch 2 (Option.some FieldType.boolean)) ∈ lwt := List.mem_filter.mpr ⟨List.mem_append_right _ (List.mem_of_getElem? (i := 463) (by decide +kernel)), rfl⟩
theorem tw464 : (Cond.methodLink RX5 28 yX5_mindsOf) ∈ lwt := List.mem_filter.mpr ⟨List.mem_append_right _ (List.mem_of_getElem? (i := 464) (by decide +kernel)), rfl⟩
theorem tw465 : (Cond.methodLink RL 68 yX11_black) ∈ lwt := List.mem_filter.mpr ⟨List.mem_append_right _ (List.mem_of_getElem? (i := 465) (by decide +kernel)), rfl⟩
theorem tw466 : (Cond.instanceMethod yX11_black) ∈ lwt := List.mem_filter.mpr ⟨List.mem_append_right _ (List.mem_of_getElem? (i := 466) (by decide +kernel)), rfl⟩
theorem tw467 : (Cond.selects RX11 yX11_black yX11_black) ∈ lwt := List.mem_filter.mpr ⟨List.mem_append_right _ (List.mem_of_getElem? (i := 467) (by decide +kernel)), rfl⟩
theorem tw468 : (Cond.code yX11_black cX11_black 7 (Option.some FieldType.int)) ∈ lwt := List.mem_filter.mpr ⟨List.mem_append_right _ (List.mem_of_getElem? (i := 468) (by decide +kernel)), rfl⟩
theorem tw469 : (Cond.methodLink RX11 149 yX11_areComers) ∈ lwt := List.mem_filter.mpr ⟨List.mem_append_right _ (List.mem_of_getElem? (i := 469) (by decide +kernel)), rfl⟩
theorem tw471 : (Cond.instanceMethod yX11_areComers) ∈ lwt := List.mem_filter.mpr ⟨List.mem_append_right _ (List.mem_of_getElem? (i := 471) (by decide +kernel)), rfl⟩
theorem tw472 : (Cond.code yX11_areComers cX11_areComers 2 (Option.some FieldType.boolean)) ∈ lwt := List.mem_filter.mpr ⟨List.mem_append_right _ (List.mem_of_getElem? (i := 472) (by decide +kernel)), rfl⟩
theorem tw473 : (Cond.methodLink RX11 200 yX11_everybody) ∈ lwt := List.mem_filter.mpr ⟨List.mem_append_right _ (List.mem_of_getElem? (i := 473) (by decide +kernel)), rfl⟩
theorem tw475 : (Cond.instanceMethod yX11_everybody) ∈ lwt := List.mem_filter.mpr ⟨List.mem_append_right _ (List.mem_of_getElem? (i := 475) (by decide +kernel)), rfl⟩
theorem tw476 : (Cond.code yX11_everybody cX11_everybody 1 (Option.some FieldType.int)) ∈ lwt := List.mem_filter.mpr ⟨List.mem_append_right _ (List.mem_of_getElem? (i := 476) (by decide +kernel)), rfl⟩
theorem tw477 : (Cond.methodLink RX11 152 yX11_isOneOf) ∈ lwt := List.mem_filter.mpr ⟨List.mem_append_right _ (List.mem_of_getElem? (i := 477) (by decide +kernel)), rfl⟩
theorem tw478 : (Cond.static yX11_isOneOf) ∈ lwt := List.mem_filter.mpr ⟨List.mem_append_right _ (List.mem_of_getElem? (i := 478) (by decide +kernel)), rfl⟩
theorem tw479 : (Cond.code yX11_isOneOf cX11_isOneOf 2 (Option.some FieldType.boolean)) ∈ lwt := List.mem_filter.mpr ⟨List.mem_append_right _ (List.mem_of_getElem? (i := 479) (by decide +kernel)), rfl⟩
theorem tw480 : (Cond.methodLink RX11 156 yX11_isWatched) ∈ lwt := List.mem_filter.mpr ⟨List.mem_append_right _ (List.mem_of_getElem? (i := 480) (by decide +kernel)), rfl⟩
theorem tw481 : (Cond.static yX11_isWatched) ∈ lwt := List.mem_filter.mpr ⟨List.mem_append_right _ (List.mem_of_getElem? (i := 481) (by decide +kernel)), rfl⟩
theorem tw482 : (Cond.code yX11_isWatched cX11_isWatched 2 (Option.some FieldType.boolean)) ∈ lwt := List.mem_filter.mpr ⟨List.mem_append_right _ (List.mem_of_getElem? (i := 482) (by decide +kernel)), rfl⟩
theorem tw483 : (Cond.methodLink RX11 218 yJ6_bitCount_0f7a4) ∈ lwt := List.mem_filter.mpr ⟨List.mem_append_right _ (List.mem_of_getElem? (i := 483) (by decide +kernel)), rfl⟩
theorem tw484 : (Cond.static yJ6_bitCount_0f7a4) ∈ lwt := List.mem_filter.mpr ⟨List.mem_append_right _ (List.mem_of_getElem? (i := 484) (by decide +kernel)), rfl⟩
theorem tw485 : (Cond.code yJ6_bitCount_0f7a4 cJ6_bitCount_0f7a4 1 (Option.some FieldType.int)) ∈ lwt := List.mem_filter.mpr ⟨List.mem_append_right _ (List.mem_of_getElem? (i := 485) (by decide +kernel)), rfl⟩
theorem tw486 : (Cond.constant RJ6 265 (1431655765 : Int32)) ∈ lwt := List.mem_filter.mpr ⟨List.mem_append_right _ (List.mem_of_getElem? (i := 486) (by decide +kernel)), rfl⟩
theorem tw487 : (Cond.constant RJ6 266 (858993459 : Int32)) ∈ lwt := List.mem_filter.mpr ⟨List.mem_append_right _ (List.mem_of_getElem? (i := 487) (by decide +kernel)), rfl⟩
theorem tw488 : (Cond.constant RJ6 267 (252645135 : Int32)) ∈ lwt := List.mem_filter.mpr ⟨List.mem_append_right _ (List.mem_of_getElem? (i := 488) (by decide +kernel)), rfl⟩
theorem tw489 : (Cond.methodLink RX11 160 yX11_blackOf) ∈ lwt := List.mem_filter.mpr ⟨List.mem_append_right _ (List.mem_of_getElem? (i := 489) (by decide +kernel)), rfl⟩
theorem tw491 : (Cond.instanceMethod yX11_blackOf) ∈ lwt := List.mem_filter.mpr ⟨List.mem_append_right _ (List.mem_of_getElem? (i := 491) (by decide +kernel)), rfl⟩
theorem tw492 : (Cond.code yX11_blackOf cX11_blackOf 4 (Option.some FieldType.int)) ∈ lwt := List.mem_filter.mpr ⟨List.mem_append_right _ (List.mem_of_getElem? (i := 492) (by decide +kernel)), rfl⟩
theorem tw493 : (Cond.methodLink RX11 346 yX5_blackFor) ∈ lwt := List.mem_filter.mpr ⟨List.mem_append_right _ (List.mem_of_getElem? (i := 493) (by decide +kernel)), rfl⟩
theorem tw494 : (Cond.instanceMethod yX5_blackFor) ∈ lwt := List.mem_filter.mpr ⟨List.mem_append_right _ (List.mem_of_getElem? (i := 494) (by decide +kernel)), rfl⟩
theorem tw495 : (Cond.selects RX5 yX5_blackFor yX5_blackFor) ∈ lwt := List.mem_filter.mpr ⟨List.mem_append_right _ (List.mem_of_getElem? (i := 495) (by decide +kernel)), rfl⟩
theorem tw496 : (Cond.sameMethod RX5 RX5 "blackFor" "(IIZ)I") ∈ lwt := List.mem_filter.mpr ⟨List.mem_append_right _ (List.mem_of_getElem? (i := 496) (by decide +kernel)), rfl⟩
theorem tw497 : (Cond.selects RX2 yX5_blackFor yX5_blackFor) ∈ lwt := List.mem_filter.mpr ⟨List.mem_append_right _ (List.mem_of_getElem? (i := 497) (by decide +kernel)), rfl⟩
theorem tw498 : (Cond.selects RX3 yX5_blackFor yX5_blackFor) ∈ lwt := List.mem_filter.mpr ⟨List.mem_append_right _ (List.mem_of_getElem? (i := 498) (by decide +kernel)), rfl⟩
theorem tw499 : (Cond.selects RX8 yX5_blackFor yX5_blackFor) ∈ lwt := List.mem_filter.mpr ⟨List.mem_append_right _ (List.mem_of_getElem? (i := 499) (by decide +kernel)), rfl⟩
theorem tw500 : (Cond.selects RX10 yX5_blackFor yX5_blackFor) ∈ lwt := List.mem_filter.mpr ⟨List.mem_append_right _ (List.mem_of_getElem? (i := 500) (by decide +kernel)), rfl⟩
theorem tw501 : (Cond.code yX5_blackFor cX5_blackFor 4 (Option.some FieldType.int)) ∈ lwt := List.mem_filter.mpr ⟨List.mem_append_right _ (List.mem_of_getElem? (i := 501) (by decide +kernel)), rfl⟩
theorem tw502 : (Cond.methodLink RX5 32 yX5_blackOfStranger) ∈ lwt := List.mem_filter.mpr ⟨List.mem_append_right _ (List.mem_of_getElem? (i := 502) (by decide +kernel)), rfl⟩
theorem tw503 : (Cond.instanceMethod yX5_blackOfStranger) ∈ lwt := List.mem_filter.mpr ⟨List.mem_append_right _ (List.mem_of_getElem? (i := 503) (by decide +kernel)), rfl⟩
theorem tw504 : (Cond.selects RX5 yX5_blackOfStranger yX5_blackOfStranger) ∈ lwt := List.mem_filter.mpr ⟨List.mem_append_right _ (List.mem_of_getElem? (i := 504) (by decide +kernel)), rfl⟩
theorem tw505 : (Cond.sameMethod RX5 RX5 "blackOfStranger" "(IIZ)I") ∈ lwt := List.mem_filter.mpr ⟨List.mem_append_right _ (List.mem_of_getElem? (i := 505) (by decide +kernel)), rfl⟩
theorem tw506 : (Cond.selects RX2 yX5_blackOfStranger yX2_blackOfStranger) ∈ lwt := List.mem_filter.mpr ⟨List.mem_append_right _ (List.mem_of_getElem? (i := 506) (by decide +kernel)), rfl⟩
theorem tw507 : (Cond.instanceMethod yX2_blackOfStranger) ∈ lwt := List.mem_filter.mpr ⟨List.mem_append_right _ (List.mem_of_getElem? (i := 507) (by decide +kernel)), rfl⟩
theorem tw508 : (Cond.code yX2_blackOfStranger cX2_blackOfStranger 4 (Option.some FieldType.int)) ∈ lwt := List.mem_filter.mpr ⟨List.mem_append_right _ (List.mem_of_getElem? (i := 508) (by decide +kernel)), rfl⟩
theorem tw509 : (Cond.selects RX3 yX5_blackOfStranger yX3_blackOfStranger) ∈ lwt := List.mem_filter.mpr ⟨List.mem_append_right _ (List.mem_of_getElem? (i := 509) (by decide +kernel)), rfl⟩
theorem tw510 : (Cond.instanceMethod yX3_blackOfStranger) ∈ lwt := List.mem_filter.mpr ⟨List.mem_append_right _ (List.mem_of_getElem? (i := 510) (by decide +kernel)), rfl⟩
theorem tw511 : (Cond.code yX3_blackOfStranger cX3_blackOfStranger 4 (Option.some FieldType.int)) ∈ lwt := List.mem_filter.mpr ⟨List.mem_append_right _ (List.mem_of_getElem? (i := 511) (by decide +kernel)), rfl⟩
theorem tw512 : (Cond.selects RX8 yX5_blackOfStranger yX8_blackOfStranger) ∈ lwt := List.mem_filter.mpr ⟨List.mem_append_right _ (List.mem_of_getElem? (i := 512) (by decide +kernel)), rfl⟩
theorem tw513 : (Cond.instanceMethod yX8_blackOfStranger) ∈ lwt := List.mem_filter.mpr ⟨List.mem_append_right _ (List.mem_of_getElem? (i := 513) (by decide +kernel)), rfl⟩
theorem tw514 : (Cond.code yX8_blackOfStranger cX8_blackOfStranger 4 (Option.some FieldType.int)) ∈ lwt := List.mem_filter.mpr ⟨List.mem_append_right _ (List.mem_of_getElem? (i := 514) (by decide +kernel)), rfl⟩
theorem tw515 : (Cond.methodLink RX8 9 ({ cls := RX8, name := "n", desc := "()I" } : Jvm.MethodName)) ∈ lwt := List.mem_filter.mpr ⟨List.mem_append_right _ (List.mem_of_getElem? (i := 515) (by decide +kernel)), rfl⟩
theorem tw516 : (Cond.sameMethod RX8 RX10 "n" "()I") ∈ lwt := List.mem_filter.mpr ⟨List.mem_append_right _ (List.mem_of_getElem? (i := 516) (by decide +kernel)), rfl⟩
theorem tn517 : (Cond.declares yX10_n) ∈ lw_tbl := List.mem_append_right _ (List.mem_of_getElem? (i := 517) (by decide +kernel))
theorem tw518 : (Cond.selects RX8 ({ cls := RX8, name := "n", desc := "()I" } : Jvm.MethodName) yX10_n) ∈ lwt := List.mem_filter.mpr ⟨List.mem_append_right _ (List.mem_of_getElem? (i := 518) (by decide +kernel)), rfl⟩
theorem tw519 : (Cond.selects RX10 yX5_blackOfStranger yX10_blackOfStranger) ∈ lwt := List.mem_filter.mpr ⟨List.mem_append_right _ (List.mem_of_getElem? (i := 519) (by decide +kernel)), rfl⟩
theorem tw520 : (Cond.instanceMethod yX10_blackOfStranger) ∈ lwt := List.mem_filter.mpr ⟨List.mem_append_right _ (List.mem_of_getElem? (i := 520) (by decide +kernel)), rfl⟩
theorem tw521 : (Cond.code yX10_blackOfStranger cX10_blackOfStranger 4 (Option.some FieldType.int)) ∈ lwt := List.mem_filter.mpr ⟨List.mem_append_right _ (List.mem_of_getElem? (i := 521) (by decide +kernel)), rfl⟩
theorem tw522 : (Cond.code yX5_blackOfStranger cX5_blackOfStranger 4 (Option.some FieldType.int)) ∈ lwt := List.mem_filter.mpr ⟨List.mem_append_right _ (List.mem_of_getElem? (i := 522) (by decide +kernel)), rfl⟩
theorem tw523 : (Cond.methodLink RL 73 yX11_balls) ∈ lwt := List.mem_filter.mpr ⟨List.mem_append_right _ (List.mem_of_getElem? (i := 523) (by decide +kernel)), rfl⟩
theorem tw524 : (Cond.instanceMethod yX11_balls) ∈ lwt := List.mem_filter.mpr ⟨List.mem_append_right _ (List.mem_of_getElem? (i := 524) (by decide +kernel)), rfl⟩
theorem tw525 : (Cond.selects RX11 yX11_balls yX11_balls) ∈ lwt := List.mem_filter.mpr ⟨List.mem_append_right _ (List.mem_of_getElem? (i := 525) (by decide +kernel)), rfl⟩
theorem tw526 : (Cond.code yX11_balls cX11_balls 7 (Option.some FieldType.int)) ∈ lwt := List.mem_filter.mpr ⟨List.mem_append_right _ (List.mem_of_getElem? (i := 526) (by decide +kernel)), rfl⟩
theorem tw527 : (Cond.methodLink RX11 164 yX11_isPart) ∈ lwt := List.mem_filter.mpr ⟨List.mem_append_right _ (List.mem_of_getElem? (i := 527) (by decide +kernel)), rfl⟩
theorem tw528 : (Cond.static yX11_isPart) ∈ lwt := List.mem_filter.mpr ⟨List.mem_append_right _ (List.mem_of_getElem? (i := 528) (by decide +kernel)), rfl⟩
theorem tw529 : (Cond.code yX11_isPart cX11_isPart 1 (Option.some FieldType.boolean)) ∈ lwt := List.mem_filter.mpr ⟨List.mem_append_right _ (List.mem_of_getElem? (i := 529) (by decide +kernel)), rfl⟩
theorem tw530 : (Cond.methodLink RX11 167 yX11_tallyBalls) ∈ lwt := List.mem_filter.mpr ⟨List.mem_append_right _ (List.mem_of_getElem? (i := 530) (by decide +kernel)), rfl⟩
theorem tw532 : (Cond.instanceMethod yX11_tallyBalls) ∈ lwt := List.mem_filter.mpr ⟨List.mem_append_right _ (List.mem_of_getElem? (i := 532) (by decide +kernel)), rfl⟩
theorem tw533 : (Cond.code yX11_tallyBalls cX11_tallyBalls 5 (Option.none : Option FieldType)) ∈ lwt := List.mem_filter.mpr ⟨List.mem_append_right _ (List.mem_of_getElem? (i := 533) (by decide +kernel)), rfl⟩
theorem tw534 : (Cond.methodLink RX11 350 yX7_begin) ∈ lwt := List.mem_filter.mpr ⟨List.mem_append_right _ (List.mem_of_getElem? (i := 534) (by decide +kernel)), rfl⟩
theorem tw535 : (Cond.instanceMethod yX7_begin) ∈ lwt := List.mem_filter.mpr ⟨List.mem_append_right _ (List.mem_of_getElem? (i := 535) (by decide +kernel)), rfl⟩
theorem tw536 : (Cond.selects RX7 yX7_begin yX7_begin) ∈ lwt := List.mem_filter.mpr ⟨List.mem_append_right _ (List.mem_of_getElem? (i := 536) (by decide +kernel)), rfl⟩
theorem tw537 : (Cond.code yX7_begin cX7_begin 1 (Option.none : Option FieldType)) ∈ lwt := List.mem_filter.mpr ⟨List.mem_append_right _ (List.mem_of_getElem? (i := 537) (by decide +kernel)), rfl⟩
theorem tw538 : (Cond.methodLink RX11 351 yX7_put) ∈ lwt := List.mem_filter.mpr ⟨List.mem_append_right _ (List.mem_of_getElem? (i := 538) (by decide +kernel)), rfl⟩
theorem tw539 : (Cond.instanceMethod yX7_put) ∈ lwt := List.mem_filter.mpr ⟨List.mem_append_right _ (List.mem_of_getElem? (i := 539) (by decide +kernel)), rfl⟩
theorem tw540 : (Cond.selects RX7 yX7_put yX7_put) ∈ lwt := List.mem_filter.mpr ⟨List.mem_append_right _ (List.mem_of_getElem? (i := 540) (by decide +kernel)), rfl⟩
theorem tw541 : (Cond.code yX7_put cX7_put 4 (Option.none : Option FieldType)) ∈ lwt := List.mem_filter.mpr ⟨List.mem_append_right _ (List.mem_of_getElem? (i := 541) (by decide +kernel)), rfl⟩
theorem tw542 : (Cond.constantLong RX7 23 (10 : Int64)) ∈ lwt := List.mem_filter.mpr ⟨List.mem_append_right _ (List.mem_of_getElem? (i := 542) (by decide +kernel)), rfl⟩
theorem tw543 : (Cond.methodLink RX11 171 yX7_waysTo) ∈ lwt := List.mem_filter.mpr ⟨List.mem_append_right _ (List.mem_of_getElem? (i := 543) (by decide +kernel)), rfl⟩
theorem tw544 : (Cond.instanceMethod yX7_waysTo) ∈ lwt := List.mem_filter.mpr ⟨List.mem_append_right _ (List.mem_of_getElem? (i := 544) (by decide +kernel)), rfl⟩
theorem tw545 : (Cond.selects RX7 yX7_waysTo yX7_waysTo) ∈ lwt := List.mem_filter.mpr ⟨List.mem_append_right _ (List.mem_of_getElem? (i := 545) (by decide +kernel)), rfl⟩
theorem tw546 : (Cond.code yX7_waysTo cX7_waysTo 2 (Option.some FieldType.long)) ∈ lwt := List.mem_filter.mpr ⟨List.mem_append_right _ (List.mem_of_getElem? (i := 546) (by decide +kernel)), rfl⟩
theorem tw547 : (Cond.methodLink RX11 175 yX7_all) ∈ lwt := List.mem_filter.mpr ⟨List.mem_append_right _ (List.mem_of_getElem? (i := 547) (by decide +kernel)), rfl⟩
theorem tw548 : (Cond.instanceMethod yX7_all) ∈ lwt := List.mem_filter.mpr ⟨List.mem_append_right _ (List.mem_of_getElem? (i := 548) (by decide +kernel)), rfl⟩
theorem tw549 : (Cond.selects RX7 yX7_all yX7_all) ∈ lwt := List.mem_filter.mpr ⟨List.mem_append_right _ (List.mem_of_getElem? (i := 549) (by decide +kernel)), rfl⟩
theorem tw550 : (Cond.code yX7_all cX7_all 1 (Option.some FieldType.long)) ∈ lwt := List.mem_filter.mpr ⟨List.mem_append_right _ (List.mem_of_getElem? (i := 550) (by decide +kernel)), rfl⟩
theorem tw551 : (Cond.methodLink RX11 179 yX11_lowest) ∈ lwt := List.mem_filter.mpr ⟨List.mem_append_right _ (List.mem_of_getElem? (i := 551) (by decide +kernel)), rfl⟩
theorem tw552 : (Cond.static yX11_lowest) ∈ lwt := List.mem_filter.mpr ⟨List.mem_append_right _ (List.mem_of_getElem? (i := 552) (by decide +kernel)), rfl⟩
theorem tw553 : (Cond.code yX11_lowest cX11_lowest 7 (Option.some FieldType.long)) ∈ lwt := List.mem_filter.mpr ⟨List.mem_append_right _ (List.mem_of_getElem? (i := 553) (by decide +kernel)), rfl⟩
theorem tw554 : (Cond.methodLink RX11 386 yX11_commonDivisor) ∈ lwt := List.mem_filter.mpr ⟨List.mem_append_right _ (List.mem_of_getElem? (i := 554) (by decide +kernel)), rfl⟩
theorem tw555 : (Cond.static yX11_commonDivisor) ∈ lwt := List.mem_filter.mpr ⟨List.mem_append_right _ (List.mem_of_getElem? (i := 555) (by decide +kernel)), rfl⟩
theorem tw556 : (Cond.code yX11_commonDivisor cX11_commonDivisor 11 (Option.some FieldType.long)) ∈ lwt := List.mem_filter.mpr ⟨List.mem_append_right _ (List.mem_of_getElem? (i := 556) (by decide +kernel)), rfl⟩
theorem tw557 : (Cond.constantLong RX11 226 (-1 : Int64)) ∈ lwt := List.mem_filter.mpr ⟨List.mem_append_right _ (List.mem_of_getElem? (i := 557) (by decide +kernel)), rfl⟩
theorem tw558 : (Cond.methodLink RL 78 yX11_in) ∈ lwt := List.mem_filter.mpr ⟨List.mem_append_right _ (List.mem_of_getElem? (i := 558) (by decide +kernel)), rfl⟩
theorem tw559 : (Cond.instanceMethod yX11_in) ∈ lwt := List.mem_filter.mpr ⟨List.mem_append_right _ (List.mem_of_getElem? (i := 559) (by decide +kernel)), rfl⟩
theorem tw560 : (Cond.selects RX11 yX11_in yX11_in) ∈ lwt := List.mem_filter.mpr ⟨List.mem_append_right _ (List.mem_of_getElem? (i := 560) (by decide +kernel)), rfl⟩
theorem tw561 : (Cond.code yX11_in cX11_in 6 (Option.some FieldType.long)) ∈ lwt := List.mem_filter.mpr ⟨List.mem_append_right _ (List.mem_of_getElem? (i := 561) (by decide +kernel)), rfl⟩
theorem tw562 : (Cond.constantLong RX11 183 (-101 : Int64)) ∈ lwt := List.mem_filter.mpr ⟨List.mem_append_right _ (List.mem_of_getElem? (i := 562) (by decide +kernel)), rfl⟩
theorem tw563 : (Cond.constantLong RX11 185 (-102 : Int64)) ∈ lwt := List.mem_filter.mpr ⟨List.mem_append_right _ (List.mem_of_getElem? (i := 563) (by decide +kernel)), rfl⟩
theorem tw564 : (Cond.methodLink RX11 187 yX11_inWays) ∈ lwt := List.mem_filter.mpr ⟨List.mem_append_right _ (List.mem_of_getElem? (i := 564) (by decide +kernel)), rfl⟩
theorem tw566 : (Cond.instanceMethod yX11_inWays) ∈ lwt := List.mem_filter.mpr ⟨List.mem_append_right _ (List.mem_of_getElem? (i := 566) (by decide +kernel)), rfl⟩
theorem tw567 : (Cond.code yX11_inWays cX11_inWays 10 (Option.some FieldType.long)) ∈ lwt := List.mem_filter.mpr ⟨List.mem_append_right _ (List.mem_of_getElem? (i := 567) (by decide +kernel)), rfl⟩
theorem tw568 : (Cond.methodLink RX11 354 yX6_hasQuorum) ∈ lwt := List.mem_filter.mpr ⟨List.mem_append_right _ (List.mem_of_getElem? (i := 568) (by decide +kernel)), rfl⟩
theorem tw569 : (Cond.instanceMethod yX6_hasQuorum) ∈ lwt := List.mem_filter.mpr ⟨List.mem_append_right _ (List.mem_of_getElem? (i := 569) (by decide +kernel)), rfl⟩
theorem tw570 : (Cond.selects RX6 yX6_hasQuorum yX6_hasQuorum) ∈ lwt := List.mem_filter.mpr ⟨List.mem_append_right _ (List.mem_of_getElem? (i := 570) (by decide +kernel)), rfl⟩
theorem tw571 : (Cond.code yX6_hasQuorum cX6_hasQuorum 2 (Option.some FieldType.boolean)) ∈ lwt := List.mem_filter.mpr ⟨List.mem_append_right _ (List.mem_of_getElem? (i := 571) (by decide +kernel)), rfl⟩
theorem tw572 : (Cond.methodLink RX11 223 yX6_shutsOut) ∈ lwt := List.mem_filter.mpr ⟨List.mem_append_right _ (List.mem_of_getElem? (i := 572) (by decide +kernel)), rfl⟩
theorem tw573 : (Cond.instanceMethod yX6_shutsOut) ∈ lwt := List.mem_filter.mpr ⟨List.mem_append_right _ (List.mem_of_getElem? (i := 573) (by decide +kernel)), rfl⟩
theorem tw574 : (Cond.selects RX6 yX6_shutsOut yX6_shutsOut) ∈ lwt := List.mem_filter.mpr ⟨List.mem_append_right _ (List.mem_of_getElem? (i := 574) (by decide +kernel)), rfl⟩
theorem tw575 : (Cond.code yX6_shutsOut cX6_shutsOut 3 (Option.some FieldType.boolean)) ∈ lwt := List.mem_filter.mpr ⟨List.mem_append_right _ (List.mem_of_getElem? (i := 575) (by decide +kernel)), rfl⟩
theorem tw576 : (Cond.methodLink RX11 191 yX11_squaredTens) ∈ lwt := List.mem_filter.mpr ⟨List.mem_append_right _ (List.mem_of_getElem? (i := 576) (by decide +kernel)), rfl⟩
theorem tw577 : (Cond.static yX11_squaredTens) ∈ lwt := List.mem_filter.mpr ⟨List.mem_append_right _ (List.mem_of_getElem? (i := 577) (by decide +kernel)), rfl⟩
theorem tw578 : (Cond.code yX11_squaredTens cX11_squaredTens 3 (Option.some FieldType.long)) ∈ lwt := List.mem_filter.mpr ⟨List.mem_append_right _ (List.mem_of_getElem? (i := 578) (by decide +kernel)), rfl⟩
theorem tw579 : (Cond.constantLong RX11 357 (10 : Int64)) ∈ lwt := List.mem_filter.mpr ⟨List.mem_append_right _ (List.mem_of_getElem? (i := 579) (by decide +kernel)), rfl⟩
theorem tw580 : (Cond.methodLink RX11 359 yX11_power) ∈ lwt := List.mem_filter.mpr ⟨List.mem_append_right _ (List.mem_of_getElem? (i := 580) (by decide +kernel)), rfl⟩
theorem tw581 : (Cond.static yX11_power) ∈ lwt := List.mem_filter.mpr ⟨List.mem_append_right _ (List.mem_of_getElem? (i := 581) (by decide +kernel)), rfl⟩
theorem tw582 : (Cond.code yX11_power cX11_power 6 (Option.some FieldType.long)) ∈ lwt := List.mem_filter.mpr ⟨List.mem_append_right _ (List.mem_of_getElem? (i := 582) (by decide +kernel)), rfl⟩
theorem tw583 : (Cond.methodLink RL 83 yX11_large) ∈ lwt := List.mem_filter.mpr ⟨List.mem_append_right _ (List.mem_of_getElem? (i := 583) (by decide +kernel)), rfl⟩
theorem tw584 : (Cond.instanceMethod yX11_large) ∈ lwt := List.mem_filter.mpr ⟨List.mem_append_right _ (List.mem_of_getElem? (i := 584) (by decide +kernel)), rfl⟩
theorem tw585 : (Cond.selects RX11 yX11_large yX11_large) ∈ lwt := List.mem_filter.mpr ⟨List.mem_append_right _ (List.mem_of_getElem? (i := 585) (by decide +kernel)), rfl⟩
theorem tw586 : (Cond.code yX11_large cX11_large 7 (Option.some FieldType.long)) ∈ lwt := List.mem_filter.mpr ⟨List.mem_append_right _ (List.mem_of_getElem? (i := 586) (by decide +kernel)), rfl⟩
theorem tw587 : (Cond.constantLong RX11 198 (-103 : Int64)) ∈ lwt := List.mem_filter.mpr ⟨List.mem_append_right _ (List.mem_of_getElem? (i := 587) (by decide +kernel)), rfl⟩
theorem tw588 : (Cond.methodLink RX11 203 yX9_begin) ∈ lwt := List.mem_filter.mpr ⟨List.mem_append_right _ (List.mem_of_getElem? (i := 588) (by decide +kernel)), rfl⟩
theorem tw589 : (Cond.instanceMethod yX9_begin) ∈ lwt := List.mem_filter.mpr ⟨List.mem_append_right _ (List.mem_of_getElem? (i := 589) (by decide +kernel)), rfl⟩
theorem tw590 : (Cond.selects RX9 yX9_begin yX9_begin) ∈ lwt := List.mem_filter.mpr ⟨List.mem_append_right _ (List.mem_of_getElem? (i := 590) (by decide +kernel)), rfl⟩
theorem tw591 : (Cond.code yX9_begin cX9_begin 1 (Option.none : Option FieldType)) ∈ lwt := List.mem_filter.mpr ⟨List.mem_append_right _ (List.mem_of_getElem? (i := 591) (by decide +kernel)), rfl⟩
theorem tw592 : (Cond.methodLink RX9 15 yJ7_fill_d0a16) ∈ lwt := List.mem_filter.mpr ⟨List.mem_append_right _ (List.mem_of_getElem? (i := 592) (by decide +kernel)), rfl⟩
theorem tw593 : (Cond.static yJ7_fill_d0a16) ∈ lwt := List.mem_filter.mpr ⟨List.mem_append_right _ (List.mem_of_getElem? (i := 593) (by decide +kernel)), rfl⟩
theorem tw594 : (Cond.code yJ7_fill_d0a16 cJ7_fill_d0a16 5 (Option.none : Option FieldType)) ∈ lwt := List.mem_filter.mpr ⟨List.mem_append_right _ (List.mem_of_getElem? (i := 594) (by decide +kernel)), rfl⟩
theorem tw595 : (Cond.methodLink RX11 206 yX9_mayCome) ∈ lwt := List.mem_filter.mpr ⟨List.mem_append_right _ (List.mem_of_getElem? (i := 595) (by decide +kernel)), rfl⟩
theorem tw596 : (Cond.instanceMethod yX9_mayCome) ∈ lwt := List.mem_filter.mpr ⟨List.mem_append_right _ (List.mem_of_getElem? (i := 596) (by decide +kernel)), rfl⟩
theorem tw597 : (Cond.selects RX9 yX9_mayCome yX9_mayCome) ∈ lwt := List.mem_filter.mpr ⟨List.mem_append_right _ (List.mem_of_getElem? (i := 597) (by decide +kernel)), rfl⟩
theorem tw598 : (Cond.code yX9_mayCome cX9_mayCome 11 (Option.none : Option FieldType)) ∈ lwt := List.mem_filter.mpr ⟨List.mem_append_right _ (List.mem_of_getElem? (i := 598) (by decide +kernel)), rfl⟩
theorem tw599 : (Cond.constantLong RX9 29 (100 : Int64)) ∈ lwt := List.mem_filter.mpr ⟨List.mem_append_right _ (List.mem_of_getElem? (i := 599) (by decide +kernel)), rfl⟩
theorem tw600 : (Cond.methodLink RX9 31 yX9_waysTo) ∈ lwt := List.mem_filter.mpr ⟨List.mem_append_right _ (List.mem_of_getElem? (i := 600) (by decide +kernel)), rfl⟩
theorem tw602 : (Cond.instanceMethod yX9_waysTo) ∈ lwt := List.mem_filter.mpr ⟨List.mem_append_right _ (List.mem_of_getElem? (i := 602) (by decide +kernel)), rfl⟩
theorem tw603 : (Cond.code yX9_waysTo cX9_waysTo 3 (Option.some FieldType.long)) ∈ lwt := List.mem_filter.mpr ⟨List.mem_append_right _ (List.mem_of_getElem? (i := 603) (by decide +kernel)), rfl⟩
theorem tw604 : (Cond.methodLink RX11 209 yX9_waysIn) ∈ lwt := List.mem_filter.mpr ⟨List.mem_append_right _ (List.mem_of_getElem? (i := 604) (by decide +kernel)), rfl⟩
theorem tw605 : (Cond.instanceMethod yX9_waysIn) ∈ lwt := List.mem_filter.mpr ⟨List.mem_append_right _ (List.mem_of_getElem? (i := 605) (by decide +kernel)), rfl⟩
theorem tw606 : (Cond.selects RX9 yX9_waysIn yX9_waysIn) ∈ lwt := List.mem_filter.mpr ⟨List.mem_append_right _ (List.mem_of_getElem? (i := 606) (by decide +kernel)), rfl⟩
theorem tw607 : (Cond.code yX9_waysIn cX9_waysIn 6 (Option.some FieldType.long)) ∈ lwt := List.mem_filter.mpr ⟨List.mem_append_right _ (List.mem_of_getElem? (i := 607) (by decide +kernel)), rfl⟩
theorem tw608 : (Cond.methodLink RX9 35 yX6_letsIn) ∈ lwt := List.mem_filter.mpr ⟨List.mem_append_right _ (List.mem_of_getElem? (i := 608) (by decide +kernel)), rfl⟩
theorem tw609 : (Cond.instanceMethod yX6_letsIn) ∈ lwt := List.mem_filter.mpr ⟨List.mem_append_right _ (List.mem_of_getElem? (i := 609) (by decide +kernel)), rfl⟩
theorem tw610 : (Cond.selects RX6 yX6_letsIn yX6_letsIn) ∈ lwt := List.mem_filter.mpr ⟨List.mem_append_right _ (List.mem_of_getElem? (i := 610) (by decide +kernel)), rfl⟩
theorem tw611 : (Cond.code yX6_letsIn cX6_letsIn 3 (Option.some FieldType.boolean)) ∈ lwt := List.mem_filter.mpr ⟨List.mem_append_right _ (List.mem_of_getElem? (i := 611) (by decide +kernel)), rfl⟩
theorem tw612 : (Cond.methodLink RX6 26 yX6_hasQuorum) ∈ lwt := List.mem_filter.mpr ⟨List.mem_append_right _ (List.mem_of_getElem? (i := 612) (by decide +kernel)), rfl⟩
theorem tw613 : (Cond.methodLink RX6 30 yX6_shutsOut) ∈ lwt := List.mem_filter.mpr ⟨List.mem_append_right _ (List.mem_of_getElem? (i := 613) (by decide +kernel)), rfl⟩
theorem tw614 : (Cond.methodLink RX11 213 yX9_all) ∈ lwt := List.mem_filter.mpr ⟨List.mem_append_right _ (List.mem_of_getElem? (i := 614) (by decide +kernel)), rfl⟩
theorem tw615 : (Cond.instanceMethod yX9_all) ∈ lwt := List.mem_filter.mpr ⟨List.mem_append_right _ (List.mem_of_getElem? (i := 615) (by decide +kernel)), rfl⟩
theorem tw616 : (Cond.selects RX9 yX9_all yX9_all) ∈ lwt := List.mem_filter.mpr ⟨List.mem_append_right _ (List.mem_of_getElem? (i := 616) (by decide +kernel)), rfl⟩
theorem tw617 : (Cond.code yX9_all cX9_all 1 (Option.some FieldType.long)) ∈ lwt := List.mem_filter.mpr ⟨List.mem_append_right _ (List.mem_of_getElem? (i := 617) (by decide +kernel)), rfl⟩
theorem tw618 : (Cond.methodLink RL 88 yX11_wrong) ∈ lwt := List.mem_filter.mpr ⟨List.mem_append_right _ (List.mem_of_getElem? (i := 618) (by decide +kernel)), rfl⟩
theorem tw619 : (Cond.instanceMethod yX11_wrong) ∈ lwt := List.mem_filter.mpr ⟨List.mem_append_right _ (List.mem_of_getElem? (i := 619) (by decide +kernel)), rfl⟩
theorem tw620 : (Cond.selects RX11 yX11_wrong yX11_wrong) ∈ lwt := List.mem_filter.mpr ⟨List.mem_append_right _ (List.mem_of_getElem? (i := 620) (by decide +kernel)), rfl⟩
theorem tw621 : (Cond.code yX11_wrong cX11_wrong 4 (Option.some FieldType.long)) ∈ lwt := List.mem_filter.mpr ⟨List.mem_append_right _ (List.mem_of_getElem? (i := 621) (by decide +kernel)), rfl⟩
theorem tw622 : (Cond.methodLink RX11 214 yX11_wrongWays) ∈ lwt := List.mem_filter.mpr ⟨List.mem_append_right _ (List.mem_of_getElem? (i := 622) (by decide +kernel)), rfl⟩
theorem tw624 : (Cond.instanceMethod yX11_wrongWays) ∈ lwt := List.mem_filter.mpr ⟨List.mem_append_right _ (List.mem_of_getElem? (i := 624) (by decide +kernel)), rfl⟩
theorem tw625 : (Cond.code yX11_wrongWays cX11_wrongWays 10 (Option.some FieldType.long)) ∈ lwt := List.mem_filter.mpr ⟨List.mem_append_right _ (List.mem_of_getElem? (i := 625) (by decide +kernel)), rfl⟩
theorem tw626 : (Cond.methodLink RL 93 yX11_best) ∈ lwt := List.mem_filter.mpr ⟨List.mem_append_right _ (List.mem_of_getElem? (i := 626) (by decide +kernel)), rfl⟩
theorem tw627 : (Cond.instanceMethod yX11_best) ∈ lwt := List.mem_filter.mpr ⟨List.mem_append_right _ (List.mem_of_getElem? (i := 627) (by decide +kernel)), rfl⟩
theorem tw628 : (Cond.selects RX11 yX11_best yX11_best) ∈ lwt := List.mem_filter.mpr ⟨List.mem_append_right _ (List.mem_of_getElem? (i := 628) (by decide +kernel)), rfl⟩
theorem tw629 : (Cond.code yX11_best cX11_best 8 (Option.some FieldType.int)) ∈ lwt := List.mem_filter.mpr ⟨List.mem_append_right _ (List.mem_of_getElem? (i := 629) (by decide +kernel)), rfl⟩
theorem tw630 : (Cond.methodLink RL 97 yX11_who) ∈ lwt := List.mem_filter.mpr ⟨List.mem_append_right _ (List.mem_of_getElem? (i := 630) (by decide +kernel)), rfl⟩
theorem tw631 : (Cond.instanceMethod yX11_who) ∈ lwt := List.mem_filter.mpr ⟨List.mem_append_right _ (List.mem_of_getElem? (i := 631) (by decide +kernel)), rfl⟩
theorem tw632 : (Cond.selects RX11 yX11_who yX11_who) ∈ lwt := List.mem_filter.mpr ⟨List.mem_append_right _ (List.mem_of_getElem? (i := 632) (by decide +kernel)), rfl⟩
theorem tw633 : (Cond.code yX11_who cX11_who 17 (Option.some FieldType.int)) ∈ lwt := List.mem_filter.mpr ⟨List.mem_append_right _ (List.mem_of_getElem? (i := 633) (by decide +kernel)), rfl⟩
theorem tw634 : (Cond.methodLink RL 102 yX11_heard) ∈ lwt := List.mem_filter.mpr ⟨List.mem_append_right _ (List.mem_of_getElem? (i := 634) (by decide +kernel)), rfl⟩
theorem tw635 : (Cond.instanceMethod yX11_heard) ∈ lwt := List.mem_filter.mpr ⟨List.mem_append_right _ (List.mem_of_getElem? (i := 635) (by decide +kernel)), rfl⟩
theorem tw636 : (Cond.selects RX11 yX11_heard yX11_heard) ∈ lwt := List.mem_filter.mpr ⟨List.mem_append_right _ (List.mem_of_getElem? (i := 636) (by decide +kernel)), rfl⟩
theorem tw637 : (Cond.code yX11_heard cX11_heard 14 (Option.some FieldType.int)) ∈ lwt := List.mem_filter.mpr ⟨List.mem_append_right _ (List.mem_of_getElem? (i := 637) (by decide +kernel)), rfl⟩
theorem tw638 : (Cond.methodLink RL 107 yX11_sway) ∈ lwt := List.mem_filter.mpr ⟨List.mem_append_right _ (List.mem_of_getElem? (i := 638) (by decide +kernel)), rfl⟩
theorem tw639 : (Cond.instanceMethod yX11_sway) ∈ lwt := List.mem_filter.mpr ⟨List.mem_append_right _ (List.mem_of_getElem? (i := 639) (by decide +kernel)), rfl⟩
theorem tw640 : (Cond.selects RX11 yX11_sway yX11_sway) ∈ lwt := List.mem_filter.mpr ⟨List.mem_append_right _ (List.mem_of_getElem? (i := 640) (by decide +kernel)), rfl⟩
theorem tw641 : (Cond.code yX11_sway cX11_sway 15 (Option.some FieldType.int)) ∈ lwt := List.mem_filter.mpr ⟨List.mem_append_right _ (List.mem_of_getElem? (i := 641) (by decide +kernel)), rfl⟩
theorem tw642 : (Cond.constantLong RX11 228 (100 : Int64)) ∈ lwt := List.mem_filter.mpr ⟨List.mem_append_right _ (List.mem_of_getElem? (i := 642) (by decide +kernel)), rfl⟩
theorem tw643 : (Cond.methodLink RX11 230 yJ9_abs_067f4) ∈ lwt := List.mem_filter.mpr ⟨List.mem_append_right _ (List.mem_of_getElem? (i := 643) (by decide +kernel)), rfl⟩
theorem tw644 : (Cond.static yJ9_abs_067f4) ∈ lwt := List.mem_filter.mpr ⟨List.mem_append_right _ (List.mem_of_getElem? (i := 644) (by decide +kernel)), rfl⟩
theorem tw645 : (Cond.code yJ9_abs_067f4 cJ9_abs_067f4 2 (Option.some FieldType.long)) ∈ lwt := List.mem_filter.mpr ⟨List.mem_append_right _ (List.mem_of_getElem? (i := 645) (by decide +kernel)), rfl⟩
theorem tw646 : (Cond.methodLink RL 111 yX11_word) ∈ lwt := List.mem_filter.mpr ⟨List.mem_append_right _ (List.mem_of_getElem? (i := 646) (by decide +kernel)), rfl⟩
theorem tw647 : (Cond.instanceMethod yX11_word) ∈ lwt := List.mem_filter.mpr ⟨List.mem_append_right _ (List.mem_of_getElem? (i := 647) (by decide +kernel)), rfl⟩
theorem tw648 : (Cond.selects RX11 yX11_word yX11_word) ∈ lwt := List.mem_filter.mpr ⟨List.mem_append_right _ (List.mem_of_getElem? (i := 648) (by decide +kernel)), rfl⟩
theorem tw649 : (Cond.code yX11_word cX11_word 7 (Option.some FieldType.int)) ∈ lwt := List.mem_filter.mpr ⟨List.mem_append_right _ (List.mem_of_getElem? (i := 649) (by decide +kernel)), rfl⟩
theorem tw650 : (Cond.methodLink RX11 236 yX11_withdraws) ∈ lwt := List.mem_filter.mpr ⟨List.mem_append_right _ (List.mem_of_getElem? (i := 650) (by decide +kernel)), rfl⟩
theorem tw651 : (Cond.static yX11_withdraws) ∈ lwt := List.mem_filter.mpr ⟨List.mem_append_right _ (List.mem_of_getElem? (i := 651) (by decide +kernel)), rfl⟩
theorem tw652 : (Cond.code yX11_withdraws cX11_withdraws 4 (Option.some FieldType.boolean)) ∈ lwt := List.mem_filter.mpr ⟨List.mem_append_right _ (List.mem_of_getElem? (i := 652) (by decide +kernel)), rfl⟩
theorem tw653 : (Cond.methodLink RL 115 yX11_seen) ∈ lwt := List.mem_filter.mpr ⟨List.mem_append_right _ (List.mem_of_getElem? (i := 653) (by decide +kernel)), rfl⟩
theorem tw654 : (Cond.instanceMethod yX11_seen) ∈ lwt := List.mem_filter.mpr ⟨List.mem_append_right _ (List.mem_of_getElem? (i := 654) (by decide +kernel)), rfl⟩
theorem tw655 : (Cond.selects RX11 yX11_seen yX11_seen) ∈ lwt := List.mem_filter.mpr ⟨List.mem_append_right _ (List.mem_of_getElem? (i := 655) (by decide +kernel)), rfl⟩
theorem tw656 : (Cond.code yX11_seen cX11_seen 11 (Option.some FieldType.long)) ∈ lwt := List.mem_filter.mpr ⟨List.mem_append_right _ (List.mem_of_getElem? (i := 656) (by decide +kernel)), rfl⟩
theorem tw657 : (Cond.methodLink RL 119 yX11_evening) ∈ lwt := List.mem_filter.mpr ⟨List.mem_append_right _ (List.mem_of_getElem? (i := 657) (by decide +kernel)), rfl⟩
theorem tw658 : (Cond.instanceMethod yX11_evening) ∈ lwt := List.mem_filter.mpr ⟨List.mem_append_right _ (List.mem_of_getElem? (i := 658) (by decide +kernel)), rfl⟩
theorem tw659 : (Cond.selects RX11 yX11_evening yX11_evening) ∈ lwt := List.mem_filter.mpr ⟨List.mem_append_right _ (List.mem_of_getElem? (i := 659) (by decide +kernel)), rfl⟩
theorem tw660 : (Cond.code yX11_evening cX11_evening 9 (Option.some FieldType.int)) ∈ lwt := List.mem_filter.mpr ⟨List.mem_append_right _ (List.mem_of_getElem? (i := 660) (by decide +kernel)), rfl⟩
theorem tw661 : (Cond.methodLink RX11 240 yX0_begin) ∈ lwt := List.mem_filter.mpr ⟨List.mem_append_right _ (List.mem_of_getElem? (i := 661) (by decide +kernel)), rfl⟩
theorem tw662 : (Cond.instanceMethod yX0_begin) ∈ lwt := List.mem_filter.mpr ⟨List.mem_append_right _ (List.mem_of_getElem? (i := 662) (by decide +kernel)), rfl⟩
theorem tw663 : (Cond.selects RX0 yX0_begin yX0_begin) ∈ lwt := List.mem_filter.mpr ⟨List.mem_append_right _ (List.mem_of_getElem? (i := 663) (by decide +kernel)), rfl⟩
theorem tw664 : (Cond.code yX0_begin cX0_begin 1 (Option.none : Option FieldType)) ∈ lwt := List.mem_filter.mpr ⟨List.mem_append_right _ (List.mem_of_getElem? (i := 664) (by decide +kernel)), rfl⟩
theorem tw665 : (Cond.methodLink RX11 241 yX0_seat) ∈ lwt := List.mem_filter.mpr ⟨List.mem_append_right _ (List.mem_of_getElem? (i := 665) (by decide +kernel)), rfl⟩
theorem tw666 : (Cond.instanceMethod yX0_seat) ∈ lwt := List.mem_filter.mpr ⟨List.mem_append_right _ (List.mem_of_getElem? (i := 666) (by decide +kernel)), rfl⟩
theorem tw667 : (Cond.selects RX0 yX0_seat yX0_seat) ∈ lwt := List.mem_filter.mpr ⟨List.mem_append_right _ (List.mem_of_getElem? (i := 667) (by decide +kernel)), rfl⟩
theorem tw668 : (Cond.code yX0_seat cX0_seat 2 (Option.none : Option FieldType)) ∈ lwt := List.mem_filter.mpr ⟨List.mem_append_right _ (List.mem_of_getElem? (i := 668) (by decide +kernel)), rfl⟩
theorem tw669 : (Cond.methodLink RX11 245 yX0_hold) ∈ lwt := List.mem_filter.mpr ⟨List.mem_append_right _ (List.mem_of_getElem? (i := 669) (by decide +kernel)), rfl⟩
theorem tw670 : (Cond.instanceMethod yX0_hold) ∈ lwt := List.mem_filter.mpr ⟨List.mem_append_right _ (List.mem_of_getElem? (i := 670) (by decide +kernel)), rfl⟩
theorem tw671 : (Cond.selects RX0 yX0_hold yX0_hold) ∈ lwt := List.mem_filter.mpr ⟨List.mem_append_right _ (List.mem_of_getElem? (i := 671) (by decide +kernel)), rfl⟩
theorem tw672 : (Cond.code yX0_hold cX0_hold 3 (Option.none : Option FieldType)) ∈ lwt := List.mem_filter.mpr ⟨List.mem_append_right _ (List.mem_of_getElem? (i := 672) (by decide +kernel)), rfl⟩
theorem tw673 : (Cond.methodLink RX0 29 yX6_hasQuorum) ∈ lwt := List.mem_filter.mpr ⟨List.mem_append_right _ (List.mem_of_getElem? (i := 673) (by decide +kernel)), rfl⟩
theorem tw674 : (Cond.methodLink RX0 35 yX0_putBalls) ∈ lwt := List.mem_filter.mpr ⟨List.mem_append_right _ (List.mem_of_getElem? (i := 674) (by decide +kernel)), rfl⟩
theorem tw676 : (Cond.instanceMethod yX0_putBalls) ∈ lwt := List.mem_filter.mpr ⟨List.mem_append_right _ (List.mem_of_getElem? (i := 676) (by decide +kernel)), rfl⟩
theorem tw677 : (Cond.code yX0_putBalls cX0_putBalls 2 (Option.none : Option FieldType)) ∈ lwt := List.mem_filter.mpr ⟨List.mem_append_right _ (List.mem_of_getElem? (i := 677) (by decide +kernel)), rfl⟩
theorem tw678 : (Cond.methodLink RX0 45 yX0_nextSeed) ∈ lwt := List.mem_filter.mpr ⟨List.mem_append_right _ (List.mem_of_getElem? (i := 678) (by decide +kernel)), rfl⟩
theorem tw679 : (Cond.static yX0_nextSeed) ∈ lwt := List.mem_filter.mpr ⟨List.mem_append_right _ (List.mem_of_getElem? (i := 679) (by decide +kernel)), rfl⟩
theorem tw680 : (Cond.code yX0_nextSeed cX0_nextSeed 1 (Option.some FieldType.int)) ∈ lwt := List.mem_filter.mpr ⟨List.mem_append_right _ (List.mem_of_getElem? (i := 680) (by decide +kernel)), rfl⟩
theorem tw681 : (Cond.constant RX0 52 (1103515245 : Int32)) ∈ lwt := List.mem_filter.mpr ⟨List.mem_append_right _ (List.mem_of_getElem? (i := 681) (by decide +kernel)), rfl⟩
theorem tw682 : (Cond.constant RX0 55 (2147483647 : Int32)) ∈ lwt := List.mem_filter.mpr ⟨List.mem_append_right _ (List.mem_of_getElem? (i := 682) (by decide +kernel)), rfl⟩
theorem tw683 : (Cond.methodLink RX0 49 yX0_drawnTenth) ∈ lwt := List.mem_filter.mpr ⟨List.mem_append_right _ (List.mem_of_getElem? (i := 683) (by decide +kernel)), rfl⟩
theorem tw684 : (Cond.static yX0_drawnTenth) ∈ lwt := List.mem_filter.mpr ⟨List.mem_append_right _ (List.mem_of_getElem? (i := 684) (by decide +kernel)), rfl⟩
theorem tw685 : (Cond.code yX0_drawnTenth cX0_drawnTenth 1 (Option.some FieldType.int)) ∈ lwt := List.mem_filter.mpr ⟨List.mem_append_right _ (List.mem_of_getElem? (i := 685) (by decide +kernel)), rfl⟩
theorem tw686 : (Cond.constant RX0 56 (65536 : Int32)) ∈ lwt := List.mem_filter.mpr ⟨List.mem_append_right _ (List.mem_of_getElem? (i := 686) (by decide +kernel)), rfl⟩
theorem tw687 : (Cond.methodLink RX0 41 yX6_shutsOut) ∈ lwt := List.mem_filter.mpr ⟨List.mem_append_right _ (List.mem_of_getElem? (i := 687) (by decide +kernel)), rfl⟩
theorem tw688 : (Cond.methodLink RL 123 yX11_trade) ∈ lwt := List.mem_filter.mpr ⟨List.mem_append_right _ (List.mem_of_getElem? (i := 688) (by decide +kernel)), rfl⟩
theorem tw689 : (Cond.instanceMethod yX11_trade) ∈ lwt := List.mem_filter.mpr ⟨List.mem_append_right _ (List.mem_of_getElem? (i := 689) (by decide +kernel)), rfl⟩
theorem tw690 : (Cond.selects RX11 yX11_trade yX11_trade) ∈ lwt := List.mem_filter.mpr ⟨List.mem_append_right _ (List.mem_of_getElem? (i := 690) (by decide +kernel)), rfl⟩
theorem tw691 : (Cond.code yX11_trade cX11_trade 15 (Option.some FieldType.int)) ∈ lwt := List.mem_filter.mpr ⟨List.mem_append_right _ (List.mem_of_getElem? (i := 691) (by decide +kernel)), rfl⟩
theorem tw692 : (Cond.methodLink RX11 258 yX11_letInByOneBall) ∈ lwt := List.mem_filter.mpr ⟨List.mem_append_right _ (List.mem_of_getElem? (i := 692) (by decide +kernel)), rfl⟩
theorem tw694 : (Cond.instanceMethod yX11_letInByOneBall) ∈ lwt := List.mem_filter.mpr ⟨List.mem_append_right _ (List.mem_of_getElem? (i := 694) (by decide +kernel)), rfl⟩
theorem tw695 : (Cond.code yX11_letInByOneBall cX11_letInByOneBall 8 (Option.some FieldType.int)) ∈ lwt := List.mem_filter.mpr ⟨List.mem_append_right _ (List.mem_of_getElem? (i := 695) (by decide +kernel)), rfl⟩
theorem tw696 : (Cond.methodLink RX11 363 yX6_letsIn) ∈ lwt := List.mem_filter.mpr ⟨List.mem_append_right _ (List.mem_of_getElem? (i := 696) (by decide +kernel)), rfl⟩
theorem tw697 : (Cond.methodLink RX11 262 yX11_gain) ∈ lwt := List.mem_filter.mpr ⟨List.mem_append_right _ (List.mem_of_getElem? (i := 697) (by decide +kernel)), rfl⟩
theorem tw698 : (Cond.static yX11_gain) ∈ lwt := List.mem_filter.mpr ⟨List.mem_append_right _ (List.mem_of_getElem? (i := 698) (by decide +kernel)), rfl⟩
theorem tw699 : (Cond.code yX11_gain cX11_gain 10 (Option.some FieldType.int)) ∈ lwt := List.mem_filter.mpr ⟨List.mem_append_right _ (List.mem_of_getElem? (i := 699) (by decide +kernel)), rfl⟩
theorem tw700 : (Cond.methodLink RL 127 yX11_veto) ∈ lwt := List.mem_filter.mpr ⟨List.mem_append_right _ (List.mem_of_getElem? (i := 700) (by decide +kernel)), rfl⟩
theorem tw701 : (Cond.instanceMethod yX11_veto) ∈ lwt := List.mem_filter.mpr ⟨List.mem_append_right _ (List.mem_of_getElem? (i := 701) (by decide +kernel)), rfl⟩
theorem tw702 : (Cond.selects RX11 yX11_veto yX11_veto) ∈ lwt := List.mem_filter.mpr ⟨List.mem_append_right _ (List.mem_of_getElem? (i := 702) (by decide +kernel)), rfl⟩
theorem tw703 : (Cond.code yX11_veto cX11_veto 6 (Option.some FieldType.int)) ∈ lwt := List.mem_filter.mpr ⟨List.mem_append_right _ (List.mem_of_getElem? (i := 703) (by decide +kernel)), rfl⟩
theorem tw704 : (Cond.methodLink RX11 266 yX11_expectVetoes) ∈ lwt := List.mem_filter.mpr ⟨List.mem_append_right _ (List.mem_of_getElem? (i := 704) (by decide +kernel)), rfl⟩
theorem tw706 : (Cond.instanceMethod yX11_expectVetoes) ∈ lwt := List.mem_filter.mpr ⟨List.mem_append_right _ (List.mem_of_getElem? (i := 706) (by decide +kernel)), rfl⟩
theorem tw707 : (Cond.code yX11_expectVetoes cX11_expectVetoes 9 (Option.some FieldType.long)) ∈ lwt := List.mem_filter.mpr ⟨List.mem_append_right _ (List.mem_of_getElem? (i := 707) (by decide +kernel)), rfl⟩
theorem tw708 : (Cond.methodLink RX11 366 yJ7_fill_d0a16) ∈ lwt := List.mem_filter.mpr ⟨List.mem_append_right _ (List.mem_of_getElem? (i := 708) (by decide +kernel)), rfl⟩
theorem tw709 : (Cond.methodLink RX11 372 yJ9_max_f86c9) ∈ lwt := List.mem_filter.mpr ⟨List.mem_append_right _ (List.mem_of_getElem? (i := 709) (by decide +kernel)), rfl⟩
theorem tw710 : (Cond.static yJ9_max_f86c9) ∈ lwt := List.mem_filter.mpr ⟨List.mem_append_right _ (List.mem_of_getElem? (i := 710) (by decide +kernel)), rfl⟩
theorem tw711 : (Cond.code yJ9_max_f86c9 cJ9_max_f86c9 4 (Option.some FieldType.long)) ∈ lwt := List.mem_filter.mpr ⟨List.mem_append_right _ (List.mem_of_getElem? (i := 711) (by decide +kernel)), rfl⟩
theorem tw712 : (Cond.constantLong RX11 375 (11 : Int64)) ∈ lwt := List.mem_filter.mpr ⟨List.mem_append_right _ (List.mem_of_getElem? (i := 712) (by decide +kernel)), rfl⟩
theorem tw713 : (Cond.methodLink RL 131 yX11_worth) ∈ lwt := List.mem_filter.mpr ⟨List.mem_append_right _ (List.mem_of_getElem? (i := 713) (by decide +kernel)), rfl⟩
theorem tw714 : (Cond.instanceMethod yX11_worth) ∈ lwt := List.mem_filter.mpr ⟨List.mem_append_right _ (List.mem_of_getElem? (i := 714) (by decide +kernel)), rfl⟩
theorem tw715 : (Cond.selects RX11 yX11_worth yX11_worth) ∈ lwt := List.mem_filter.mpr ⟨List.mem_append_right _ (List.mem_of_getElem? (i := 715) (by decide +kernel)), rfl⟩
theorem tw716 : (Cond.code yX11_worth cX11_worth 6 (Option.some FieldType.long)) ∈ lwt := List.mem_filter.mpr ⟨List.mem_append_right _ (List.mem_of_getElem? (i := 716) (by decide +kernel)), rfl⟩
theorem tw717 : (Cond.methodLink RL 135 yX11_years) ∈ lwt := List.mem_filter.mpr ⟨List.mem_append_right _ (List.mem_of_getElem? (i := 717) (by decide +kernel)), rfl⟩
theorem tw718 : (Cond.instanceMethod yX11_years) ∈ lwt := List.mem_filter.mpr ⟨List.mem_append_right _ (List.mem_of_getElem? (i := 718) (by decide +kernel)), rfl⟩
theorem tw719 : (Cond.selects RX11 yX11_years yX11_years) ∈ lwt := List.mem_filter.mpr ⟨List.mem_append_right _ (List.mem_of_getElem? (i := 719) (by decide +kernel)), rfl⟩
theorem tw720 : (Cond.code yX11_years cX11_years 7 (Option.some FieldType.int)) ∈ lwt := List.mem_filter.mpr ⟨List.mem_append_right _ (List.mem_of_getElem? (i := 720) (by decide +kernel)), rfl⟩
theorem tw721 : (Cond.methodLink RX11 269 yX1_found) ∈ lwt := List.mem_filter.mpr ⟨List.mem_append_right _ (List.mem_of_getElem? (i := 721) (by decide +kernel)), rfl⟩
theorem tw722 : (Cond.instanceMethod yX1_found) ∈ lwt := List.mem_filter.mpr ⟨List.mem_append_right _ (List.mem_of_getElem? (i := 722) (by decide +kernel)), rfl⟩
theorem tw723 : (Cond.selects RX1 yX1_found yX1_found) ∈ lwt := List.mem_filter.mpr ⟨List.mem_append_right _ (List.mem_of_getElem? (i := 723) (by decide +kernel)), rfl⟩
theorem tw724 : (Cond.code yX1_found cX1_found 3 (Option.none : Option FieldType)) ∈ lwt := List.mem_filter.mpr ⟨List.mem_append_right _ (List.mem_of_getElem? (i := 724) (by decide +kernel)), rfl⟩
theorem tw725 : (Cond.methodLink RX1 30 yX1_drawTaste) ∈ lwt := List.mem_filter.mpr ⟨List.mem_append_right _ (List.mem_of_getElem? (i := 725) (by decide +kernel)), rfl⟩
theorem tw727 : (Cond.instanceMethod yX1_drawTaste) ∈ lwt := List.mem_filter.mpr ⟨List.mem_append_right _ (List.mem_of_getElem? (i := 727) (by decide +kernel)), rfl⟩
theorem tw728 : (Cond.code yX1_drawTaste cX1_drawTaste 1 (Option.some FieldType.int)) ∈ lwt := List.mem_filter.mpr ⟨List.mem_append_right _ (List.mem_of_getElem? (i := 728) (by decide +kernel)), rfl⟩
theorem tw729 : (Cond.methodLink RX1 69 yX0_nextSeed) ∈ lwt := List.mem_filter.mpr ⟨List.mem_append_right _ (List.mem_of_getElem? (i := 729) (by decide +kernel)), rfl⟩
theorem tw730 : (Cond.methodLink RX1 72 yX0_drawnTenth) ∈ lwt := List.mem_filter.mpr ⟨List.mem_append_right _ (List.mem_of_getElem? (i := 730) (by decide +kernel)), rfl⟩
theorem tw731 : (Cond.methodLink RX11 272 yX1_passYear) ∈ lwt := List.mem_filter.mpr ⟨List.mem_append_right _ (List.mem_of_getElem? (i := 731) (by decide +kernel)), rfl⟩
theorem tw732 : (Cond.instanceMethod yX1_passYear) ∈ lwt := List.mem_filter.mpr ⟨List.mem_append_right _ (List.mem_of_getElem? (i := 732) (by decide +kernel)), rfl⟩
theorem tw733 : (Cond.selects RX1 yX1_passYear yX1_passYear) ∈ lwt := List.mem_filter.mpr ⟨List.mem_append_right _ (List.mem_of_getElem? (i := 733) (by decide +kernel)), rfl⟩
theorem tw734 : (Cond.code yX1_passYear cX1_passYear 4 (Option.none : Option FieldType)) ∈ lwt := List.mem_filter.mpr ⟨List.mem_append_right _ (List.mem_of_getElem? (i := 734) (by decide +kernel)), rfl⟩
theorem tw735 : (Cond.methodLink RX1 34 yX1_firstGoes) ∈ lwt := List.mem_filter.mpr ⟨List.mem_append_right _ (List.mem_of_getElem? (i := 735) (by decide +kernel)), rfl⟩
theorem tw737 : (Cond.instanceMethod yX1_firstGoes) ∈ lwt := List.mem_filter.mpr ⟨List.mem_append_right _ (List.mem_of_getElem? (i := 737) (by decide +kernel)), rfl⟩
theorem tw738 : (Cond.code yX1_firstGoes cX1_firstGoes 1 (Option.none : Option FieldType)) ∈ lwt := List.mem_filter.mpr ⟨List.mem_append_right _ (List.mem_of_getElem? (i := 738) (by decide +kernel)), rfl⟩
theorem tw739 : (Cond.methodLink RX1 63 arraycopyName) ∈ lwt := List.mem_filter.mpr ⟨List.mem_append_right _ (List.mem_of_getElem? (i := 739) (by decide +kernel)), rfl⟩
theorem tw740 : (Cond.static arraycopyName) ∈ lwt := List.mem_filter.mpr ⟨List.mem_append_right _ (List.mem_of_getElem? (i := 740) (by decide +kernel)), rfl⟩
theorem tw741 : (Cond.native arraycopyName) ∈ lwt := List.mem_filter.mpr ⟨List.mem_append_right _ (List.mem_of_getElem? (i := 741) (by decide +kernel)), rfl⟩
theorem tw742 : (Cond.methodLink RX1 37 yX0_begin) ∈ lwt := List.mem_filter.mpr ⟨List.mem_append_right _ (List.mem_of_getElem? (i := 742) (by decide +kernel)), rfl⟩
theorem tw743 : (Cond.methodLink RX1 40 yJ9_abs_0f7a4) ∈ lwt := List.mem_filter.mpr ⟨List.mem_append_right _ (List.mem_of_getElem? (i := 743) (by decide +kernel)), rfl⟩
theorem tw744 : (Cond.static yJ9_abs_0f7a4) ∈ lwt := List.mem_filter.mpr ⟨List.mem_append_right _ (List.mem_of_getElem? (i := 744) (by decide +kernel)), rfl⟩
theorem tw745 : (Cond.code yJ9_abs_0f7a4 cJ9_abs_0f7a4 1 (Option.some FieldType.int)) ∈ lwt := List.mem_filter.mpr ⟨List.mem_append_right _ (List.mem_of_getElem? (i := 745) (by decide +kernel)), rfl⟩
theorem tw746 : (Cond.methodLink RX1 46 yX0_seat) ∈ lwt := List.mem_filter.mpr ⟨List.mem_append_right _ (List.mem_of_getElem? (i := 746) (by decide +kernel)), rfl⟩
theorem tw747 : (Cond.methodLink RX1 50 yX0_hold) ∈ lwt := List.mem_filter.mpr ⟨List.mem_append_right _ (List.mem_of_getElem? (i := 747) (by decide +kernel)), rfl⟩
theorem tw748 : (Cond.methodLink RX11 279 yX1_unlikeTastes) ∈ lwt := List.mem_filter.mpr ⟨List.mem_append_right _ (List.mem_of_getElem? (i := 748) (by decide +kernel)), rfl⟩
theorem tw749 : (Cond.instanceMethod yX1_unlikeTastes) ∈ lwt := List.mem_filter.mpr ⟨List.mem_append_right _ (List.mem_of_getElem? (i := 749) (by decide +kernel)), rfl⟩
theorem tw750 : (Cond.selects RX1 yX1_unlikeTastes yX1_unlikeTastes) ∈ lwt := List.mem_filter.mpr ⟨List.mem_append_right _ (List.mem_of_getElem? (i := 750) (by decide +kernel)), rfl⟩
theorem tw751 : (Cond.code yX1_unlikeTastes cX1_unlikeTastes 3 (Option.some FieldType.int)) ∈ lwt := List.mem_filter.mpr ⟨List.mem_append_right _ (List.mem_of_getElem? (i := 751) (by decide +kernel)), rfl⟩
theorem tw752 : (Cond.methodLink RX1 58 yJ6_bitCount_0f7a4) ∈ lwt := List.mem_filter.mpr ⟨List.mem_append_right _ (List.mem_of_getElem? (i := 752) (by decide +kernel)), rfl⟩
theorem tw753 : (Cond.methodLink RL 139 yX11_lot) ∈ lwt := List.mem_filter.mpr ⟨List.mem_append_right _ (List.mem_of_getElem? (i := 753) (by decide +kernel)), rfl⟩
theorem tw754 : (Cond.instanceMethod yX11_lot) ∈ lwt := List.mem_filter.mpr ⟨List.mem_append_right _ (List.mem_of_getElem? (i := 754) (by decide +kernel)), rfl⟩
theorem tw755 : (Cond.selects RX11 yX11_lot yX11_lot) ∈ lwt := List.mem_filter.mpr ⟨List.mem_append_right _ (List.mem_of_getElem? (i := 755) (by decide +kernel)), rfl⟩
theorem tw756 : (Cond.code yX11_lot cX11_lot 3 (Option.some FieldType.int)) ∈ lwt := List.mem_filter.mpr ⟨List.mem_append_right _ (List.mem_of_getElem? (i := 756) (by decide +kernel)), rfl⟩
theorem tw757 : (Cond.methodLink RX11 285 yX11_howManyMinded) ∈ lwt := List.mem_filter.mpr ⟨List.mem_append_right _ (List.mem_of_getElem? (i := 757) (by decide +kernel)), rfl⟩
theorem tw759 : (Cond.instanceMethod yX11_howManyMinded) ∈ lwt := List.mem_filter.mpr ⟨List.mem_append_right _ (List.mem_of_getElem? (i := 759) (by decide +kernel)), rfl⟩
theorem tw760 : (Cond.code yX11_howManyMinded cX11_howManyMinded 3 (Option.some FieldType.int)) ∈ lwt := List.mem_filter.mpr ⟨List.mem_append_right _ (List.mem_of_getElem? (i := 760) (by decide +kernel)), rfl⟩
theorem tw761 : (Cond.methodLink RL 143 yX11_image) ∈ lwt := List.mem_filter.mpr ⟨List.mem_append_right _ (List.mem_of_getElem? (i := 761) (by decide +kernel)), rfl⟩
theorem tw762 : (Cond.instanceMethod yX11_image) ∈ lwt := List.mem_filter.mpr ⟨List.mem_append_right _ (List.mem_of_getElem? (i := 762) (by decide +kernel)), rfl⟩
theorem tw763 : (Cond.selects RX11 yX11_image yX11_image) ∈ lwt := List.mem_filter.mpr ⟨List.mem_append_right _ (List.mem_of_getElem? (i := 763) (by decide +kernel)), rfl⟩
theorem tw764 : (Cond.code yX11_image cX11_image 2 (Option.some FieldType.int)) ∈ lwt := List.mem_filter.mpr ⟨List.mem_append_right _ (List.mem_of_getElem? (i := 764) (by decide +kernel)), rfl⟩
theorem tw765 : (Cond.methodLink RX11 288 yX5_keep) ∈ lwt := List.mem_filter.mpr ⟨List.mem_append_right _ (List.mem_of_getElem? (i := 765) (by decide +kernel)), rfl⟩
theorem tw766 : (Cond.instanceMethod yX5_keep) ∈ lwt := List.mem_filter.mpr ⟨List.mem_append_right _ (List.mem_of_getElem? (i := 766) (by decide +kernel)), rfl⟩
theorem tw767 : (Cond.selects RX5 yX5_keep yX5_keep) ∈ lwt := List.mem_filter.mpr ⟨List.mem_append_right _ (List.mem_of_getElem? (i := 767) (by decide +kernel)), rfl⟩
theorem tw768 : (Cond.sameMethod RX5 RX5 "keep" "(I)V") ∈ lwt := List.mem_filter.mpr ⟨List.mem_append_right _ (List.mem_of_getElem? (i := 768) (by decide +kernel)), rfl⟩
theorem tw769 : (Cond.selects RX2 yX5_keep yX5_keep) ∈ lwt := List.mem_filter.mpr ⟨List.mem_append_right _ (List.mem_of_getElem? (i := 769) (by decide +kernel)), rfl⟩
theorem tw770 : (Cond.selects RX3 yX5_keep yX5_keep) ∈ lwt := List.mem_filter.mpr ⟨List.mem_append_right _ (List.mem_of_getElem? (i := 770) (by decide +kernel)), rfl⟩
theorem tw771 : (Cond.selects RX8 yX5_keep yX5_keep) ∈ lwt := List.mem_filter.mpr ⟨List.mem_append_right _ (List.mem_of_getElem? (i := 771) (by decide +kernel)), rfl⟩
theorem tw772 : (Cond.selects RX10 yX5_keep yX5_keep) ∈ lwt := List.mem_filter.mpr ⟨List.mem_append_right _ (List.mem_of_getElem? (i := 772) (by decide +kernel)), rfl⟩
theorem tw773 : (Cond.code yX5_keep cX5_keep 2 (Option.none : Option FieldType)) ∈ lwt := List.mem_filter.mpr ⟨List.mem_append_right _ (List.mem_of_getElem? (i := 773) (by decide +kernel)), rfl⟩
theorem tw774 : (Cond.methodLink RX5 36 yJ9_min_7cf53) ∈ lwt := List.mem_filter.mpr ⟨List.mem_append_right _ (List.mem_of_getElem? (i := 774) (by decide +kernel)), rfl⟩
theorem tw775 : (Cond.static yJ9_min_7cf53) ∈ lwt := List.mem_filter.mpr ⟨List.mem_append_right _ (List.mem_of_getElem? (i := 775) (by decide +kernel)), rfl⟩
theorem tw776 : (Cond.code yJ9_min_7cf53 cJ9_min_7cf53 2 (Option.some FieldType.int)) ∈ lwt := List.mem_filter.mpr ⟨List.mem_append_right _ (List.mem_of_getElem? (i := 776) (by decide +kernel)), rfl⟩
theorem tw777 : (Cond.methodLink RX5 45 arraycopyName) ∈ lwt := List.mem_filter.mpr ⟨List.mem_append_right _ (List.mem_of_getElem? (i := 777) (by decide +kernel)), rfl⟩
theorem tw778 : (Cond.methodLink RL 147 yX11_restore) ∈ lwt := List.mem_filter.mpr ⟨List.mem_append_right _ (List.mem_of_getElem? (i := 778) (by decide +kernel)), rfl⟩
theorem tw779 : (Cond.instanceMethod yX11_restore) ∈ lwt := List.mem_filter.mpr ⟨List.mem_append_right _ (List.mem_of_getElem? (i := 779) (by decide +kernel)), rfl⟩
theorem tw780 : (Cond.selects RX11 yX11_restore yX11_restore) ∈ lwt := List.mem_filter.mpr ⟨List.mem_append_right _ (List.mem_of_getElem? (i := 780) (by decide +kernel)), rfl⟩
theorem tw781 : (Cond.code yX11_restore cX11_restore 2 (Option.some FieldType.int)) ∈ lwt := List.mem_filter.mpr ⟨List.mem_append_right _ (List.mem_of_getElem? (i := 781) (by decide +kernel)), rfl⟩
theorem tw782 : (Cond.methodLink RX11 294 yX5_takeBack) ∈ lwt := List.mem_filter.mpr ⟨List.mem_append_right _ (List.mem_of_getElem? (i := 782) (by decide +kernel)), rfl⟩
theorem tw783 : (Cond.instanceMethod yX5_takeBack) ∈ lwt := List.mem_filter.mpr ⟨List.mem_append_right _ (List.mem_of_getElem? (i := 783) (by decide +kernel)), rfl⟩
theorem tw784 : (Cond.selects RX5 yX5_takeBack yX5_takeBack) ∈ lwt := List.mem_filter.mpr ⟨List.mem_append_right _ (List.mem_of_getElem? (i := 784) (by decide +kernel)), rfl⟩
theorem tw785 : (Cond.sameMethod RX5 RX5 "takeBack" "()V") ∈ lwt := List.mem_filter.mpr ⟨List.mem_append_right _ (List.mem_of_getElem? (i := 785) (by decide +kernel)), rfl⟩
theorem tw786 : (Cond.selects RX2 yX5_takeBack yX5_takeBack) ∈ lwt := List.mem_filter.mpr ⟨List.mem_append_right _ (List.mem_of_getElem? (i := 786) (by decide +kernel)), rfl⟩
theorem tw787 : (Cond.selects RX3 yX5_takeBack yX5_takeBack) ∈ lwt := List.mem_filter.mpr ⟨List.mem_append_right _ (List.mem_of_getElem? (i := 787) (by decide +kernel)), rfl⟩
theorem tw788 : (Cond.selects RX8 yX5_takeBack yX5_takeBack) ∈ lwt := List.mem_filter.mpr ⟨List.mem_append_right _ (List.mem_of_getElem? (i := 788) (by decide +kernel)), rfl⟩
theorem tw789 : (Cond.selects RX10 yX5_takeBack yX5_takeBack) ∈ lwt := List.mem_filter.mpr ⟨List.mem_append_right _ (List.mem_of_getElem? (i := 789) (by decide +kernel)), rfl⟩
theorem tw790 : (Cond.code yX5_takeBack cX5_takeBack 1 (Option.none : Option FieldType)) ∈ lwt := List.mem_filter.mpr ⟨List.mem_append_right _ (List.mem_of_getElem? (i := 790) (by decide +kernel)), rfl⟩
theorem tw791 : (Cond.methodLink RL 151 yX11_count) ∈ lwt := List.mem_filter.mpr ⟨List.mem_append_right _ (List.mem_of_getElem? (i := 791) (by decide +kernel)), rfl⟩
theorem tw792 : (Cond.instanceMethod yX11_count) ∈ lwt := List.mem_filter.mpr ⟨List.mem_append_right _ (List.mem_of_getElem? (i := 792) (by decide +kernel)), rfl⟩
theorem tw793 : (Cond.selects RX11 yX11_count yX11_count) ∈ lwt := List.mem_filter.mpr ⟨List.mem_append_right _ (List.mem_of_getElem? (i := 793) (by decide +kernel)), rfl⟩
theorem tw794 : (Cond.code yX11_count cX11_count 2 (Option.some FieldType.int)) ∈ lwt := List.mem_filter.mpr ⟨List.mem_append_right _ (List.mem_of_getElem? (i := 794) (by decide +kernel)), rfl⟩
theorem tw795 : (Cond.methodLink RL 155 yX11_digest) ∈ lwt := List.mem_filter.mpr ⟨List.mem_append_right _ (List.mem_of_getElem? (i := 795) (by decide +kernel)), rfl⟩
theorem tw796 : (Cond.instanceMethod yX11_digest) ∈ lwt := List.mem_filter.mpr ⟨List.mem_append_right _ (List.mem_of_getElem? (i := 796) (by decide +kernel)), rfl⟩
theorem tw797 : (Cond.selects RX11 yX11_digest yX11_digest) ∈ lwt := List.mem_filter.mpr ⟨List.mem_append_right _ (List.mem_of_getElem? (i := 797) (by decide +kernel)), rfl⟩
theorem tw798 : (Cond.code yX11_digest cX11_digest 4 (Option.some FieldType.long)) ∈ lwt := List.mem_filter.mpr ⟨List.mem_append_right _ (List.mem_of_getElem? (i := 798) (by decide +kernel)), rfl⟩
theorem tw799 : (Cond.constantLong RX11 300 (487 : Int64)) ∈ lwt := List.mem_filter.mpr ⟨List.mem_append_right _ (List.mem_of_getElem? (i := 799) (by decide +kernel)), rfl⟩
theorem tw800 : (Cond.methodLink RX11 302 yX11_digestRules) ∈ lwt := List.mem_filter.mpr ⟨List.mem_append_right _ (List.mem_of_getElem? (i := 800) (by decide +kernel)), rfl⟩
theorem tw802 : (Cond.instanceMethod yX11_digestRules) ∈ lwt := List.mem_filter.mpr ⟨List.mem_append_right _ (List.mem_of_getElem? (i := 802) (by decide +kernel)), rfl⟩
theorem tw803 : (Cond.code yX11_digestRules cX11_digestRules 7 (Option.some FieldType.long)) ∈ lwt := List.mem_filter.mpr ⟨List.mem_append_right _ (List.mem_of_getElem? (i := 803) (by decide +kernel)), rfl⟩
theorem tw804 : (Cond.methodLink RX11 320 yX11_mix) ∈ lwt := List.mem_filter.mpr ⟨List.mem_append_right _ (List.mem_of_getElem? (i := 804) (by decide +kernel)), rfl⟩
theorem tw805 : (Cond.static yX11_mix) ∈ lwt := List.mem_filter.mpr ⟨List.mem_append_right _ (List.mem_of_getElem? (i := 805) (by decide +kernel)), rfl⟩
theorem tw806 : (Cond.code yX11_mix cX11_mix 4 (Option.some FieldType.long)) ∈ lwt := List.mem_filter.mpr ⟨List.mem_append_right _ (List.mem_of_getElem? (i := 806) (by decide +kernel)), rfl⟩
theorem tw807 : (Cond.constantLong RX11 384 (31 : Int64)) ∈ lwt := List.mem_filter.mpr ⟨List.mem_append_right _ (List.mem_of_getElem? (i := 807) (by decide +kernel)), rfl⟩
theorem tw808 : (Cond.methodLink RX11 305 yX11_digestPeople) ∈ lwt := List.mem_filter.mpr ⟨List.mem_append_right _ (List.mem_of_getElem? (i := 808) (by decide +kernel)), rfl⟩
theorem tw810 : (Cond.instanceMethod yX11_digestPeople) ∈ lwt := List.mem_filter.mpr ⟨List.mem_append_right _ (List.mem_of_getElem? (i := 810) (by decide +kernel)), rfl⟩
theorem tw811 : (Cond.code yX11_digestPeople cX11_digestPeople 7 (Option.some FieldType.long)) ∈ lwt := List.mem_filter.mpr ⟨List.mem_append_right _ (List.mem_of_getElem? (i := 811) (by decide +kernel)), rfl⟩
theorem tw812 : (Cond.methodLink RX11 377 yX11_about) ∈ lwt := List.mem_filter.mpr ⟨List.mem_append_right _ (List.mem_of_getElem? (i := 812) (by decide +kernel)), rfl⟩
theorem tw813 : (Cond.methodLink RX11 308 yX11_digestCandidates) ∈ lwt := List.mem_filter.mpr ⟨List.mem_append_right _ (List.mem_of_getElem? (i := 813) (by decide +kernel)), rfl⟩
theorem tw815 : (Cond.instanceMethod yX11_digestCandidates) ∈ lwt := List.mem_filter.mpr ⟨List.mem_append_right _ (List.mem_of_getElem? (i := 815) (by decide +kernel)), rfl⟩
theorem tw816 : (Cond.code yX11_digestCandidates cX11_digestCandidates 7 (Option.some FieldType.long)) ∈ lwt := List.mem_filter.mpr ⟨List.mem_append_right _ (List.mem_of_getElem? (i := 816) (by decide +kernel)), rfl⟩
theorem tw817 : (Cond.methodLink RX11 381 yX11_friend) ∈ lwt := List.mem_filter.mpr ⟨List.mem_append_right _ (List.mem_of_getElem? (i := 817) (by decide +kernel)), rfl⟩
theorem tw818 : (Cond.methodLink RX11 311 yX11_digestIn) ∈ lwt := List.mem_filter.mpr ⟨List.mem_append_right _ (List.mem_of_getElem? (i := 818) (by decide +kernel)), rfl⟩
theorem tw820 : (Cond.instanceMethod yX11_digestIn) ∈ lwt := List.mem_filter.mpr ⟨List.mem_append_right _ (List.mem_of_getElem? (i := 820) (by decide +kernel)), rfl⟩
theorem tw821 : (Cond.code yX11_digestIn cX11_digestIn 11 (Option.some FieldType.long)) ∈ lwt := List.mem_filter.mpr ⟨List.mem_append_right _ (List.mem_of_getElem? (i := 821) (by decide +kernel)), rfl⟩
theorem tw822 : (Cond.methodLink RX11 314 yX4_digestLetters) ∈ lwt := List.mem_filter.mpr ⟨List.mem_append_right _ (List.mem_of_getElem? (i := 822) (by decide +kernel)), rfl⟩
theorem tw823 : (Cond.instanceMethod yX4_digestLetters) ∈ lwt := List.mem_filter.mpr ⟨List.mem_append_right _ (List.mem_of_getElem? (i := 823) (by decide +kernel)), rfl⟩
theorem tw824 : (Cond.selects RX4 yX4_digestLetters yX4_digestLetters) ∈ lwt := List.mem_filter.mpr ⟨List.mem_append_right _ (List.mem_of_getElem? (i := 824) (by decide +kernel)), rfl⟩
theorem tw825 : (Cond.code yX4_digestLetters cX4_digestLetters 6 (Option.some FieldType.long)) ∈ lwt := List.mem_filter.mpr ⟨List.mem_append_right _ (List.mem_of_getElem? (i := 825) (by decide +kernel)), rfl⟩
theorem tn826 : (Cond.methodLinkNest RX4 48 yX11_mix RX11) ∈ lw_tbl := List.mem_append_right _ (List.mem_of_getElem? (i := 826) (by decide +kernel))
theorem tw827 : (Cond.methodLink RX11 317 yX11_count) ∈ lwt := List.mem_filter.mpr ⟨List.mem_append_right _ (List.mem_of_getElem? (i := 827) (by decide +kernel)), rfl⟩
theorem tw828 : (Cond.classLink RL 10 RX12) ∈ lwt := List.mem_filter.mpr ⟨List.mem_append_right _ (List.mem_of_getElem? (i := 828) (by decide +kernel)), rfl⟩
theorem tw829 : (Cond.instantiable RX12 37) ∈ lwt := List.mem_filter.mpr ⟨List.mem_append_right _ (List.mem_of_getElem? (i := 829) (by decide +kernel)), rfl⟩
theorem tw830 : (Cond.methodLink RL 12 yX12_init) ∈ lwt := List.mem_filter.mpr ⟨List.mem_append_right _ (List.mem_of_getElem? (i := 830) (by decide +kernel)), rfl⟩
theorem tw831 : (Cond.instanceMethod yX12_init) ∈ lwt := List.mem_filter.mpr ⟨List.mem_append_right _ (List.mem_of_getElem? (i := 831) (by decide +kernel)), rfl⟩
theorem tw832 : (Cond.code yX12_init cX12_init 1 (Option.none : Option FieldType)) ∈ lwt := List.mem_filter.mpr ⟨List.mem_append_right _ (List.mem_of_getElem? (i := 832) (by decide +kernel)), rfl⟩
theorem tw833 : (Cond.methodLink RX12 1 objectInit) ∈ lwt := List.mem_filter.mpr ⟨List.mem_append_right _ (List.mem_of_getElem? (i := 833) (by decide +kernel)), rfl⟩
theorem tw834 : (Cond.fieldLink RX12 119 RX12 "members" "I") ∈ lwt := List.mem_filter.mpr ⟨List.mem_append_right _ (List.mem_of_getElem? (i := 834) (by decide +kernel)), rfl⟩
theorem tw835 : (Cond.fieldLink RX12 7 RX12 "kindOf" "[I") ∈ lwt := List.mem_filter.mpr ⟨List.mem_append_right _ (List.mem_of_getElem? (i := 835) (by decide +kernel)), rfl⟩
theorem tw836 : (Cond.fieldLink RX12 13 RX12 "numberOf" "[I") ∈ lwt := List.mem_filter.mpr ⟨List.mem_append_right _ (List.mem_of_getElem? (i := 836) (by decide +kernel)), rfl⟩
theorem tw837 : (Cond.fieldLink RX12 16 RX12 "comesOf" "[I") ∈ lwt := List.mem_filter.mpr ⟨List.mem_append_right _ (List.mem_of_getElem? (i := 837) (by decide +kernel)), rfl⟩
theorem tw838 : (Cond.fieldLink RX12 122 RX12 "candidates" "I") ∈ lwt := List.mem_filter.mpr ⟨List.mem_append_right _ (List.mem_of_getElem? (i := 838) (by decide +kernel)), rfl⟩
theorem tw839 : (Cond.fieldLink RX12 19 RX12 "friendOf" "[I") ∈ lwt := List.mem_filter.mpr ⟨List.mem_append_right _ (List.mem_of_getElem? (i := 839) (by decide +kernel)), rfl⟩
theorem tw840 : (Cond.fieldLink RX12 22 RX12 "mindsOf" "[I") ∈ lwt := List.mem_filter.mpr ⟨List.mem_append_right _ (List.mem_of_getElem? (i := 840) (by decide +kernel)), rfl⟩
theorem tw841 : (Cond.fieldLink RX12 110 RX12 "rules" "I") ∈ lwt := List.mem_filter.mpr ⟨List.mem_append_right _ (List.mem_of_getElem? (i := 841) (by decide +kernel)), rfl⟩
theorem tw842 : (Cond.fieldLink RX12 25 RX12 "blacksOf" "[I") ∈ lwt := List.mem_filter.mpr ⟨List.mem_append_right _ (List.mem_of_getElem? (i := 842) (by decide +kernel)), rfl⟩
theorem tw843 : (Cond.fieldLink RX12 28 RX12 "ratioOf" "[I") ∈ lwt := List.mem_filter.mpr ⟨List.mem_append_right _ (List.mem_of_getElem? (i := 843) (by decide +kernel)), rfl⟩
theorem tw844 : (Cond.fieldLink RX12 31 RX12 "quorumOf" "[I") ∈ lwt := List.mem_filter.mpr ⟨List.mem_append_right _ (List.mem_of_getElem? (i := 844) (by decide +kernel)), rfl⟩
theorem tw845 : (Cond.fieldLink RX12 34 RX12 "isTwice" "[Z") ∈ lwt := List.mem_filter.mpr ⟨List.mem_append_right _ (List.mem_of_getElem? (i := 845) (by decide +kernel)), rfl⟩
theorem tw846 : (Cond.fieldLink RX12 38 RX12 "isTold" "[Z") ∈ lwt := List.mem_filter.mpr ⟨List.mem_append_right _ (List.mem_of_getElem? (i := 846) (by decide +kernel)), rfl⟩
theorem tw847 : (Cond.fieldLink RX12 69 RX12 "pageLength" "I") ∈ lwt := List.mem_filter.mpr ⟨List.mem_append_right _ (List.mem_of_getElem? (i := 847) (by decide +kernel)), rfl⟩
theorem tw848 : (Cond.fieldLink RX12 41 RX12 "page" "[B") ∈ lwt := List.mem_filter.mpr ⟨List.mem_append_right _ (List.mem_of_getElem? (i := 848) (by decide +kernel)), rfl⟩
theorem tw849 : (Cond.fieldLink RX12 274 RX12 "isKept" "Z") ∈ lwt := List.mem_filter.mpr ⟨List.mem_append_right _ (List.mem_of_getElem? (i := 849) (by decide +kernel)), rfl⟩
theorem tw850 : (Cond.fieldLink RX12 277 RX12 "keptMembers" "I") ∈ lwt := List.mem_filter.mpr ⟨List.mem_append_right _ (List.mem_of_getElem? (i := 850) (by decide +kernel)), rfl⟩
theorem tw851 : (Cond.fieldLink RX12 280 RX12 "keptCandidates" "I") ∈ lwt := List.mem_filter.mpr ⟨List.mem_append_right _ (List.mem_of_getElem? (i := 851) (by decide +kernel)), rfl⟩
theorem tw852 : (Cond.fieldLink RX12 45 RX12 "keptComes" "[I") ∈ lwt := List.mem_filter.mpr ⟨List.mem_append_right _ (List.mem_of_getElem? (i := 852) (by decide +kernel)), rfl⟩
theorem tw853 : (Cond.fieldLink RX12 48 RX12 "keptMinds" "[I") ∈ lwt := List.mem_filter.mpr ⟨List.mem_append_right _ (List.mem_of_getElem? (i := 853) (by decide +kernel)), rfl⟩
theorem tw854 : (Cond.fieldLink RX12 101 RX12 "faultAt" "I") ∈ lwt := List.mem_filter.mpr ⟨List.mem_append_right _ (List.mem_of_getElem? (i := 854) (by decide +kernel)), rfl⟩
theorem tw855 : (Cond.fieldLink RX12 104 RX12 "isWhole" "Z") ∈ lwt := List.mem_filter.mpr ⟨List.mem_append_right _ (List.mem_of_getElem? (i := 855) (by decide +kernel)), rfl⟩
theorem tw856 : (Cond.fieldLink RX12 73 RX12 "newBlacks" "I") ∈ lwt := List.mem_filter.mpr ⟨List.mem_append_right _ (List.mem_of_getElem? (i := 856) (by decide +kernel)), rfl⟩
theorem tw857 : (Cond.fieldLink RX12 76 RX12 "newRatio" "I") ∈ lwt := List.mem_filter.mpr ⟨List.mem_append_right _ (List.mem_of_getElem? (i := 857) (by decide +kernel)), rfl⟩
theorem tw858 : (Cond.fieldLink RX12 83 RX12 "newQuorum" "I") ∈ lwt := List.mem_filter.mpr ⟨List.mem_append_right _ (List.mem_of_getElem? (i := 858) (by decide +kernel)), rfl⟩
theorem tw859 : (Cond.fieldLink RX12 86 RX12 "newTwice" "Z") ∈ lwt := List.mem_filter.mpr ⟨List.mem_append_right _ (List.mem_of_getElem? (i := 859) (by decide +kernel)), rfl⟩
theorem tw860 : (Cond.fieldLink RX12 90 RX12 "newTold" "Z") ∈ lwt := List.mem_filter.mpr ⟨List.mem_append_right _ (List.mem_of_getElem? (i := 860) (by decide +kernel)), rfl⟩
theorem tw861 : (Cond.fieldLink RX12 51 RX12 "ways" "[J") ∈ lwt := List.mem_filter.mpr ⟨List.mem_append_right _ (List.mem_of_getElem? (i := 861) (by decide +kernel)), rfl⟩
theorem tw862 : (Cond.fieldLink RX12 210 RX12 "seedNow" "J") ∈ lwt := List.mem_filter.mpr ⟨List.mem_append_right _ (List.mem_of_getElem? (i := 862) (by decide +kernel)), rfl⟩
theorem tw863 : (Cond.fieldLink RX12 230 RX12 "tradeX" "I") ∈ lwt := List.mem_filter.mpr ⟨List.mem_append_right _ (List.mem_of_getElem? (i := 863) (by decide +kernel)), rfl⟩
theorem tw864 : (Cond.fieldLink RX12 233 RX12 "tradeY" "I") ∈ lwt := List.mem_filter.mpr ⟨List.mem_append_right _ (List.mem_of_getElem? (i := 864) (by decide +kernel)), rfl⟩
theorem tw865 : (Cond.fieldLink RX12 227 RX12 "tradeA" "I") ∈ lwt := List.mem_filter.mpr ⟨List.mem_append_right _ (List.mem_of_getElem? (i := 865) (by decide +kernel)), rfl⟩
theorem tw866 : (Cond.fieldLink RX12 240 RX12 "tradeB" "I") ∈ lwt := List.mem_filter.mpr ⟨List.mem_append_right _ (List.mem_of_getElem? (i := 866) (by decide +kernel)), rfl⟩
theorem tw867 : (Cond.fieldLink RX12 55 RX12 "expected" "[J") ∈ lwt := List.mem_filter.mpr ⟨List.mem_append_right _ (List.mem_of_getElem? (i := 867) (by decide +kernel)), rfl⟩
theorem tw868 : (Cond.fieldLink RX12 258 RX12 "people" "I") ∈ lwt := List.mem_filter.mpr ⟨List.mem_append_right _ (List.mem_of_getElem? (i := 868) (by decide +kernel)), rfl⟩
theorem tw869 : (Cond.fieldLink RX12 58 RX12 "taste" "[I") ∈ lwt := List.mem_filter.mpr ⟨List.mem_append_right _ (List.mem_of_getElem? (i := 869) (by decide +kernel)), rfl⟩
theorem tw870 : (Cond.fieldLink RX12 288 RX12 "h" "J") ∈ lwt := List.mem_filter.mpr ⟨List.mem_append_right _ (List.mem_of_getElem? (i := 870) (by decide +kernel)), rfl⟩
theorem tw871 : (Cond.lays RX12 RX12 "members" "I") ∈ lwt := List.mem_filter.mpr ⟨List.mem_append_right _ (List.mem_of_getElem? (i := 871) (by decide +kernel)), rfl⟩
theorem tw873 : (Cond.laysFinal RX12 RX12 "kindOf" "[I") ∈ lwt := List.mem_filter.mpr ⟨List.mem_append_right _ (List.mem_of_getElem? (i := 873) (by decide +kernel)), rfl⟩
theorem tw875 : (Cond.laysFinal RX12 RX12 "numberOf" "[I") ∈ lwt := List.mem_filter.mpr ⟨List.mem_append_right _ (List.mem_of_getElem? (i := 875) (by decide +kernel)), rfl⟩
theorem tw877 : (Cond.laysFinal RX12 RX12 "comesOf" "[I") ∈ lwt := List.mem_filter.mpr ⟨List.mem_append_right _ (List.mem_of_getElem? (i := 877) (by decide +kernel)), rfl⟩
theorem tw879 : (Cond.lays RX12 RX12 "candidates" "I") ∈ lwt := List.mem_filter.mpr ⟨List.mem_append_right _ (List.mem_of_getElem? (i := 879) (by decide +kernel)), rfl⟩
theorem tw881 : (Cond.laysFinal RX12 RX12 "friendOf" "[I") ∈ lwt := List.mem_filter.mpr ⟨List.mem_append_right _ (List.mem_of_getElem? (i := 881) (by decide +kernel)), rfl⟩
theorem tw883 : (Cond.laysFinal RX12 RX12 "mindsOf" "[I") ∈ lwt := List.mem_filter.mpr ⟨List.mem_append_right _ (List.mem_of_getElem? (i := 883) (by decide +kernel)), rfl⟩
theorem tw885 : (Cond.lays RX12 RX12 "rules" "I") ∈ lwt := List.mem_filter.mpr ⟨List.mem_append_right _ (List.mem_of_getElem? (i := 885) (by decide +kernel)), rfl⟩
theorem tw887 : (Cond.laysFinal RX12 RX12 "blacksOf" "[I") ∈ lwt := List.mem_filter.mpr ⟨List.mem_append_right _ (List.mem_of_getElem? (i := 887) (by decide +kernel)), rfl⟩
theorem tw889 : (Cond.laysFinal RX12 RX12 "ratioOf" "[I") ∈ lwt := List.mem_filter.mpr ⟨List.mem_append_right _ (List.mem_of_getElem? (i := 889) (by decide +kernel)), rfl⟩
theorem tw891 : (Cond.laysFinal RX12 RX12 "quorumOf" "[I") ∈ lwt := List.mem_filter.mpr ⟨List.mem_append_right _ (List.mem_of_getElem? (i := 891) (by decide +kernel)), rfl⟩
theorem tw893 : (Cond.laysFinal RX12 RX12 "isTwice" "[Z") ∈ lwt := List.mem_filter.mpr ⟨List.mem_append_right _ (List.mem_of_getElem? (i := 893) (by decide +kernel)), rfl⟩
theorem tw895 : (Cond.laysFinal RX12 RX12 "isTold" "[Z") ∈ lwt := List.mem_filter.mpr ⟨List.mem_append_right _ (List.mem_of_getElem? (i := 895) (by decide +kernel)), rfl⟩
theorem tw897 : (Cond.lays RX12 RX12 "pageLength" "I") ∈ lwt := List.mem_filter.mpr ⟨List.mem_append_right _ (List.mem_of_getElem? (i := 897) (by decide +kernel)), rfl⟩
theorem tw899 : (Cond.laysFinal RX12 RX12 "page" "[B") ∈ lwt := List.mem_filter.mpr ⟨List.mem_append_right _ (List.mem_of_getElem? (i := 899) (by decide +kernel)), rfl⟩
theorem tw901 : (Cond.lays RX12 RX12 "isKept" "Z") ∈ lwt := List.mem_filter.mpr ⟨List.mem_append_right _ (List.mem_of_getElem? (i := 901) (by decide +kernel)), rfl⟩
theorem tw903 : (Cond.lays RX12 RX12 "keptMembers" "I") ∈ lwt := List.mem_filter.mpr ⟨List.mem_append_right _ (List.mem_of_getElem? (i := 903) (by decide +kernel)), rfl⟩
theorem tw905 : (Cond.lays RX12 RX12 "keptCandidates" "I") ∈ lwt := List.mem_filter.mpr ⟨List.mem_append_right _ (List.mem_of_getElem? (i := 905) (by decide +kernel)), rfl⟩
theorem tw907 : (Cond.laysFinal RX12 RX12 "keptComes" "[I") ∈ lwt := List.mem_filter.mpr ⟨List.mem_append_right _ (List.mem_of_getElem? (i := 907) (by decide +kernel)), rfl⟩
theorem tw909 : (Cond.laysFinal RX12 RX12 "keptMinds" "[I") ∈ lwt := List.mem_filter.mpr ⟨List.mem_append_right _ (List.mem_of_getElem? (i := 909) (by decide +kernel)), rfl⟩
theorem tw911 : (Cond.lays RX12 RX12 "faultAt" "I") ∈ lwt := List.mem_filter.mpr ⟨List.mem_append_right _ (List.mem_of_getElem? (i := 911) (by decide +kernel)), rfl⟩
theorem tw913 : (Cond.lays RX12 RX12 "isWhole" "Z") ∈ lwt := List.mem_filter.mpr ⟨List.mem_append_right _ (List.mem_of_getElem? (i := 913) (by decide +kernel)), rfl⟩
theorem tw915 : (Cond.lays RX12 RX12 "newBlacks" "I") ∈ lwt := List.mem_filter.mpr ⟨List.mem_append_right _ (List.mem_of_getElem? (i := 915) (by decide +kernel)), rfl⟩
theorem tw917 : (Cond.lays RX12 RX12 "newRatio" "I") ∈ lwt := List.mem_filter.mpr ⟨List.mem_append_right _ (List.mem_of_getElem? (i := 917) (by decide +kernel)), rfl⟩
theorem tw919 : (Cond.lays RX12 RX12 "newQuorum" "I") ∈ lwt := List.mem_filter.mpr ⟨List.mem_append_right _ (List.mem_of_getElem? (i := 919) (by decide +kernel)), rfl⟩
theorem tw921 : (Cond.lays RX12 RX12 "newTwice" "Z") ∈ lwt := List.mem_filter.mpr ⟨List.mem_append_right _ (List.mem_of_getElem? (i := 921) (by decide +kernel)), rfl⟩
theorem tw923 : (Cond.lays RX12 RX12 "newTold" "Z") ∈ lwt := List.mem_filter.mpr ⟨List.mem_append_right _ (List.mem_of_getElem? (i := 923) (by decide +kernel)), rfl⟩
theorem tw925 : (Cond.laysFinal RX12 RX12 "ways" "[J") ∈ lwt := List.mem_filter.mpr ⟨List.mem_append_right _ (List.mem_of_getElem? (i := 925) (by decide +kernel)), rfl⟩
theorem tw927 : (Cond.lays RX12 RX12 "seedNow" "J") ∈ lwt := List.mem_filter.mpr ⟨List.mem_append_right _ (List.mem_of_getElem? (i := 927) (by decide +kernel)), rfl⟩
theorem tw929 : (Cond.lays RX12 RX12 "tradeX" "I") ∈ lwt := List.mem_filter.mpr ⟨List.mem_append_right _ (List.mem_of_getElem? (i := 929) (by decide +kernel)), rfl⟩
theorem tw931 : (Cond.lays RX12 RX12 "tradeY" "I") ∈ lwt := List.mem_filter.mpr ⟨List.mem_append_right _ (List.mem_of_getElem? (i := 931) (by decide +kernel)), rfl⟩
theorem tw933 : (Cond.lays RX12 RX12 "tradeA" "I") ∈ lwt := List.mem_filter.mpr ⟨List.mem_append_right _ (List.mem_of_getElem? (i := 933) (by decide +kernel)), rfl⟩
theorem tw935 : (Cond.lays RX12 RX12 "tradeB" "I") ∈ lwt := List.mem_filter.mpr ⟨List.mem_append_right _ (List.mem_of_getElem? (i := 935) (by decide +kernel)), rfl⟩
theorem tw937 : (Cond.laysFinal RX12 RX12 "expected" "[J") ∈ lwt := List.mem_filter.mpr ⟨List.mem_append_right _ (List.mem_of_getElem? (i := 937) (by decide +kernel)), rfl⟩
theorem tw939 : (Cond.lays RX12 RX12 "people" "I") ∈ lwt := List.mem_filter.mpr ⟨List.mem_append_right _ (List.mem_of_getElem? (i := 939) (by decide +kernel)), rfl⟩
theorem tw941 : (Cond.laysFinal RX12 RX12 "taste" "[I") ∈ lwt := List.mem_filter.mpr ⟨List.mem_append_right _ (List.mem_of_getElem? (i := 941) (by decide +kernel)), rfl⟩
theorem tw943 : (Cond.lays RX12 RX12 "h" "J") ∈ lwt := List.mem_filter.mpr ⟨List.mem_append_right _ (List.mem_of_getElem? (i := 943) (by decide +kernel)), rfl⟩
theorem tw946 : (Cond.arrayClass FieldType.boolean) ∈ lwt := List.mem_filter.mpr ⟨List.mem_append_right _ (List.mem_of_getElem? (i := 946) (by decide +kernel)), rfl⟩
theorem tw947 : (Cond.arrayClass FieldType.byte) ∈ lwt := List.mem_filter.mpr ⟨List.mem_append_right _ (List.mem_of_getElem? (i := 947) (by decide +kernel)), rfl⟩
theorem tw948 : (Cond.methodLink RL 19 yX12_letters) ∈ lwt := List.mem_filter.mpr ⟨List.mem_append_right _ (List.mem_of_getElem? (i := 948) (by decide +kernel)), rfl⟩
theorem tw949 : (Cond.instanceMethod yX12_letters) ∈ lwt := List.mem_filter.mpr ⟨List.mem_append_right _ (List.mem_of_getElem? (i := 949) (by decide +kernel)), rfl⟩
theorem tw950 : (Cond.selects RX12 yX12_letters yX12_letters) ∈ lwt := List.mem_filter.mpr ⟨List.mem_append_right _ (List.mem_of_getElem? (i := 950) (by decide +kernel)), rfl⟩
theorem tw951 : (Cond.code yX12_letters cX12_letters 7 (Option.some FieldType.int)) ∈ lwt := List.mem_filter.mpr ⟨List.mem_append_right _ (List.mem_of_getElem? (i := 951) (by decide +kernel)), rfl⟩
theorem tw952 : (Cond.constantLong RX12 67 (255 : Int64)) ∈ lwt := List.mem_filter.mpr ⟨List.mem_append_right _ (List.mem_of_getElem? (i := 952) (by decide +kernel)), rfl⟩
theorem tw953 : (Cond.methodLink RL 24 yX12_blank) ∈ lwt := List.mem_filter.mpr ⟨List.mem_append_right _ (List.mem_of_getElem? (i := 953) (by decide +kernel)), rfl⟩
theorem tw954 : (Cond.instanceMethod yX12_blank) ∈ lwt := List.mem_filter.mpr ⟨List.mem_append_right _ (List.mem_of_getElem? (i := 954) (by decide +kernel)), rfl⟩
theorem tw955 : (Cond.selects RX12 yX12_blank yX12_blank) ∈ lwt := List.mem_filter.mpr ⟨List.mem_append_right _ (List.mem_of_getElem? (i := 955) (by decide +kernel)), rfl⟩
theorem tw956 : (Cond.code yX12_blank cX12_blank 2 (Option.some FieldType.int)) ∈ lwt := List.mem_filter.mpr ⟨List.mem_append_right _ (List.mem_of_getElem? (i := 956) (by decide +kernel)), rfl⟩
theorem tw957 : (Cond.methodLink RL 28 yX12_fault) ∈ lwt := List.mem_filter.mpr ⟨List.mem_append_right _ (List.mem_of_getElem? (i := 957) (by decide +kernel)), rfl⟩
theorem tw958 : (Cond.instanceMethod yX12_fault) ∈ lwt := List.mem_filter.mpr ⟨List.mem_append_right _ (List.mem_of_getElem? (i := 958) (by decide +kernel)), rfl⟩
theorem tw959 : (Cond.selects RX12 yX12_fault yX12_fault) ∈ lwt := List.mem_filter.mpr ⟨List.mem_append_right _ (List.mem_of_getElem? (i := 959) (by decide +kernel)), rfl⟩
theorem tw960 : (Cond.code yX12_fault cX12_fault 1 (Option.some FieldType.int)) ∈ lwt := List.mem_filter.mpr ⟨List.mem_append_right _ (List.mem_of_getElem? (i := 960) (by decide +kernel)), rfl⟩
theorem tw961 : (Cond.methodLink RX12 107 yX12_readPage) ∈ lwt := List.mem_filter.mpr ⟨List.mem_append_right _ (List.mem_of_getElem? (i := 961) (by decide +kernel)), rfl⟩
theorem tw963 : (Cond.instanceMethod yX12_readPage) ∈ lwt := List.mem_filter.mpr ⟨List.mem_append_right _ (List.mem_of_getElem? (i := 963) (by decide +kernel)), rfl⟩
theorem tw964 : (Cond.code yX12_readPage cX12_readPage 5 (Option.none : Option FieldType)) ∈ lwt := List.mem_filter.mpr ⟨List.mem_append_right _ (List.mem_of_getElem? (i := 964) (by decide +kernel)), rfl⟩
theorem tw965 : (Cond.methodLink RX12 97 yX12_next) ∈ lwt := List.mem_filter.mpr ⟨List.mem_append_right _ (List.mem_of_getElem? (i := 965) (by decide +kernel)), rfl⟩
theorem tw967 : (Cond.instanceMethod yX12_next) ∈ lwt := List.mem_filter.mpr ⟨List.mem_append_right _ (List.mem_of_getElem? (i := 967) (by decide +kernel)), rfl⟩
theorem tw968 : (Cond.code yX12_next cX12_next 3 (Option.some FieldType.int)) ∈ lwt := List.mem_filter.mpr ⟨List.mem_append_right _ (List.mem_of_getElem? (i := 968) (by decide +kernel)), rfl⟩
theorem tw969 : (Cond.methodLink RX12 61 yX12_within) ∈ lwt := List.mem_filter.mpr ⟨List.mem_append_right _ (List.mem_of_getElem? (i := 969) (by decide +kernel)), rfl⟩
theorem tw970 : (Cond.static yX12_within) ∈ lwt := List.mem_filter.mpr ⟨List.mem_append_right _ (List.mem_of_getElem? (i := 970) (by decide +kernel)), rfl⟩
theorem tw971 : (Cond.code yX12_within cX12_within 3 (Option.some FieldType.boolean)) ∈ lwt := List.mem_filter.mpr ⟨List.mem_append_right _ (List.mem_of_getElem? (i := 971) (by decide +kernel)), rfl⟩
theorem tw972 : (Cond.methodLink RX12 79 yX12_nextRatio) ∈ lwt := List.mem_filter.mpr ⟨List.mem_append_right _ (List.mem_of_getElem? (i := 972) (by decide +kernel)), rfl⟩
theorem tw974 : (Cond.instanceMethod yX12_nextRatio) ∈ lwt := List.mem_filter.mpr ⟨List.mem_append_right _ (List.mem_of_getElem? (i := 974) (by decide +kernel)), rfl⟩
theorem tw975 : (Cond.code yX12_nextRatio cX12_nextRatio 3 (Option.some FieldType.int)) ∈ lwt := List.mem_filter.mpr ⟨List.mem_append_right _ (List.mem_of_getElem? (i := 975) (by decide +kernel)), rfl⟩
theorem tw976 : (Cond.methodLink RX12 93 yX12_isDigit) ∈ lwt := List.mem_filter.mpr ⟨List.mem_append_right _ (List.mem_of_getElem? (i := 976) (by decide +kernel)), rfl⟩
theorem tw977 : (Cond.static yX12_isDigit) ∈ lwt := List.mem_filter.mpr ⟨List.mem_append_right _ (List.mem_of_getElem? (i := 977) (by decide +kernel)), rfl⟩
theorem tw978 : (Cond.code yX12_isDigit cX12_isDigit 1 (Option.some FieldType.boolean)) ∈ lwt := List.mem_filter.mpr ⟨List.mem_append_right _ (List.mem_of_getElem? (i := 978) (by decide +kernel)), rfl⟩
theorem tw979 : (Cond.methodLink RL 32 yX12_rule) ∈ lwt := List.mem_filter.mpr ⟨List.mem_append_right _ (List.mem_of_getElem? (i := 979) (by decide +kernel)), rfl⟩
theorem tw980 : (Cond.instanceMethod yX12_rule) ∈ lwt := List.mem_filter.mpr ⟨List.mem_append_right _ (List.mem_of_getElem? (i := 980) (by decide +kernel)), rfl⟩
theorem tw981 : (Cond.selects RX12 yX12_rule yX12_rule) ∈ lwt := List.mem_filter.mpr ⟨List.mem_append_right _ (List.mem_of_getElem? (i := 981) (by decide +kernel)), rfl⟩
theorem tw982 : (Cond.code yX12_rule cX12_rule 1 (Option.some FieldType.int)) ∈ lwt := List.mem_filter.mpr ⟨List.mem_append_right _ (List.mem_of_getElem? (i := 982) (by decide +kernel)), rfl⟩
theorem tw983 : (Cond.methodLink RL 37 yX12_ruleTold) ∈ lwt := List.mem_filter.mpr ⟨List.mem_append_right _ (List.mem_of_getElem? (i := 983) (by decide +kernel)), rfl⟩
theorem tw984 : (Cond.instanceMethod yX12_ruleTold) ∈ lwt := List.mem_filter.mpr ⟨List.mem_append_right _ (List.mem_of_getElem? (i := 984) (by decide +kernel)), rfl⟩
theorem tw985 : (Cond.selects RX12 yX12_ruleTold yX12_ruleTold) ∈ lwt := List.mem_filter.mpr ⟨List.mem_append_right _ (List.mem_of_getElem? (i := 985) (by decide +kernel)), rfl⟩
theorem tw986 : (Cond.code yX12_ruleTold cX12_ruleTold 3 (Option.some FieldType.int)) ∈ lwt := List.mem_filter.mpr ⟨List.mem_append_right _ (List.mem_of_getElem? (i := 986) (by decide +kernel)), rfl⟩
theorem tw987 : (Cond.methodLink RX12 113 yX12_isRule) ∈ lwt := List.mem_filter.mpr ⟨List.mem_append_right _ (List.mem_of_getElem? (i := 987) (by decide +kernel)), rfl⟩
theorem tw989 : (Cond.instanceMethod yX12_isRule) ∈ lwt := List.mem_filter.mpr ⟨List.mem_append_right _ (List.mem_of_getElem? (i := 989) (by decide +kernel)), rfl⟩
theorem tw990 : (Cond.code yX12_isRule cX12_isRule 2 (Option.some FieldType.boolean)) ∈ lwt := List.mem_filter.mpr ⟨List.mem_append_right _ (List.mem_of_getElem? (i := 990) (by decide +kernel)), rfl⟩
theorem tw991 : (Cond.methodLink RX12 116 yX12_ruleNow) ∈ lwt := List.mem_filter.mpr ⟨List.mem_append_right _ (List.mem_of_getElem? (i := 991) (by decide +kernel)), rfl⟩
theorem tw993 : (Cond.instanceMethod yX12_ruleNow) ∈ lwt := List.mem_filter.mpr ⟨List.mem_append_right _ (List.mem_of_getElem? (i := 993) (by decide +kernel)), rfl⟩
theorem tw994 : (Cond.code yX12_ruleNow cX12_ruleNow 3 (Option.some FieldType.int)) ∈ lwt := List.mem_filter.mpr ⟨List.mem_append_right _ (List.mem_of_getElem? (i := 994) (by decide +kernel)), rfl⟩
theorem tw995 : (Cond.methodLink RL 42 yX12_member) ∈ lwt := List.mem_filter.mpr ⟨List.mem_append_right _ (List.mem_of_getElem? (i := 995) (by decide +kernel)), rfl⟩
theorem tw996 : (Cond.instanceMethod yX12_member) ∈ lwt := List.mem_filter.mpr ⟨List.mem_append_right _ (List.mem_of_getElem? (i := 996) (by decide +kernel)), rfl⟩
theorem tw997 : (Cond.selects RX12 yX12_member yX12_member) ∈ lwt := List.mem_filter.mpr ⟨List.mem_append_right _ (List.mem_of_getElem? (i := 997) (by decide +kernel)), rfl⟩
theorem tw998 : (Cond.code yX12_member cX12_member 4 (Option.some FieldType.int)) ∈ lwt := List.mem_filter.mpr ⟨List.mem_append_right _ (List.mem_of_getElem? (i := 998) (by decide +kernel)), rfl⟩
theorem tw999 : (Cond.methodLink RX12 125 yX12_isMember) ∈ lwt := List.mem_filter.mpr ⟨List.mem_append_right _ (List.mem_of_getElem? (i := 999) (by decide +kernel)), rfl⟩
theorem tw1001 : (Cond.instanceMethod yX12_isMember) ∈ lwt := List.mem_filter.mpr ⟨List.mem_append_right _ (List.mem_of_getElem? (i := 1001) (by decide +kernel)), rfl⟩
theorem tw1002 : (Cond.code yX12_isMember cX12_isMember 2 (Option.some FieldType.boolean)) ∈ lwt := List.mem_filter.mpr ⟨List.mem_append_right _ (List.mem_of_getElem? (i := 1002) (by decide +kernel)), rfl⟩
theorem tw1003 : (Cond.methodLink RL 46 yX12_as) ∈ lwt := List.mem_filter.mpr ⟨List.mem_append_right _ (List.mem_of_getElem? (i := 1003) (by decide +kernel)), rfl⟩
theorem tw1004 : (Cond.instanceMethod yX12_as) ∈ lwt := List.mem_filter.mpr ⟨List.mem_append_right _ (List.mem_of_getElem? (i := 1004) (by decide +kernel)), rfl⟩
theorem tw1005 : (Cond.selects RX12 yX12_as yX12_as) ∈ lwt := List.mem_filter.mpr ⟨List.mem_append_right _ (List.mem_of_getElem? (i := 1005) (by decide +kernel)), rfl⟩
theorem tw1006 : (Cond.code yX12_as cX12_as 4 (Option.some FieldType.int)) ∈ lwt := List.mem_filter.mpr ⟨List.mem_append_right _ (List.mem_of_getElem? (i := 1006) (by decide +kernel)), rfl⟩
theorem tw1007 : (Cond.methodLink RL 50 yX12_about) ∈ lwt := List.mem_filter.mpr ⟨List.mem_append_right _ (List.mem_of_getElem? (i := 1007) (by decide +kernel)), rfl⟩
theorem tw1008 : (Cond.instanceMethod yX12_about) ∈ lwt := List.mem_filter.mpr ⟨List.mem_append_right _ (List.mem_of_getElem? (i := 1008) (by decide +kernel)), rfl⟩
theorem tw1009 : (Cond.selects RX12 yX12_about yX12_about) ∈ lwt := List.mem_filter.mpr ⟨List.mem_append_right _ (List.mem_of_getElem? (i := 1009) (by decide +kernel)), rfl⟩
theorem tw1010 : (Cond.code yX12_about cX12_about 3 (Option.some FieldType.int)) ∈ lwt := List.mem_filter.mpr ⟨List.mem_append_right _ (List.mem_of_getElem? (i := 1010) (by decide +kernel)), rfl⟩
theorem tw1011 : (Cond.methodLink RX12 128 yX12_memberNow) ∈ lwt := List.mem_filter.mpr ⟨List.mem_append_right _ (List.mem_of_getElem? (i := 1011) (by decide +kernel)), rfl⟩
theorem tw1013 : (Cond.instanceMethod yX12_memberNow) ∈ lwt := List.mem_filter.mpr ⟨List.mem_append_right _ (List.mem_of_getElem? (i := 1013) (by decide +kernel)), rfl⟩
theorem tw1014 : (Cond.code yX12_memberNow cX12_memberNow 3 (Option.some FieldType.int)) ∈ lwt := List.mem_filter.mpr ⟨List.mem_append_right _ (List.mem_of_getElem? (i := 1014) (by decide +kernel)), rfl⟩
theorem tw1015 : (Cond.methodLink RL 54 yX12_comes) ∈ lwt := List.mem_filter.mpr ⟨List.mem_append_right _ (List.mem_of_getElem? (i := 1015) (by decide +kernel)), rfl⟩
theorem tw1016 : (Cond.instanceMethod yX12_comes) ∈ lwt := List.mem_filter.mpr ⟨List.mem_append_right _ (List.mem_of_getElem? (i := 1016) (by decide +kernel)), rfl⟩
theorem tw1017 : (Cond.selects RX12 yX12_comes yX12_comes) ∈ lwt := List.mem_filter.mpr ⟨List.mem_append_right _ (List.mem_of_getElem? (i := 1017) (by decide +kernel)), rfl⟩
theorem tw1018 : (Cond.code yX12_comes cX12_comes 4 (Option.some FieldType.int)) ∈ lwt := List.mem_filter.mpr ⟨List.mem_append_right _ (List.mem_of_getElem? (i := 1018) (by decide +kernel)), rfl⟩
theorem tw1019 : (Cond.methodLink RL 59 yX12_candidate) ∈ lwt := List.mem_filter.mpr ⟨List.mem_append_right _ (List.mem_of_getElem? (i := 1019) (by decide +kernel)), rfl⟩
theorem tw1020 : (Cond.instanceMethod yX12_candidate) ∈ lwt := List.mem_filter.mpr ⟨List.mem_append_right _ (List.mem_of_getElem? (i := 1020) (by decide +kernel)), rfl⟩
theorem tw1021 : (Cond.selects RX12 yX12_candidate yX12_candidate) ∈ lwt := List.mem_filter.mpr ⟨List.mem_append_right _ (List.mem_of_getElem? (i := 1021) (by decide +kernel)), rfl⟩
theorem tw1022 : (Cond.code yX12_candidate cX12_candidate 2 (Option.some FieldType.int)) ∈ lwt := List.mem_filter.mpr ⟨List.mem_append_right _ (List.mem_of_getElem? (i := 1022) (by decide +kernel)), rfl⟩
theorem tw1023 : (Cond.methodLink RL 63 yX12_minds) ∈ lwt := List.mem_filter.mpr ⟨List.mem_append_right _ (List.mem_of_getElem? (i := 1023) (by decide +kernel)), rfl⟩
theorem tw1024 : (Cond.instanceMethod yX12_minds) ∈ lwt := List.mem_filter.mpr ⟨List.mem_append_right _ (List.mem_of_getElem? (i := 1024) (by decide +kernel)), rfl⟩
theorem tw1025 : (Cond.selects RX12 yX12_minds yX12_minds) ∈ lwt := List.mem_filter.mpr ⟨List.mem_append_right _ (List.mem_of_getElem? (i := 1025) (by decide +kernel)), rfl⟩
theorem tw1026 : (Cond.code yX12_minds cX12_minds 5 (Option.some FieldType.int)) ∈ lwt := List.mem_filter.mpr ⟨List.mem_append_right _ (List.mem_of_getElem? (i := 1026) (by decide +kernel)), rfl⟩
theorem tw1027 : (Cond.methodLink RX12 131 yX12_isCandidate) ∈ lwt := List.mem_filter.mpr ⟨List.mem_append_right _ (List.mem_of_getElem? (i := 1027) (by decide +kernel)), rfl⟩
theorem tw1029 : (Cond.instanceMethod yX12_isCandidate) ∈ lwt := List.mem_filter.mpr ⟨List.mem_append_right _ (List.mem_of_getElem? (i := 1029) (by decide +kernel)), rfl⟩
theorem tw1030 : (Cond.code yX12_isCandidate cX12_isCandidate 2 (Option.some FieldType.boolean)) ∈ lwt := List.mem_filter.mpr ⟨List.mem_append_right _ (List.mem_of_getElem? (i := 1030) (by decide +kernel)), rfl⟩
theorem tw1031 : (Cond.methodLink RL 67 yX12_friend) ∈ lwt := List.mem_filter.mpr ⟨List.mem_append_right _ (List.mem_of_getElem? (i := 1031) (by decide +kernel)), rfl⟩
theorem tw1032 : (Cond.instanceMethod yX12_friend) ∈ lwt := List.mem_filter.mpr ⟨List.mem_append_right _ (List.mem_of_getElem? (i := 1032) (by decide +kernel)), rfl⟩
theorem tw1033 : (Cond.selects RX12 yX12_friend yX12_friend) ∈ lwt := List.mem_filter.mpr ⟨List.mem_append_right _ (List.mem_of_getElem? (i := 1033) (by decide +kernel)), rfl⟩
theorem tw1034 : (Cond.code yX12_friend cX12_friend 3 (Option.some FieldType.int)) ∈ lwt := List.mem_filter.mpr ⟨List.mem_append_right _ (List.mem_of_getElem? (i := 1034) (by decide +kernel)), rfl⟩
theorem tw1035 : (Cond.methodLink RX12 140 yX12_candidateNow) ∈ lwt := List.mem_filter.mpr ⟨List.mem_append_right _ (List.mem_of_getElem? (i := 1035) (by decide +kernel)), rfl⟩
theorem tw1037 : (Cond.instanceMethod yX12_candidateNow) ∈ lwt := List.mem_filter.mpr ⟨List.mem_append_right _ (List.mem_of_getElem? (i := 1037) (by decide +kernel)), rfl⟩
theorem tw1038 : (Cond.code yX12_candidateNow cX12_candidateNow 3 (Option.some FieldType.int)) ∈ lwt := List.mem_filter.mpr ⟨List.mem_append_right _ (List.mem_of_getElem? (i := 1038) (by decide +kernel)), rfl⟩
theorem tw1039 : (Cond.methodLink RX12 137 yX12_isMinded) ∈ lwt := List.mem_filter.mpr ⟨List.mem_append_right _ (List.mem_of_getElem? (i := 1039) (by decide +kernel)), rfl⟩
theorem tw1041 : (Cond.instanceMethod yX12_isMinded) ∈ lwt := List.mem_filter.mpr ⟨List.mem_append_right _ (List.mem_of_getElem? (i := 1041) (by decide +kernel)), rfl⟩
theorem tw1042 : (Cond.code yX12_isMinded cX12_isMinded 2 (Option.some FieldType.boolean)) ∈ lwt := List.mem_filter.mpr ⟨List.mem_append_right _ (List.mem_of_getElem? (i := 1042) (by decide +kernel)), rfl⟩
theorem tw1043 : (Cond.methodLink RX12 134 yX12_mindedBy) ∈ lwt := List.mem_filter.mpr ⟨List.mem_append_right _ (List.mem_of_getElem? (i := 1043) (by decide +kernel)), rfl⟩
theorem tw1045 : (Cond.instanceMethod yX12_mindedBy) ∈ lwt := List.mem_filter.mpr ⟨List.mem_append_right _ (List.mem_of_getElem? (i := 1045) (by decide +kernel)), rfl⟩
theorem tw1046 : (Cond.code yX12_mindedBy cX12_mindedBy 4 (Option.some FieldType.int)) ∈ lwt := List.mem_filter.mpr ⟨List.mem_append_right _ (List.mem_of_getElem? (i := 1046) (by decide +kernel)), rfl⟩
theorem tw1047 : (Cond.methodLink RL 72 yX12_black) ∈ lwt := List.mem_filter.mpr ⟨List.mem_append_right _ (List.mem_of_getElem? (i := 1047) (by decide +kernel)), rfl⟩
theorem tw1048 : (Cond.instanceMethod yX12_black) ∈ lwt := List.mem_filter.mpr ⟨List.mem_append_right _ (List.mem_of_getElem? (i := 1048) (by decide +kernel)), rfl⟩
theorem tw1049 : (Cond.selects RX12 yX12_black yX12_black) ∈ lwt := List.mem_filter.mpr ⟨List.mem_append_right _ (List.mem_of_getElem? (i := 1049) (by decide +kernel)), rfl⟩
theorem tw1050 : (Cond.code yX12_black cX12_black 5 (Option.some FieldType.int)) ∈ lwt := List.mem_filter.mpr ⟨List.mem_append_right _ (List.mem_of_getElem? (i := 1050) (by decide +kernel)), rfl⟩
theorem tw1051 : (Cond.methodLink RX12 143 yX12_areComers) ∈ lwt := List.mem_filter.mpr ⟨List.mem_append_right _ (List.mem_of_getElem? (i := 1051) (by decide +kernel)), rfl⟩
theorem tw1053 : (Cond.instanceMethod yX12_areComers) ∈ lwt := List.mem_filter.mpr ⟨List.mem_append_right _ (List.mem_of_getElem? (i := 1053) (by decide +kernel)), rfl⟩
theorem tw1054 : (Cond.code yX12_areComers cX12_areComers 2 (Option.some FieldType.boolean)) ∈ lwt := List.mem_filter.mpr ⟨List.mem_append_right _ (List.mem_of_getElem? (i := 1054) (by decide +kernel)), rfl⟩
theorem tw1055 : (Cond.methodLink RX12 146 yX12_has) ∈ lwt := List.mem_filter.mpr ⟨List.mem_append_right _ (List.mem_of_getElem? (i := 1055) (by decide +kernel)), rfl⟩
theorem tw1056 : (Cond.static yX12_has) ∈ lwt := List.mem_filter.mpr ⟨List.mem_append_right _ (List.mem_of_getElem? (i := 1056) (by decide +kernel)), rfl⟩
theorem tw1057 : (Cond.code yX12_has cX12_has 2 (Option.some FieldType.boolean)) ∈ lwt := List.mem_filter.mpr ⟨List.mem_append_right _ (List.mem_of_getElem? (i := 1057) (by decide +kernel)), rfl⟩
theorem tw1058 : (Cond.methodLink RX12 150 yX12_ones) ∈ lwt := List.mem_filter.mpr ⟨List.mem_append_right _ (List.mem_of_getElem? (i := 1058) (by decide +kernel)), rfl⟩
theorem tw1059 : (Cond.static yX12_ones) ∈ lwt := List.mem_filter.mpr ⟨List.mem_append_right _ (List.mem_of_getElem? (i := 1059) (by decide +kernel)), rfl⟩
theorem tw1060 : (Cond.code yX12_ones cX12_ones 3 (Option.some FieldType.int)) ∈ lwt := List.mem_filter.mpr ⟨List.mem_append_right _ (List.mem_of_getElem? (i := 1060) (by decide +kernel)), rfl⟩
theorem tw1061 : (Cond.methodLink RX12 153 yX12_blackBy) ∈ lwt := List.mem_filter.mpr ⟨List.mem_append_right _ (List.mem_of_getElem? (i := 1061) (by decide +kernel)), rfl⟩
theorem tw1063 : (Cond.instanceMethod yX12_blackBy) ∈ lwt := List.mem_filter.mpr ⟨List.mem_append_right _ (List.mem_of_getElem? (i := 1063) (by decide +kernel)), rfl⟩
theorem tw1064 : (Cond.code yX12_blackBy cX12_blackBy 6 (Option.some FieldType.int)) ∈ lwt := List.mem_filter.mpr ⟨List.mem_append_right _ (List.mem_of_getElem? (i := 1064) (by decide +kernel)), rfl⟩
theorem tw1065 : (Cond.methodLink RL 77 yX12_balls) ∈ lwt := List.mem_filter.mpr ⟨List.mem_append_right _ (List.mem_of_getElem? (i := 1065) (by decide +kernel)), rfl⟩
theorem tw1066 : (Cond.instanceMethod yX12_balls) ∈ lwt := List.mem_filter.mpr ⟨List.mem_append_right _ (List.mem_of_getElem? (i := 1066) (by decide +kernel)), rfl⟩
theorem tw1067 : (Cond.selects RX12 yX12_balls yX12_balls) ∈ lwt := List.mem_filter.mpr ⟨List.mem_append_right _ (List.mem_of_getElem? (i := 1067) (by decide +kernel)), rfl⟩
theorem tw1068 : (Cond.code yX12_balls cX12_balls 6 (Option.some FieldType.int)) ∈ lwt := List.mem_filter.mpr ⟨List.mem_append_right _ (List.mem_of_getElem? (i := 1068) (by decide +kernel)), rfl⟩
theorem tw1069 : (Cond.methodLink RX12 172 yX12_areThere) ∈ lwt := List.mem_filter.mpr ⟨List.mem_append_right _ (List.mem_of_getElem? (i := 1069) (by decide +kernel)), rfl⟩
theorem tw1071 : (Cond.instanceMethod yX12_areThere) ∈ lwt := List.mem_filter.mpr ⟨List.mem_append_right _ (List.mem_of_getElem? (i := 1071) (by decide +kernel)), rfl⟩
theorem tw1072 : (Cond.code yX12_areThere cX12_areThere 3 (Option.some FieldType.boolean)) ∈ lwt := List.mem_filter.mpr ⟨List.mem_append_right _ (List.mem_of_getElem? (i := 1072) (by decide +kernel)), rfl⟩
theorem tw1073 : (Cond.methodLink RX12 175 yX12_isPart) ∈ lwt := List.mem_filter.mpr ⟨List.mem_append_right _ (List.mem_of_getElem? (i := 1073) (by decide +kernel)), rfl⟩
theorem tw1074 : (Cond.static yX12_isPart) ∈ lwt := List.mem_filter.mpr ⟨List.mem_append_right _ (List.mem_of_getElem? (i := 1074) (by decide +kernel)), rfl⟩
theorem tw1075 : (Cond.code yX12_isPart cX12_isPart 1 (Option.some FieldType.boolean)) ∈ lwt := List.mem_filter.mpr ⟨List.mem_append_right _ (List.mem_of_getElem? (i := 1075) (by decide +kernel)), rfl⟩
theorem tw1076 : (Cond.methodLink RX12 157 yX12_layWays) ∈ lwt := List.mem_filter.mpr ⟨List.mem_append_right _ (List.mem_of_getElem? (i := 1076) (by decide +kernel)), rfl⟩
theorem tw1078 : (Cond.instanceMethod yX12_layWays) ∈ lwt := List.mem_filter.mpr ⟨List.mem_append_right _ (List.mem_of_getElem? (i := 1078) (by decide +kernel)), rfl⟩
theorem tw1079 : (Cond.code yX12_layWays cX12_layWays 9 (Option.none : Option FieldType)) ∈ lwt := List.mem_filter.mpr ⟨List.mem_append_right _ (List.mem_of_getElem? (i := 1079) (by decide +kernel)), rfl⟩
theorem tw1080 : (Cond.methodLink RX12 168 yX12_tens) ∈ lwt := List.mem_filter.mpr ⟨List.mem_append_right _ (List.mem_of_getElem? (i := 1080) (by decide +kernel)), rfl⟩
theorem tw1081 : (Cond.static yX12_tens) ∈ lwt := List.mem_filter.mpr ⟨List.mem_append_right _ (List.mem_of_getElem? (i := 1081) (by decide +kernel)), rfl⟩
theorem tw1082 : (Cond.code yX12_tens cX12_tens 4 (Option.some FieldType.long)) ∈ lwt := List.mem_filter.mpr ⟨List.mem_append_right _ (List.mem_of_getElem? (i := 1082) (by decide +kernel)), rfl⟩
theorem tw1083 : (Cond.constantLong RX12 65 (10 : Int64)) ∈ lwt := List.mem_filter.mpr ⟨List.mem_append_right _ (List.mem_of_getElem? (i := 1083) (by decide +kernel)), rfl⟩
theorem tw1084 : (Cond.methodLink RX12 178 yX12_lowest) ∈ lwt := List.mem_filter.mpr ⟨List.mem_append_right _ (List.mem_of_getElem? (i := 1084) (by decide +kernel)), rfl⟩
theorem tw1085 : (Cond.static yX12_lowest) ∈ lwt := List.mem_filter.mpr ⟨List.mem_append_right _ (List.mem_of_getElem? (i := 1085) (by decide +kernel)), rfl⟩
theorem tw1086 : (Cond.code yX12_lowest cX12_lowest 11 (Option.some FieldType.long)) ∈ lwt := List.mem_filter.mpr ⟨List.mem_append_right _ (List.mem_of_getElem? (i := 1086) (by decide +kernel)), rfl⟩
theorem tw1087 : (Cond.methodLink RL 82 yX12_in) ∈ lwt := List.mem_filter.mpr ⟨List.mem_append_right _ (List.mem_of_getElem? (i := 1087) (by decide +kernel)), rfl⟩
theorem tw1088 : (Cond.instanceMethod yX12_in) ∈ lwt := List.mem_filter.mpr ⟨List.mem_append_right _ (List.mem_of_getElem? (i := 1088) (by decide +kernel)), rfl⟩
theorem tw1089 : (Cond.selects RX12 yX12_in yX12_in) ∈ lwt := List.mem_filter.mpr ⟨List.mem_append_right _ (List.mem_of_getElem? (i := 1089) (by decide +kernel)), rfl⟩
theorem tw1090 : (Cond.code yX12_in cX12_in 5 (Option.some FieldType.long)) ∈ lwt := List.mem_filter.mpr ⟨List.mem_append_right _ (List.mem_of_getElem? (i := 1090) (by decide +kernel)), rfl⟩
theorem tw1091 : (Cond.constantLong RX12 182 (-101 : Int64)) ∈ lwt := List.mem_filter.mpr ⟨List.mem_append_right _ (List.mem_of_getElem? (i := 1091) (by decide +kernel)), rfl⟩
theorem tw1092 : (Cond.constantLong RX12 184 (-102 : Int64)) ∈ lwt := List.mem_filter.mpr ⟨List.mem_append_right _ (List.mem_of_getElem? (i := 1092) (by decide +kernel)), rfl⟩
theorem tw1093 : (Cond.methodLink RX12 186 yX12_inBy) ∈ lwt := List.mem_filter.mpr ⟨List.mem_append_right _ (List.mem_of_getElem? (i := 1093) (by decide +kernel)), rfl⟩
theorem tw1095 : (Cond.instanceMethod yX12_inBy) ∈ lwt := List.mem_filter.mpr ⟨List.mem_append_right _ (List.mem_of_getElem? (i := 1095) (by decide +kernel)), rfl⟩
theorem tw1096 : (Cond.code yX12_inBy cX12_inBy 7 (Option.some FieldType.long)) ∈ lwt := List.mem_filter.mpr ⟨List.mem_append_right _ (List.mem_of_getElem? (i := 1096) (by decide +kernel)), rfl⟩
theorem tw1097 : (Cond.methodLink RX12 164 yX12_shutBy) ∈ lwt := List.mem_filter.mpr ⟨List.mem_append_right _ (List.mem_of_getElem? (i := 1097) (by decide +kernel)), rfl⟩
theorem tw1099 : (Cond.instanceMethod yX12_shutBy) ∈ lwt := List.mem_filter.mpr ⟨List.mem_append_right _ (List.mem_of_getElem? (i := 1099) (by decide +kernel)), rfl⟩
theorem tw1100 : (Cond.code yX12_shutBy cX12_shutBy 8 (Option.some FieldType.long)) ∈ lwt := List.mem_filter.mpr ⟨List.mem_append_right _ (List.mem_of_getElem? (i := 1100) (by decide +kernel)), rfl⟩
theorem tw1101 : (Cond.methodLink RX12 161 yX12_shuts) ∈ lwt := List.mem_filter.mpr ⟨List.mem_append_right _ (List.mem_of_getElem? (i := 1101) (by decide +kernel)), rfl⟩
theorem tw1103 : (Cond.instanceMethod yX12_shuts) ∈ lwt := List.mem_filter.mpr ⟨List.mem_append_right _ (List.mem_of_getElem? (i := 1103) (by decide +kernel)), rfl⟩
theorem tw1104 : (Cond.code yX12_shuts cX12_shuts 4 (Option.some FieldType.boolean)) ∈ lwt := List.mem_filter.mpr ⟨List.mem_append_right _ (List.mem_of_getElem? (i := 1104) (by decide +kernel)), rfl⟩
theorem tw1105 : (Cond.methodLink RL 87 yX12_large) ∈ lwt := List.mem_filter.mpr ⟨List.mem_append_right _ (List.mem_of_getElem? (i := 1105) (by decide +kernel)), rfl⟩
theorem tw1106 : (Cond.instanceMethod yX12_large) ∈ lwt := List.mem_filter.mpr ⟨List.mem_append_right _ (List.mem_of_getElem? (i := 1106) (by decide +kernel)), rfl⟩
theorem tw1107 : (Cond.selects RX12 yX12_large yX12_large) ∈ lwt := List.mem_filter.mpr ⟨List.mem_append_right _ (List.mem_of_getElem? (i := 1107) (by decide +kernel)), rfl⟩
theorem tw1108 : (Cond.code yX12_large cX12_large 10 (Option.some FieldType.long)) ∈ lwt := List.mem_filter.mpr ⟨List.mem_append_right _ (List.mem_of_getElem? (i := 1108) (by decide +kernel)), rfl⟩
theorem tw1109 : (Cond.constantLong RX12 190 (-103 : Int64)) ∈ lwt := List.mem_filter.mpr ⟨List.mem_append_right _ (List.mem_of_getElem? (i := 1109) (by decide +kernel)), rfl⟩
theorem tw1110 : (Cond.methodLink RX12 192 yX12_comesBy) ∈ lwt := List.mem_filter.mpr ⟨List.mem_append_right _ (List.mem_of_getElem? (i := 1110) (by decide +kernel)), rfl⟩
theorem tw1112 : (Cond.instanceMethod yX12_comesBy) ∈ lwt := List.mem_filter.mpr ⟨List.mem_append_right _ (List.mem_of_getElem? (i := 1112) (by decide +kernel)), rfl⟩
theorem tw1113 : (Cond.code yX12_comesBy cX12_comesBy 5 (Option.some FieldType.long)) ∈ lwt := List.mem_filter.mpr ⟨List.mem_append_right _ (List.mem_of_getElem? (i := 1113) (by decide +kernel)), rfl⟩
theorem tw1114 : (Cond.methodLink RL 92 yX12_wrong) ∈ lwt := List.mem_filter.mpr ⟨List.mem_append_right _ (List.mem_of_getElem? (i := 1114) (by decide +kernel)), rfl⟩
theorem tw1115 : (Cond.instanceMethod yX12_wrong) ∈ lwt := List.mem_filter.mpr ⟨List.mem_append_right _ (List.mem_of_getElem? (i := 1115) (by decide +kernel)), rfl⟩
theorem tw1116 : (Cond.selects RX12 yX12_wrong yX12_wrong) ∈ lwt := List.mem_filter.mpr ⟨List.mem_append_right _ (List.mem_of_getElem? (i := 1116) (by decide +kernel)), rfl⟩
theorem tw1117 : (Cond.code yX12_wrong cX12_wrong 3 (Option.some FieldType.long)) ∈ lwt := List.mem_filter.mpr ⟨List.mem_append_right _ (List.mem_of_getElem? (i := 1117) (by decide +kernel)), rfl⟩
theorem tw1118 : (Cond.methodLink RX12 195 yX12_wrongBy) ∈ lwt := List.mem_filter.mpr ⟨List.mem_append_right _ (List.mem_of_getElem? (i := 1118) (by decide +kernel)), rfl⟩
theorem tw1120 : (Cond.instanceMethod yX12_wrongBy) ∈ lwt := List.mem_filter.mpr ⟨List.mem_append_right _ (List.mem_of_getElem? (i := 1120) (by decide +kernel)), rfl⟩
theorem tw1121 : (Cond.code yX12_wrongBy cX12_wrongBy 8 (Option.some FieldType.long)) ∈ lwt := List.mem_filter.mpr ⟨List.mem_append_right _ (List.mem_of_getElem? (i := 1121) (by decide +kernel)), rfl⟩
theorem tw1122 : (Cond.methodLink RL 96 yX12_best) ∈ lwt := List.mem_filter.mpr ⟨List.mem_append_right _ (List.mem_of_getElem? (i := 1122) (by decide +kernel)), rfl⟩
theorem tw1123 : (Cond.instanceMethod yX12_best) ∈ lwt := List.mem_filter.mpr ⟨List.mem_append_right _ (List.mem_of_getElem? (i := 1123) (by decide +kernel)), rfl⟩
theorem tw1124 : (Cond.selects RX12 yX12_best yX12_best) ∈ lwt := List.mem_filter.mpr ⟨List.mem_append_right _ (List.mem_of_getElem? (i := 1124) (by decide +kernel)), rfl⟩
theorem tw1125 : (Cond.code yX12_best cX12_best 9 (Option.some FieldType.int)) ∈ lwt := List.mem_filter.mpr ⟨List.mem_append_right _ (List.mem_of_getElem? (i := 1125) (by decide +kernel)), rfl⟩
theorem tw1126 : (Cond.methodLink RL 101 yX12_who) ∈ lwt := List.mem_filter.mpr ⟨List.mem_append_right _ (List.mem_of_getElem? (i := 1126) (by decide +kernel)), rfl⟩
theorem tw1127 : (Cond.instanceMethod yX12_who) ∈ lwt := List.mem_filter.mpr ⟨List.mem_append_right _ (List.mem_of_getElem? (i := 1127) (by decide +kernel)), rfl⟩
theorem tw1128 : (Cond.selects RX12 yX12_who yX12_who) ∈ lwt := List.mem_filter.mpr ⟨List.mem_append_right _ (List.mem_of_getElem? (i := 1128) (by decide +kernel)), rfl⟩
theorem tw1129 : (Cond.code yX12_who cX12_who 17 (Option.some FieldType.int)) ∈ lwt := List.mem_filter.mpr ⟨List.mem_append_right _ (List.mem_of_getElem? (i := 1129) (by decide +kernel)), rfl⟩
theorem tw1130 : (Cond.methodLink RX12 199 yX12_isAsked) ∈ lwt := List.mem_filter.mpr ⟨List.mem_append_right _ (List.mem_of_getElem? (i := 1130) (by decide +kernel)), rfl⟩
theorem tw1132 : (Cond.instanceMethod yX12_isAsked) ∈ lwt := List.mem_filter.mpr ⟨List.mem_append_right _ (List.mem_of_getElem? (i := 1132) (by decide +kernel)), rfl⟩
theorem tw1133 : (Cond.code yX12_isAsked cX12_isAsked 4 (Option.some FieldType.boolean)) ∈ lwt := List.mem_filter.mpr ⟨List.mem_append_right _ (List.mem_of_getElem? (i := 1133) (by decide +kernel)), rfl⟩
theorem tw1134 : (Cond.methodLink RL 106 yX12_heard) ∈ lwt := List.mem_filter.mpr ⟨List.mem_append_right _ (List.mem_of_getElem? (i := 1134) (by decide +kernel)), rfl⟩
theorem tw1135 : (Cond.instanceMethod yX12_heard) ∈ lwt := List.mem_filter.mpr ⟨List.mem_append_right _ (List.mem_of_getElem? (i := 1135) (by decide +kernel)), rfl⟩
theorem tw1136 : (Cond.selects RX12 yX12_heard yX12_heard) ∈ lwt := List.mem_filter.mpr ⟨List.mem_append_right _ (List.mem_of_getElem? (i := 1136) (by decide +kernel)), rfl⟩
theorem tw1137 : (Cond.code yX12_heard cX12_heard 11 (Option.some FieldType.int)) ∈ lwt := List.mem_filter.mpr ⟨List.mem_append_right _ (List.mem_of_getElem? (i := 1137) (by decide +kernel)), rfl⟩
theorem tw1138 : (Cond.methodLink RL 110 yX12_sway) ∈ lwt := List.mem_filter.mpr ⟨List.mem_append_right _ (List.mem_of_getElem? (i := 1138) (by decide +kernel)), rfl⟩
theorem tw1139 : (Cond.instanceMethod yX12_sway) ∈ lwt := List.mem_filter.mpr ⟨List.mem_append_right _ (List.mem_of_getElem? (i := 1139) (by decide +kernel)), rfl⟩
theorem tw1140 : (Cond.selects RX12 yX12_sway yX12_sway) ∈ lwt := List.mem_filter.mpr ⟨List.mem_append_right _ (List.mem_of_getElem? (i := 1140) (by decide +kernel)), rfl⟩
theorem tw1141 : (Cond.code yX12_sway cX12_sway 13 (Option.some FieldType.int)) ∈ lwt := List.mem_filter.mpr ⟨List.mem_append_right _ (List.mem_of_getElem? (i := 1141) (by decide +kernel)), rfl⟩
theorem tw1142 : (Cond.constantLong RX12 202 (100 : Int64)) ∈ lwt := List.mem_filter.mpr ⟨List.mem_append_right _ (List.mem_of_getElem? (i := 1142) (by decide +kernel)), rfl⟩
theorem tw1143 : (Cond.methodLink RL 114 yX12_word) ∈ lwt := List.mem_filter.mpr ⟨List.mem_append_right _ (List.mem_of_getElem? (i := 1143) (by decide +kernel)), rfl⟩
theorem tw1144 : (Cond.instanceMethod yX12_word) ∈ lwt := List.mem_filter.mpr ⟨List.mem_append_right _ (List.mem_of_getElem? (i := 1144) (by decide +kernel)), rfl⟩
theorem tw1145 : (Cond.selects RX12 yX12_word yX12_word) ∈ lwt := List.mem_filter.mpr ⟨List.mem_append_right _ (List.mem_of_getElem? (i := 1145) (by decide +kernel)), rfl⟩
theorem tw1146 : (Cond.code yX12_word cX12_word 6 (Option.some FieldType.int)) ∈ lwt := List.mem_filter.mpr ⟨List.mem_append_right _ (List.mem_of_getElem? (i := 1146) (by decide +kernel)), rfl⟩
theorem tw1147 : (Cond.methodLink RX12 204 yX12_withdraws) ∈ lwt := List.mem_filter.mpr ⟨List.mem_append_right _ (List.mem_of_getElem? (i := 1147) (by decide +kernel)), rfl⟩
theorem tw1149 : (Cond.instanceMethod yX12_withdraws) ∈ lwt := List.mem_filter.mpr ⟨List.mem_append_right _ (List.mem_of_getElem? (i := 1149) (by decide +kernel)), rfl⟩
theorem tw1150 : (Cond.code yX12_withdraws cX12_withdraws 5 (Option.some FieldType.boolean)) ∈ lwt := List.mem_filter.mpr ⟨List.mem_append_right _ (List.mem_of_getElem? (i := 1150) (by decide +kernel)), rfl⟩
theorem tw1151 : (Cond.methodLink RL 118 yX12_seen) ∈ lwt := List.mem_filter.mpr ⟨List.mem_append_right _ (List.mem_of_getElem? (i := 1151) (by decide +kernel)), rfl⟩
theorem tw1152 : (Cond.instanceMethod yX12_seen) ∈ lwt := List.mem_filter.mpr ⟨List.mem_append_right _ (List.mem_of_getElem? (i := 1152) (by decide +kernel)), rfl⟩
theorem tw1153 : (Cond.selects RX12 yX12_seen yX12_seen) ∈ lwt := List.mem_filter.mpr ⟨List.mem_append_right _ (List.mem_of_getElem? (i := 1153) (by decide +kernel)), rfl⟩
theorem tw1154 : (Cond.code yX12_seen cX12_seen 10 (Option.some FieldType.long)) ∈ lwt := List.mem_filter.mpr ⟨List.mem_append_right _ (List.mem_of_getElem? (i := 1154) (by decide +kernel)), rfl⟩
theorem tw1155 : (Cond.methodLink RL 122 yX12_evening) ∈ lwt := List.mem_filter.mpr ⟨List.mem_append_right _ (List.mem_of_getElem? (i := 1155) (by decide +kernel)), rfl⟩
theorem tw1156 : (Cond.instanceMethod yX12_evening) ∈ lwt := List.mem_filter.mpr ⟨List.mem_append_right _ (List.mem_of_getElem? (i := 1156) (by decide +kernel)), rfl⟩
theorem tw1157 : (Cond.selects RX12 yX12_evening yX12_evening) ∈ lwt := List.mem_filter.mpr ⟨List.mem_append_right _ (List.mem_of_getElem? (i := 1157) (by decide +kernel)), rfl⟩
theorem tw1158 : (Cond.code yX12_evening cX12_evening 9 (Option.some FieldType.int)) ∈ lwt := List.mem_filter.mpr ⟨List.mem_append_right _ (List.mem_of_getElem? (i := 1158) (by decide +kernel)), rfl⟩
theorem tw1159 : (Cond.methodLink RX12 223 yX12_goRound) ∈ lwt := List.mem_filter.mpr ⟨List.mem_append_right _ (List.mem_of_getElem? (i := 1159) (by decide +kernel)), rfl⟩
theorem tw1161 : (Cond.instanceMethod yX12_goRound) ∈ lwt := List.mem_filter.mpr ⟨List.mem_append_right _ (List.mem_of_getElem? (i := 1161) (by decide +kernel)), rfl⟩
theorem tw1162 : (Cond.code yX12_goRound cX12_goRound 6 (Option.some FieldType.int)) ∈ lwt := List.mem_filter.mpr ⟨List.mem_append_right _ (List.mem_of_getElem? (i := 1162) (by decide +kernel)), rfl⟩
theorem tw1163 : (Cond.methodLink RX12 220 yX12_draw) ∈ lwt := List.mem_filter.mpr ⟨List.mem_append_right _ (List.mem_of_getElem? (i := 1163) (by decide +kernel)), rfl⟩
theorem tw1165 : (Cond.instanceMethod yX12_draw) ∈ lwt := List.mem_filter.mpr ⟨List.mem_append_right _ (List.mem_of_getElem? (i := 1165) (by decide +kernel)), rfl⟩
theorem tw1166 : (Cond.code yX12_draw cX12_draw 2 (Option.some FieldType.int)) ∈ lwt := List.mem_filter.mpr ⟨List.mem_append_right _ (List.mem_of_getElem? (i := 1166) (by decide +kernel)), rfl⟩
theorem tw1167 : (Cond.constantLong RX12 208 (1103515245 : Int64)) ∈ lwt := List.mem_filter.mpr ⟨List.mem_append_right _ (List.mem_of_getElem? (i := 1167) (by decide +kernel)), rfl⟩
theorem tw1168 : (Cond.constantLong RX12 214 (12345 : Int64)) ∈ lwt := List.mem_filter.mpr ⟨List.mem_append_right _ (List.mem_of_getElem? (i := 1168) (by decide +kernel)), rfl⟩
theorem tw1169 : (Cond.constantLong RX12 216 (2147483647 : Int64)) ∈ lwt := List.mem_filter.mpr ⟨List.mem_append_right _ (List.mem_of_getElem? (i := 1169) (by decide +kernel)), rfl⟩
theorem tw1170 : (Cond.constantLong RX12 218 (65536 : Int64)) ∈ lwt := List.mem_filter.mpr ⟨List.mem_append_right _ (List.mem_of_getElem? (i := 1170) (by decide +kernel)), rfl⟩
theorem tw1171 : (Cond.methodLink RL 126 yX12_trade) ∈ lwt := List.mem_filter.mpr ⟨List.mem_append_right _ (List.mem_of_getElem? (i := 1171) (by decide +kernel)), rfl⟩
theorem tw1172 : (Cond.instanceMethod yX12_trade) ∈ lwt := List.mem_filter.mpr ⟨List.mem_append_right _ (List.mem_of_getElem? (i := 1172) (by decide +kernel)), rfl⟩
theorem tw1173 : (Cond.selects RX12 yX12_trade yX12_trade) ∈ lwt := List.mem_filter.mpr ⟨List.mem_append_right _ (List.mem_of_getElem? (i := 1173) (by decide +kernel)), rfl⟩
theorem tw1174 : (Cond.code yX12_trade cX12_trade 9 (Option.some FieldType.int)) ∈ lwt := List.mem_filter.mpr ⟨List.mem_append_right _ (List.mem_of_getElem? (i := 1174) (by decide +kernel)), rfl⟩
theorem tw1175 : (Cond.methodLink RX12 243 yX12_gain) ∈ lwt := List.mem_filter.mpr ⟨List.mem_append_right _ (List.mem_of_getElem? (i := 1175) (by decide +kernel)), rfl⟩
theorem tw1177 : (Cond.instanceMethod yX12_gain) ∈ lwt := List.mem_filter.mpr ⟨List.mem_append_right _ (List.mem_of_getElem? (i := 1177) (by decide +kernel)), rfl⟩
theorem tw1178 : (Cond.code yX12_gain cX12_gain 6 (Option.some FieldType.int)) ∈ lwt := List.mem_filter.mpr ⟨List.mem_append_right _ (List.mem_of_getElem? (i := 1178) (by decide +kernel)), rfl⟩
theorem tw1179 : (Cond.methodLink RX12 236 yX12_isInBy) ∈ lwt := List.mem_filter.mpr ⟨List.mem_append_right _ (List.mem_of_getElem? (i := 1179) (by decide +kernel)), rfl⟩
theorem tw1181 : (Cond.instanceMethod yX12_isInBy) ∈ lwt := List.mem_filter.mpr ⟨List.mem_append_right _ (List.mem_of_getElem? (i := 1181) (by decide +kernel)), rfl⟩
theorem tw1182 : (Cond.code yX12_isInBy cX12_isInBy 8 (Option.some FieldType.boolean)) ∈ lwt := List.mem_filter.mpr ⟨List.mem_append_right _ (List.mem_of_getElem? (i := 1182) (by decide +kernel)), rfl⟩
theorem tw1183 : (Cond.methodLink RL 130 yX12_veto) ∈ lwt := List.mem_filter.mpr ⟨List.mem_append_right _ (List.mem_of_getElem? (i := 1183) (by decide +kernel)), rfl⟩
theorem tw1184 : (Cond.instanceMethod yX12_veto) ∈ lwt := List.mem_filter.mpr ⟨List.mem_append_right _ (List.mem_of_getElem? (i := 1184) (by decide +kernel)), rfl⟩
theorem tw1185 : (Cond.selects RX12 yX12_veto yX12_veto) ∈ lwt := List.mem_filter.mpr ⟨List.mem_append_right _ (List.mem_of_getElem? (i := 1185) (by decide +kernel)), rfl⟩
theorem tw1186 : (Cond.code yX12_veto cX12_veto 4 (Option.some FieldType.int)) ∈ lwt := List.mem_filter.mpr ⟨List.mem_append_right _ (List.mem_of_getElem? (i := 1186) (by decide +kernel)), rfl⟩
theorem tw1187 : (Cond.methodLink RX12 254 yX12_layVetoes) ∈ lwt := List.mem_filter.mpr ⟨List.mem_append_right _ (List.mem_of_getElem? (i := 1187) (by decide +kernel)), rfl⟩
theorem tw1189 : (Cond.instanceMethod yX12_layVetoes) ∈ lwt := List.mem_filter.mpr ⟨List.mem_append_right _ (List.mem_of_getElem? (i := 1189) (by decide +kernel)), rfl⟩
theorem tw1190 : (Cond.code yX12_layVetoes cX12_layVetoes 7 (Option.none : Option FieldType)) ∈ lwt := List.mem_filter.mpr ⟨List.mem_append_right _ (List.mem_of_getElem? (i := 1190) (by decide +kernel)), rfl⟩
theorem tw1191 : (Cond.methodLink RX12 251 yX12_isUsed) ∈ lwt := List.mem_filter.mpr ⟨List.mem_append_right _ (List.mem_of_getElem? (i := 1191) (by decide +kernel)), rfl⟩
theorem tw1193 : (Cond.instanceMethod yX12_isUsed) ∈ lwt := List.mem_filter.mpr ⟨List.mem_append_right _ (List.mem_of_getElem? (i := 1193) (by decide +kernel)), rfl⟩
theorem tw1194 : (Cond.code yX12_isUsed cX12_isUsed 4 (Option.some FieldType.boolean)) ∈ lwt := List.mem_filter.mpr ⟨List.mem_append_right _ (List.mem_of_getElem? (i := 1194) (by decide +kernel)), rfl⟩
theorem tw1195 : (Cond.methodLink RX12 248 yX12_elevens) ∈ lwt := List.mem_filter.mpr ⟨List.mem_append_right _ (List.mem_of_getElem? (i := 1195) (by decide +kernel)), rfl⟩
theorem tw1196 : (Cond.static yX12_elevens) ∈ lwt := List.mem_filter.mpr ⟨List.mem_append_right _ (List.mem_of_getElem? (i := 1196) (by decide +kernel)), rfl⟩
theorem tw1197 : (Cond.code yX12_elevens cX12_elevens 4 (Option.some FieldType.long)) ∈ lwt := List.mem_filter.mpr ⟨List.mem_append_right _ (List.mem_of_getElem? (i := 1197) (by decide +kernel)), rfl⟩
theorem tw1198 : (Cond.constantLong RX12 246 (11 : Int64)) ∈ lwt := List.mem_filter.mpr ⟨List.mem_append_right _ (List.mem_of_getElem? (i := 1198) (by decide +kernel)), rfl⟩
theorem tw1199 : (Cond.methodLink RL 134 yX12_worth) ∈ lwt := List.mem_filter.mpr ⟨List.mem_append_right _ (List.mem_of_getElem? (i := 1199) (by decide +kernel)), rfl⟩
theorem tw1200 : (Cond.instanceMethod yX12_worth) ∈ lwt := List.mem_filter.mpr ⟨List.mem_append_right _ (List.mem_of_getElem? (i := 1200) (by decide +kernel)), rfl⟩
theorem tw1201 : (Cond.selects RX12 yX12_worth yX12_worth) ∈ lwt := List.mem_filter.mpr ⟨List.mem_append_right _ (List.mem_of_getElem? (i := 1201) (by decide +kernel)), rfl⟩
theorem tw1202 : (Cond.code yX12_worth cX12_worth 4 (Option.some FieldType.long)) ∈ lwt := List.mem_filter.mpr ⟨List.mem_append_right _ (List.mem_of_getElem? (i := 1202) (by decide +kernel)), rfl⟩
theorem tw1203 : (Cond.methodLink RL 138 yX12_years) ∈ lwt := List.mem_filter.mpr ⟨List.mem_append_right _ (List.mem_of_getElem? (i := 1203) (by decide +kernel)), rfl⟩
theorem tw1204 : (Cond.instanceMethod yX12_years) ∈ lwt := List.mem_filter.mpr ⟨List.mem_append_right _ (List.mem_of_getElem? (i := 1204) (by decide +kernel)), rfl⟩
theorem tw1205 : (Cond.selects RX12 yX12_years yX12_years) ∈ lwt := List.mem_filter.mpr ⟨List.mem_append_right _ (List.mem_of_getElem? (i := 1205) (by decide +kernel)), rfl⟩
theorem tw1206 : (Cond.code yX12_years cX12_years 8 (Option.some FieldType.int)) ∈ lwt := List.mem_filter.mpr ⟨List.mem_append_right _ (List.mem_of_getElem? (i := 1206) (by decide +kernel)), rfl⟩
theorem tw1207 : (Cond.methodLink RX12 264 yX12_isLetIn) ∈ lwt := List.mem_filter.mpr ⟨List.mem_append_right _ (List.mem_of_getElem? (i := 1207) (by decide +kernel)), rfl⟩
theorem tw1209 : (Cond.instanceMethod yX12_isLetIn) ∈ lwt := List.mem_filter.mpr ⟨List.mem_append_right _ (List.mem_of_getElem? (i := 1209) (by decide +kernel)), rfl⟩
theorem tw1210 : (Cond.code yX12_isLetIn cX12_isLetIn 4 (Option.some FieldType.boolean)) ∈ lwt := List.mem_filter.mpr ⟨List.mem_append_right _ (List.mem_of_getElem? (i := 1210) (by decide +kernel)), rfl⟩
theorem tw1211 : (Cond.methodLink RX12 261 yX12_clubRound) ∈ lwt := List.mem_filter.mpr ⟨List.mem_append_right _ (List.mem_of_getElem? (i := 1211) (by decide +kernel)), rfl⟩
theorem tw1213 : (Cond.instanceMethod yX12_clubRound) ∈ lwt := List.mem_filter.mpr ⟨List.mem_append_right _ (List.mem_of_getElem? (i := 1213) (by decide +kernel)), rfl⟩
theorem tw1214 : (Cond.code yX12_clubRound cX12_clubRound 5 (Option.some FieldType.int)) ∈ lwt := List.mem_filter.mpr ⟨List.mem_append_right _ (List.mem_of_getElem? (i := 1214) (by decide +kernel)), rfl⟩
theorem tw1215 : (Cond.methodLink RX12 267 yX12_unlike) ∈ lwt := List.mem_filter.mpr ⟨List.mem_append_right _ (List.mem_of_getElem? (i := 1215) (by decide +kernel)), rfl⟩
theorem tw1217 : (Cond.instanceMethod yX12_unlike) ∈ lwt := List.mem_filter.mpr ⟨List.mem_append_right _ (List.mem_of_getElem? (i := 1217) (by decide +kernel)), rfl⟩
theorem tw1218 : (Cond.code yX12_unlike cX12_unlike 3 (Option.some FieldType.int)) ∈ lwt := List.mem_filter.mpr ⟨List.mem_append_right _ (List.mem_of_getElem? (i := 1218) (by decide +kernel)), rfl⟩
theorem tw1219 : (Cond.methodLink RL 142 yX12_lot) ∈ lwt := List.mem_filter.mpr ⟨List.mem_append_right _ (List.mem_of_getElem? (i := 1219) (by decide +kernel)), rfl⟩
theorem tw1220 : (Cond.instanceMethod yX12_lot) ∈ lwt := List.mem_filter.mpr ⟨List.mem_append_right _ (List.mem_of_getElem? (i := 1220) (by decide +kernel)), rfl⟩
theorem tw1221 : (Cond.selects RX12 yX12_lot yX12_lot) ∈ lwt := List.mem_filter.mpr ⟨List.mem_append_right _ (List.mem_of_getElem? (i := 1221) (by decide +kernel)), rfl⟩
theorem tw1222 : (Cond.code yX12_lot cX12_lot 3 (Option.some FieldType.int)) ∈ lwt := List.mem_filter.mpr ⟨List.mem_append_right _ (List.mem_of_getElem? (i := 1222) (by decide +kernel)), rfl⟩
theorem tw1223 : (Cond.methodLink RX12 271 yX12_mindedMany) ∈ lwt := List.mem_filter.mpr ⟨List.mem_append_right _ (List.mem_of_getElem? (i := 1223) (by decide +kernel)), rfl⟩
theorem tw1225 : (Cond.instanceMethod yX12_mindedMany) ∈ lwt := List.mem_filter.mpr ⟨List.mem_append_right _ (List.mem_of_getElem? (i := 1225) (by decide +kernel)), rfl⟩
theorem tw1226 : (Cond.code yX12_mindedMany cX12_mindedMany 3 (Option.some FieldType.int)) ∈ lwt := List.mem_filter.mpr ⟨List.mem_append_right _ (List.mem_of_getElem? (i := 1226) (by decide +kernel)), rfl⟩
theorem tw1227 : (Cond.methodLink RL 146 yX12_image) ∈ lwt := List.mem_filter.mpr ⟨List.mem_append_right _ (List.mem_of_getElem? (i := 1227) (by decide +kernel)), rfl⟩
theorem tw1228 : (Cond.instanceMethod yX12_image) ∈ lwt := List.mem_filter.mpr ⟨List.mem_append_right _ (List.mem_of_getElem? (i := 1228) (by decide +kernel)), rfl⟩
theorem tw1229 : (Cond.selects RX12 yX12_image yX12_image) ∈ lwt := List.mem_filter.mpr ⟨List.mem_append_right _ (List.mem_of_getElem? (i := 1229) (by decide +kernel)), rfl⟩
theorem tw1230 : (Cond.code yX12_image cX12_image 2 (Option.some FieldType.int)) ∈ lwt := List.mem_filter.mpr ⟨List.mem_append_right _ (List.mem_of_getElem? (i := 1230) (by decide +kernel)), rfl⟩
theorem tw1231 : (Cond.methodLink RL 150 yX12_restore) ∈ lwt := List.mem_filter.mpr ⟨List.mem_append_right _ (List.mem_of_getElem? (i := 1231) (by decide +kernel)), rfl⟩
theorem tw1232 : (Cond.instanceMethod yX12_restore) ∈ lwt := List.mem_filter.mpr ⟨List.mem_append_right _ (List.mem_of_getElem? (i := 1232) (by decide +kernel)), rfl⟩
theorem tw1233 : (Cond.selects RX12 yX12_restore yX12_restore) ∈ lwt := List.mem_filter.mpr ⟨List.mem_append_right _ (List.mem_of_getElem? (i := 1233) (by decide +kernel)), rfl⟩
theorem tw1234 : (Cond.code yX12_restore cX12_restore 3 (Option.some FieldType.int)) ∈ lwt := List.mem_filter.mpr ⟨List.mem_append_right _ (List.mem_of_getElem? (i := 1234) (by decide +kernel)), rfl⟩
theorem tw1235 : (Cond.methodLink RL 154 yX12_count) ∈ lwt := List.mem_filter.mpr ⟨List.mem_append_right _ (List.mem_of_getElem? (i := 1235) (by decide +kernel)), rfl⟩
theorem tw1236 : (Cond.instanceMethod yX12_count) ∈ lwt := List.mem_filter.mpr ⟨List.mem_append_right _ (List.mem_of_getElem? (i := 1236) (by decide +kernel)), rfl⟩
theorem tw1237 : (Cond.selects RX12 yX12_count yX12_count) ∈ lwt := List.mem_filter.mpr ⟨List.mem_append_right _ (List.mem_of_getElem? (i := 1237) (by decide +kernel)), rfl⟩
theorem tw1238 : (Cond.code yX12_count cX12_count 2 (Option.some FieldType.int)) ∈ lwt := List.mem_filter.mpr ⟨List.mem_append_right _ (List.mem_of_getElem? (i := 1238) (by decide +kernel)), rfl⟩
theorem tw1239 : (Cond.methodLink RX12 283 yX12_howMany) ∈ lwt := List.mem_filter.mpr ⟨List.mem_append_right _ (List.mem_of_getElem? (i := 1239) (by decide +kernel)), rfl⟩
theorem tw1241 : (Cond.instanceMethod yX12_howMany) ∈ lwt := List.mem_filter.mpr ⟨List.mem_append_right _ (List.mem_of_getElem? (i := 1241) (by decide +kernel)), rfl⟩
theorem tw1242 : (Cond.code yX12_howMany cX12_howMany 2 (Option.some FieldType.int)) ∈ lwt := List.mem_filter.mpr ⟨List.mem_append_right _ (List.mem_of_getElem? (i := 1242) (by decide +kernel)), rfl⟩
theorem tw1243 : (Cond.methodLink RL 159 yX12_digest) ∈ lwt := List.mem_filter.mpr ⟨List.mem_append_right _ (List.mem_of_getElem? (i := 1243) (by decide +kernel)), rfl⟩
theorem tw1244 : (Cond.instanceMethod yX12_digest) ∈ lwt := List.mem_filter.mpr ⟨List.mem_append_right _ (List.mem_of_getElem? (i := 1244) (by decide +kernel)), rfl⟩
theorem tw1245 : (Cond.selects RX12 yX12_digest yX12_digest) ∈ lwt := List.mem_filter.mpr ⟨List.mem_append_right _ (List.mem_of_getElem? (i := 1245) (by decide +kernel)), rfl⟩
theorem tw1246 : (Cond.code yX12_digest cX12_digest 3 (Option.some FieldType.long)) ∈ lwt := List.mem_filter.mpr ⟨List.mem_append_right _ (List.mem_of_getElem? (i := 1246) (by decide +kernel)), rfl⟩
theorem tw1247 : (Cond.constantLong RX12 295 (487 : Int64)) ∈ lwt := List.mem_filter.mpr ⟨List.mem_append_right _ (List.mem_of_getElem? (i := 1247) (by decide +kernel)), rfl⟩
theorem tw1248 : (Cond.methodLink RX12 291 yX12_mix) ∈ lwt := List.mem_filter.mpr ⟨List.mem_append_right _ (List.mem_of_getElem? (i := 1248) (by decide +kernel)), rfl⟩
theorem tw1250 : (Cond.instanceMethod yX12_mix) ∈ lwt := List.mem_filter.mpr ⟨List.mem_append_right _ (List.mem_of_getElem? (i := 1250) (by decide +kernel)), rfl⟩
theorem tw1251 : (Cond.code yX12_mix cX12_mix 3 (Option.none : Option FieldType)) ∈ lwt := List.mem_filter.mpr ⟨List.mem_append_right _ (List.mem_of_getElem? (i := 1251) (by decide +kernel)), rfl⟩
theorem tw1252 : (Cond.constantLong RX12 286 (31 : Int64)) ∈ lwt := List.mem_filter.mpr ⟨List.mem_append_right _ (List.mem_of_getElem? (i := 1252) (by decide +kernel)), rfl⟩
theorem tw1253 : (Cond.methodLink RX12 297 yX12_mixIns) ∈ lwt := List.mem_filter.mpr ⟨List.mem_append_right _ (List.mem_of_getElem? (i := 1253) (by decide +kernel)), rfl⟩
theorem tw1255 : (Cond.instanceMethod yX12_mixIns) ∈ lwt := List.mem_filter.mpr ⟨List.mem_append_right _ (List.mem_of_getElem? (i := 1255) (by decide +kernel)), rfl⟩
theorem tw1256 : (Cond.code yX12_mixIns cX12_mixIns 6 (Option.none : Option FieldType)) ∈ lwt := List.mem_filter.mpr ⟨List.mem_append_right _ (List.mem_of_getElem? (i := 1256) (by decide +kernel)), rfl⟩
theorem tw1257 : (Cond.constantLong RL 13 (4294967295 : Int64)) ∈ lwt := List.mem_filter.mpr ⟨List.mem_append_right _ (List.mem_of_getElem? (i := 1257) (by decide +kernel)), rfl⟩
theorem tn1258 : (Cond.castable RX8 RX10) ∈ lw_tbl := List.mem_append_right _ (List.mem_of_getElem? (i := 1258) (by decide +kernel))
theorem tn1259 : (Cond.castable RX2 RX5) ∈ lw_tbl := List.mem_append_right _ (List.mem_of_getElem? (i := 1259) (by decide +kernel))
theorem tn1260 : (Cond.castable RX3 RX5) ∈ lw_tbl := List.mem_append_right _ (List.mem_of_getElem? (i := 1260) (by decide +kernel))
theorem tn1261 : (Cond.castable RX10 RX5) ∈ lw_tbl := List.mem_append_right _ (List.mem_of_getElem? (i := 1261) (by decide +kernel))
theorem tn1262 : (Cond.castable RX8 RX5) ∈ lw_tbl := List.mem_append_right _ (List.mem_of_getElem? (i := 1262) (by decide +kernel))
theorem tp0 : Cond.selects RX4 yX4_codeAt yX4_codeAt ∈ lwt := List.mem_filter.mpr ⟨List.mem_append_left _ (List.mem_of_getElem? (i := 0) (by decide +kernel)), rfl⟩
theorem tp1 : Cond.selects RX11 yX11_ruleAt yX11_ruleAt ∈ lwt := List.mem_filter.mpr ⟨List.mem_append_left _ (List.mem_of_getElem? (i := 1) (by decide +kernel)), rfl⟩
theorem tp2 : Cond.selects RX11 yX11_personAt yX11_personAt ∈ lwt := List.mem_filter.mpr ⟨List.mem_append_left _ (List.mem_of_getElem? (i := 2) (by decide +kernel)), rfl⟩
theorem tp3 : Cond.selects RX11 yX11_newPerson yX11_newPerson ∈ lwt := List.mem_filter.mpr ⟨List.mem_append_left _ (List.mem_of_getElem? (i := 3) (by decide +kernel)), rfl⟩
theorem tp4 : Cond.selects RX11 yX11_isCandidate yX11_isCandidate ∈ lwt := List.mem_filter.mpr ⟨List.mem_append_left _ (List.mem_of_getElem? (i := 4) (by decide +kernel)), rfl⟩
theorem tp5 : Cond.selects RX11 yX11_friendOf yX11_friendOf ∈ lwt := List.mem_filter.mpr ⟨List.mem_append_left _ (List.mem_of_getElem? (i := 5) (by decide +kernel)), rfl⟩
theorem tp6 : Cond.selects RX11 yX11_isMinded yX11_isMinded ∈ lwt := List.mem_filter.mpr ⟨List.mem_append_left _ (List.mem_of_getElem? (i := 6) (by decide +kernel)), rfl⟩
theorem tp7 : Cond.selects RX11 yX11_howManyMindMuch yX11_howManyMindMuch ∈ lwt := List.mem_filter.mpr ⟨List.mem_append_left _ (List.mem_of_getElem? (i := 7) (by decide +kernel)), rfl⟩
theorem tp8 : Cond.selects RX11 yX11_areComers yX11_areComers ∈ lwt := List.mem_filter.mpr ⟨List.mem_append_left _ (List.mem_of_getElem? (i := 8) (by decide +kernel)), rfl⟩
theorem tp9 : Cond.selects RX11 yX11_everybody yX11_everybody ∈ lwt := List.mem_filter.mpr ⟨List.mem_append_left _ (List.mem_of_getElem? (i := 9) (by decide +kernel)), rfl⟩
theorem tp10 : Cond.selects RX11 yX11_blackOf yX11_blackOf ∈ lwt := List.mem_filter.mpr ⟨List.mem_append_left _ (List.mem_of_getElem? (i := 10) (by decide +kernel)), rfl⟩
theorem tp11 : Cond.selects RX11 yX11_tallyBalls yX11_tallyBalls ∈ lwt := List.mem_filter.mpr ⟨List.mem_append_left _ (List.mem_of_getElem? (i := 11) (by decide +kernel)), rfl⟩
theorem tp12 : Cond.selects RX11 yX11_inWays yX11_inWays ∈ lwt := List.mem_filter.mpr ⟨List.mem_append_left _ (List.mem_of_getElem? (i := 12) (by decide +kernel)), rfl⟩
theorem tp13 : Cond.selects RX9 yX9_waysTo yX9_waysTo ∈ lwt := List.mem_filter.mpr ⟨List.mem_append_left _ (List.mem_of_getElem? (i := 13) (by decide +kernel)), rfl⟩
theorem tp14 : Cond.selects RX11 yX11_wrongWays yX11_wrongWays ∈ lwt := List.mem_filter.mpr ⟨List.mem_append_left _ (List.mem_of_getElem? (i := 14) (by decide +kernel)), rfl⟩
theorem tp15 : Cond.selects RX0 yX0_putBalls yX0_putBalls ∈ lwt := List.mem_filter.mpr ⟨List.mem_append_left _ (List.mem_of_getElem? (i := 15) (by decide +kernel)), rfl⟩
theorem tp16 : Cond.selects RX11 yX11_letInByOneBall yX11_letInByOneBall ∈ lwt := List.mem_filter.mpr ⟨List.mem_append_left _ (List.mem_of_getElem? (i := 16) (by decide +kernel)), rfl⟩
theorem tp17 : Cond.selects RX11 yX11_expectVetoes yX11_expectVetoes ∈ lwt := List.mem_filter.mpr ⟨List.mem_append_left _ (List.mem_of_getElem? (i := 17) (by decide +kernel)), rfl⟩
theorem tp18 : Cond.selects RX1 yX1_drawTaste yX1_drawTaste ∈ lwt := List.mem_filter.mpr ⟨List.mem_append_left _ (List.mem_of_getElem? (i := 18) (by decide +kernel)), rfl⟩
theorem tp19 : Cond.selects RX1 yX1_firstGoes yX1_firstGoes ∈ lwt := List.mem_filter.mpr ⟨List.mem_append_left _ (List.mem_of_getElem? (i := 19) (by decide +kernel)), rfl⟩
theorem tp20 : Cond.selects RX11 yX11_howManyMinded yX11_howManyMinded ∈ lwt := List.mem_filter.mpr ⟨List.mem_append_left _ (List.mem_of_getElem? (i := 20) (by decide +kernel)), rfl⟩
theorem tp21 : Cond.selects RX11 yX11_digestRules yX11_digestRules ∈ lwt := List.mem_filter.mpr ⟨List.mem_append_left _ (List.mem_of_getElem? (i := 21) (by decide +kernel)), rfl⟩
theorem tp22 : Cond.selects RX11 yX11_digestPeople yX11_digestPeople ∈ lwt := List.mem_filter.mpr ⟨List.mem_append_left _ (List.mem_of_getElem? (i := 22) (by decide +kernel)), rfl⟩
theorem tp23 : Cond.selects RX11 yX11_digestCandidates yX11_digestCandidates ∈ lwt := List.mem_filter.mpr ⟨List.mem_append_left _ (List.mem_of_getElem? (i := 23) (by decide +kernel)), rfl⟩
theorem tp24 : Cond.selects RX11 yX11_digestIn yX11_digestIn ∈ lwt := List.mem_filter.mpr ⟨List.mem_append_left _ (List.mem_of_getElem? (i := 24) (by decide +kernel)), rfl⟩
theorem tp25 : Cond.selects RX12 yX12_readPage yX12_readPage ∈ lwt := List.mem_filter.mpr ⟨List.mem_append_left _ (List.mem_of_getElem? (i := 25) (by decide +kernel)), rfl⟩
theorem tp26 : Cond.selects RX12 yX12_next yX12_next ∈ lwt := List.mem_filter.mpr ⟨List.mem_append_left _ (List.mem_of_getElem? (i := 26) (by decide +kernel)), rfl⟩
theorem tp27 : Cond.selects RX12 yX12_nextRatio yX12_nextRatio ∈ lwt := List.mem_filter.mpr ⟨List.mem_append_left _ (List.mem_of_getElem? (i := 27) (by decide +kernel)), rfl⟩
theorem tp28 : Cond.selects RX12 yX12_isRule yX12_isRule ∈ lwt := List.mem_filter.mpr ⟨List.mem_append_left _ (List.mem_of_getElem? (i := 28) (by decide +kernel)), rfl⟩
theorem tp29 : Cond.selects RX12 yX12_ruleNow yX12_ruleNow ∈ lwt := List.mem_filter.mpr ⟨List.mem_append_left _ (List.mem_of_getElem? (i := 29) (by decide +kernel)), rfl⟩
theorem tp30 : Cond.selects RX12 yX12_isMember yX12_isMember ∈ lwt := List.mem_filter.mpr ⟨List.mem_append_left _ (List.mem_of_getElem? (i := 30) (by decide +kernel)), rfl⟩
theorem tp31 : Cond.selects RX12 yX12_memberNow yX12_memberNow ∈ lwt := List.mem_filter.mpr ⟨List.mem_append_left _ (List.mem_of_getElem? (i := 31) (by decide +kernel)), rfl⟩
theorem tp32 : Cond.selects RX12 yX12_isCandidate yX12_isCandidate ∈ lwt := List.mem_filter.mpr ⟨List.mem_append_left _ (List.mem_of_getElem? (i := 32) (by decide +kernel)), rfl⟩
theorem tp33 : Cond.selects RX12 yX12_candidateNow yX12_candidateNow ∈ lwt := List.mem_filter.mpr ⟨List.mem_append_left _ (List.mem_of_getElem? (i := 33) (by decide +kernel)), rfl⟩
theorem tp34 : Cond.selects RX12 yX12_isMinded yX12_isMinded ∈ lwt := List.mem_filter.mpr ⟨List.mem_append_left _ (List.mem_of_getElem? (i := 34) (by decide +kernel)), rfl⟩
theorem tp35 : Cond.selects RX12 yX12_mindedBy yX12_mindedBy ∈ lwt := List.mem_filter.mpr ⟨List.mem_append_left _ (List.mem_of_getElem? (i := 35) (by decide +kernel)), rfl⟩
theorem tp36 : Cond.selects RX12 yX12_areComers yX12_areComers ∈ lwt := List.mem_filter.mpr ⟨List.mem_append_left _ (List.mem_of_getElem? (i := 36) (by decide +kernel)), rfl⟩
theorem tp37 : Cond.selects RX12 yX12_blackBy yX12_blackBy ∈ lwt := List.mem_filter.mpr ⟨List.mem_append_left _ (List.mem_of_getElem? (i := 37) (by decide +kernel)), rfl⟩
theorem tp38 : Cond.selects RX12 yX12_areThere yX12_areThere ∈ lwt := List.mem_filter.mpr ⟨List.mem_append_left _ (List.mem_of_getElem? (i := 38) (by decide +kernel)), rfl⟩
theorem tp39 : Cond.selects RX12 yX12_layWays yX12_layWays ∈ lwt := List.mem_filter.mpr ⟨List.mem_append_left _ (List.mem_of_getElem? (i := 39) (by decide +kernel)), rfl⟩
theorem tp40 : Cond.selects RX12 yX12_inBy yX12_inBy ∈ lwt := List.mem_filter.mpr ⟨List.mem_append_left _ (List.mem_of_getElem? (i := 40) (by decide +kernel)), rfl⟩
theorem tp41 : Cond.selects RX12 yX12_shutBy yX12_shutBy ∈ lwt := List.mem_filter.mpr ⟨List.mem_append_left _ (List.mem_of_getElem? (i := 41) (by decide +kernel)), rfl⟩
theorem tp42 : Cond.selects RX12 yX12_shuts yX12_shuts ∈ lwt := List.mem_filter.mpr ⟨List.mem_append_left _ (List.mem_of_getElem? (i := 42) (by decide +kernel)), rfl⟩
theorem tp43 : Cond.selects RX12 yX12_comesBy yX12_comesBy ∈ lwt := List.mem_filter.mpr ⟨List.mem_append_left _ (List.mem_of_getElem? (i := 43) (by decide +kernel)), rfl⟩
theorem tp44 : Cond.selects RX12 yX12_wrongBy yX12_wrongBy ∈ lwt := List.mem_filter.mpr ⟨List.mem_append_left _ (List.mem_of_getElem? (i := 44) (by decide +kernel)), rfl⟩
theorem tp45 : Cond.selects RX12 yX12_isAsked yX12_isAsked ∈ lwt := List.mem_filter.mpr ⟨List.mem_append_left _ (List.mem_of_getElem? (i := 45) (by decide +kernel)), rfl⟩
theorem tp46 : Cond.selects RX12 yX12_withdraws yX12_withdraws ∈ lwt := List.mem_filter.mpr ⟨List.mem_append_left _ (List.mem_of_getElem? (i := 46) (by decide +kernel)), rfl⟩
theorem tp47 : Cond.selects RX12 yX12_goRound yX12_goRound ∈ lwt := List.mem_filter.mpr ⟨List.mem_append_left _ (List.mem_of_getElem? (i := 47) (by decide +kernel)), rfl⟩
theorem tp48 : Cond.selects RX12 yX12_draw yX12_draw ∈ lwt := List.mem_filter.mpr ⟨List.mem_append_left _ (List.mem_of_getElem? (i := 48) (by decide +kernel)), rfl⟩
theorem tp49 : Cond.selects RX12 yX12_gain yX12_gain ∈ lwt := List.mem_filter.mpr ⟨List.mem_append_left _ (List.mem_of_getElem? (i := 49) (by decide +kernel)), rfl⟩
theorem tp50 : Cond.selects RX12 yX12_isInBy yX12_isInBy ∈ lwt := List.mem_filter.mpr ⟨List.mem_append_left _ (List.mem_of_getElem? (i := 50) (by decide +kernel)), rfl⟩
theorem tp51 : Cond.selects RX12 yX12_layVetoes yX12_layVetoes ∈ lwt := List.mem_filter.mpr ⟨List.mem_append_left _ (List.mem_of_getElem? (i := 51) (by decide +kernel)), rfl⟩
theorem tp52 : Cond.selects RX12 yX12_isUsed yX12_isUsed ∈ lwt := List.mem_filter.mpr ⟨List.mem_append_left _ (List.mem_of_getElem? (i := 52) (by decide +kernel)), rfl⟩
theorem tp53 : Cond.selects RX12 yX12_isLetIn yX12_isLetIn ∈ lwt := List.mem_filter.mpr ⟨List.mem_append_left _ (List.mem_of_getElem? (i := 53) (by decide +kernel)), rfl⟩
theorem tp54 : Cond.selects RX12 yX12_clubRound yX12_clubRound ∈ lwt := List.mem_filter.mpr ⟨List.mem_append_left _ (List.mem_of_getElem? (i := 54) (by decide +kernel)), rfl⟩
theorem tp55 : Cond.selects RX12 yX12_unlike yX12_unlike ∈ lwt := List.mem_filter.mpr ⟨List.mem_append_left _ (List.mem_of_getElem? (i := 55) (by decide +kernel)), rfl⟩
theorem tp56 : Cond.selects RX12 yX12_mindedMany yX12_mindedMany ∈ lwt := List.mem_filter.mpr ⟨List.mem_append_left _ (List.mem_of_getElem? (i := 56) (by decide +kernel)), rfl⟩
theorem tp57 : Cond.selects RX12 yX12_howMany yX12_howMany ∈ lwt := List.mem_filter.mpr ⟨List.mem_append_left _ (List.mem_of_getElem? (i := 57) (by decide +kernel)), rfl⟩
theorem tp58 : Cond.selects RX12 yX12_mix yX12_mix ∈ lwt := List.mem_filter.mpr ⟨List.mem_append_left _ (List.mem_of_getElem? (i := 58) (by decide +kernel)), rfl⟩
theorem tp59 : Cond.selects RX12 yX12_mixIns yX12_mixIns ∈ lwt := List.mem_filter.mpr ⟨List.mem_append_left _ (List.mem_of_getElem? (i := 59) (by decide +kernel)), rfl⟩
theorem inX0 : ∀ w ∈ u_ws RX0 TX0 5, w ∈ lwt := List.forall_mem_cons.mpr ⟨tw94, List.forall_mem_cons.mpr ⟨tw96, List.forall_mem_cons.mpr ⟨tw98, List.forall_mem_cons.mpr ⟨tw100, List.forall_mem_cons.mpr ⟨tw102, fun _ h => absurd h List.not_mem_nil⟩⟩⟩⟩⟩
theorem inX1 : ∀ w ∈ u_ws RX1 TX1 5, w ∈ lwt := List.forall_mem_cons.mpr ⟨tw121, List.forall_mem_cons.mpr ⟨tw123, List.forall_mem_cons.mpr ⟨tw125, List.forall_mem_cons.mpr ⟨tw127, List.forall_mem_cons.mpr ⟨tw129, fun _ h => absurd h List.not_mem_nil⟩⟩⟩⟩⟩
theorem inX2 : ∀ w ∈ u_ws RX2 TX2 6, w ∈ lwt := List.forall_mem_cons.mpr ⟨tw296, List.forall_mem_cons.mpr ⟨tw298, List.forall_mem_cons.mpr ⟨tw300, List.forall_mem_cons.mpr ⟨tw302, List.forall_mem_cons.mpr ⟨tw304, List.forall_mem_cons.mpr ⟨tw306, fun _ h => absurd h List.not_mem_nil⟩⟩⟩⟩⟩⟩
theorem inX3 : ∀ w ∈ u_ws RX3 TX3 7, w ∈ lwt := List.forall_mem_cons.mpr ⟨tw318, List.forall_mem_cons.mpr ⟨tw319, List.forall_mem_cons.mpr ⟨tw320, List.forall_mem_cons.mpr ⟨tw321, List.forall_mem_cons.mpr ⟨tw322, List.forall_mem_cons.mpr ⟨tw323, List.forall_mem_cons.mpr ⟨tw316, fun _ h => absurd h List.not_mem_nil⟩⟩⟩⟩⟩⟩⟩
theorem inX4 : ∀ w ∈ u_ws RX4 TX4 2, w ∈ lwt := List.forall_mem_cons.mpr ⟨tw35, List.forall_mem_cons.mpr ⟨tw37, fun _ h => absurd h List.not_mem_nil⟩⟩
theorem inX5 : ∀ w ∈ u_ws RX5 TX5 6, w ∈ lwt := List.forall_mem_cons.mpr ⟨tw357, List.forall_mem_cons.mpr ⟨tw358, List.forall_mem_cons.mpr ⟨tw359, List.forall_mem_cons.mpr ⟨tw360, List.forall_mem_cons.mpr ⟨tw361, List.forall_mem_cons.mpr ⟨tw362, fun _ h => absurd h List.not_mem_nil⟩⟩⟩⟩⟩⟩
theorem inX6 : ∀ w ∈ u_ws RX6 TX6 5, w ∈ lwt := List.forall_mem_cons.mpr ⟨tw243, List.forall_mem_cons.mpr ⟨tw245, List.forall_mem_cons.mpr ⟨tw247, List.forall_mem_cons.mpr ⟨tw249, List.forall_mem_cons.mpr ⟨tw251, fun _ h => absurd h List.not_mem_nil⟩⟩⟩⟩⟩
theorem inX7 : ∀ w ∈ u_ws RX7 TX7 3, w ∈ lwt := List.forall_mem_cons.mpr ⟨tw54, List.forall_mem_cons.mpr ⟨tw56, List.forall_mem_cons.mpr ⟨tw58, fun _ h => absurd h List.not_mem_nil⟩⟩⟩
theorem inX8 : ∀ w ∈ u_ws RX8 TX8 7, w ∈ lwt := List.forall_mem_cons.mpr ⟨tw347, List.forall_mem_cons.mpr ⟨tw348, List.forall_mem_cons.mpr ⟨tw349, List.forall_mem_cons.mpr ⟨tw350, List.forall_mem_cons.mpr ⟨tw351, List.forall_mem_cons.mpr ⟨tw352, List.forall_mem_cons.mpr ⟨tw353, fun _ h => absurd h List.not_mem_nil⟩⟩⟩⟩⟩⟩⟩
theorem inX9 : ∀ w ∈ u_ws RX9 TX9 3, w ∈ lwt := List.forall_mem_cons.mpr ⟨tw71, List.forall_mem_cons.mpr ⟨tw73, List.forall_mem_cons.mpr ⟨tw75, fun _ h => absurd h List.not_mem_nil⟩⟩⟩
theorem inX10 : ∀ w ∈ u_ws RX10 TX10 7, w ∈ lwt := List.forall_mem_cons.mpr ⟨tw334, List.forall_mem_cons.mpr ⟨tw335, List.forall_mem_cons.mpr ⟨tw336, List.forall_mem_cons.mpr ⟨tw337, List.forall_mem_cons.mpr ⟨tw338, List.forall_mem_cons.mpr ⟨tw339, List.forall_mem_cons.mpr ⟨tw332, fun _ h => absurd h List.not_mem_nil⟩⟩⟩⟩⟩⟩⟩
theorem inX11 : ∀ w ∈ u_ws RX11 TX11 13, w ∈ lwt := List.forall_mem_cons.mpr ⟨tw145, List.forall_mem_cons.mpr ⟨tw147, List.forall_mem_cons.mpr ⟨tw149, List.forall_mem_cons.mpr ⟨tw151, List.forall_mem_cons.mpr ⟨tw153, List.forall_mem_cons.mpr ⟨tw155, List.forall_mem_cons.mpr ⟨tw157, List.forall_mem_cons.mpr ⟨tw159, List.forall_mem_cons.mpr ⟨tw161, List.forall_mem_cons.mpr ⟨tw163, List.forall_mem_cons.mpr ⟨tw165, List.forall_mem_cons.mpr ⟨tw167, List.forall_mem_cons.mpr ⟨tw169, fun _ h => absurd h List.not_mem_nil⟩⟩⟩⟩⟩⟩⟩⟩⟩⟩⟩⟩⟩
theorem inX12 : ∀ w ∈ u_ws RX12 TX12 37, w ∈ lwt := List.forall_mem_cons.mpr ⟨tw871, List.forall_mem_cons.mpr ⟨tw873, List.forall_mem_cons.mpr ⟨tw875, List.forall_mem_cons.mpr ⟨tw877, List.forall_mem_cons.mpr ⟨tw879, List.forall_mem_cons.mpr ⟨tw881, List.forall_mem_cons.mpr ⟨tw883, List.forall_mem_cons.mpr ⟨tw885, List.forall_mem_cons.mpr ⟨tw887, List.forall_mem_cons.mpr ⟨tw889, List.forall_mem_cons.mpr ⟨tw891, List.forall_mem_cons.mpr ⟨tw893, List.forall_mem_cons.mpr ⟨tw895, List.forall_mem_cons.mpr ⟨tw897, List.forall_mem_cons.mpr ⟨tw899, List.forall_mem_cons.mpr ⟨tw901, List.forall_mem_cons.mpr ⟨tw903, List.forall_mem_cons.mpr ⟨tw905, List.forall_mem_cons.mpr ⟨tw907, List.forall_mem_cons.mpr ⟨tw909, List.forall_mem_cons.mpr ⟨tw911, List.forall_mem_cons.mpr ⟨tw913, List.forall_mem_cons.mpr ⟨tw915, List.forall_mem_cons.mpr ⟨tw917, List.forall_mem_cons.mpr ⟨tw919, List.forall_mem_cons.mpr ⟨tw921, List.forall_mem_cons.mpr ⟨tw923, List.forall_mem_cons.mpr ⟨tw925, List.forall_mem_cons.mpr ⟨tw927, List.forall_mem_cons.mpr ⟨tw929, List.forall_mem_cons.mpr ⟨tw931, List.forall_mem_cons.mpr ⟨tw933, List.forall_mem_cons.mpr ⟨tw935, List.forall_mem_cons.mpr ⟨tw937, List.forall_mem_cons.mpr ⟨tw939, List.forall_mem_cons.mpr ⟨tw941, List.forall_mem_cons.mpr ⟨tw943, fun _ h => absurd h List.not_mem_nil⟩⟩⟩⟩⟩⟩⟩⟩⟩⟩⟩⟩⟩⟩⟩⟩⟩⟩⟩⟩⟩⟩⟩⟩⟩⟩⟩⟩⟩⟩⟩⟩⟩⟩⟩⟩⟩
/-- words of nest mates: field links, method links; casts -/
def nestW : List Cond := [(Cond.fieldLinkNest RX11 297 RX4 "length" "I" RX11), (Cond.fieldLinkNest RX1 54 RX0 "seed" "I" RX11), (Cond.fieldLinkNest RX11 255 RX0 "seed" "I" RX11), (Cond.fieldLinkNest RX11 249 RX0 "lastBlacks" "I" RX11), (Cond.fieldLinkNest RX1 55 RX0 "letIn" "Z" RX11), (Cond.fieldLinkNest RX11 252 RX0 "letIn" "Z" RX11), (Cond.fieldLinkNest RX11 276 RX1 "size" "I" RX11), (Cond.fieldLinkNest RX11 282 RX1 "letIn" "I" RX11), (Cond.fieldLinkNest RX11 284 RX1 "seed" "I" RX11), (Cond.fieldLinkNest RX0 38 RX6 "twice" "Z" RX11), (Cond.fieldLinkNest RX11 194 RX6 "twice" "Z" RX11), (Cond.fieldLinkNest RX11 343 RX6 "countTold" "Z" RX11), (Cond.fieldLinkNest RX11 114 RX5 "number" "I" RX11), (Cond.fieldLinkNest RX11 123 RX5 "comesTenths" "I" RX11), (Cond.methodLinkNest RX11 11 yX4_init RX11), (Cond.methodLinkNest RX11 34 yX7_init RX11), (Cond.methodLinkNest RX11 41 yX9_init RX11), (Cond.methodLinkNest RX11 48 yX0_init RX11), (Cond.methodLinkNest RX11 55 yX1_init RX11), (Cond.methodLinkNest RX1 15 yX0_init RX11), (Cond.methodLinkNest RX4 54 yX11_within RX11), (Cond.methodLinkNest RX4 48 yX11_mix RX11), (Cond.castable RX8 RX10), (Cond.castable RX2 RX5), (Cond.castable RX3 RX5), (Cond.castable RX10 RX5), (Cond.castable RX8 RX5)]
theorem nw34 : (Cond.fieldLinkNest RX11 297 RX4 "length" "I" RX11) ∈ nestW := List.mem_of_getElem? (i := 0) rfl
theorem nw86 : (Cond.fieldLinkNest RX1 54 RX0 "seed" "I" RX11) ∈ nestW := List.mem_of_getElem? (i := 1) rfl
theorem nw88 : (Cond.fieldLinkNest RX11 255 RX0 "seed" "I" RX11) ∈ nestW := List.mem_of_getElem? (i := 2) rfl
theorem nw90 : (Cond.fieldLinkNest RX11 249 RX0 "lastBlacks" "I" RX11) ∈ nestW := List.mem_of_getElem? (i := 3) rfl
theorem nw91 : (Cond.fieldLinkNest RX1 55 RX0 "letIn" "Z" RX11) ∈ nestW := List.mem_of_getElem? (i := 4) rfl
theorem nw93 : (Cond.fieldLinkNest RX11 252 RX0 "letIn" "Z" RX11) ∈ nestW := List.mem_of_getElem? (i := 5) rfl
theorem nw116 : (Cond.fieldLinkNest RX11 276 RX1 "size" "I" RX11) ∈ nestW := List.mem_of_getElem? (i := 6) rfl
theorem nw118 : (Cond.fieldLinkNest RX11 282 RX1 "letIn" "I" RX11) ∈ nestW := List.mem_of_getElem? (i := 7) rfl
theorem nw120 : (Cond.fieldLinkNest RX11 284 RX1 "seed" "I" RX11) ∈ nestW := List.mem_of_getElem? (i := 8) rfl
theorem nw239 : (Cond.fieldLinkNest RX0 38 RX6 "twice" "Z" RX11) ∈ nestW := List.mem_of_getElem? (i := 9) rfl
theorem nw240 : (Cond.fieldLinkNest RX11 194 RX6 "twice" "Z" RX11) ∈ nestW := List.mem_of_getElem? (i := 10) rfl
theorem nw242 : (Cond.fieldLinkNest RX11 343 RX6 "countTold" "Z" RX11) ∈ nestW := List.mem_of_getElem? (i := 11) rfl
theorem nw289 : (Cond.fieldLinkNest RX11 114 RX5 "number" "I" RX11) ∈ nestW := List.mem_of_getElem? (i := 12) rfl
theorem nw293 : (Cond.fieldLinkNest RX11 123 RX5 "comesTenths" "I" RX11) ∈ nestW := List.mem_of_getElem? (i := 13) rfl
theorem nw28 : (Cond.methodLinkNest RX11 11 yX4_init RX11) ∈ nestW := List.mem_of_getElem? (i := 14) rfl
theorem nw47 : (Cond.methodLinkNest RX11 34 yX7_init RX11) ∈ nestW := List.mem_of_getElem? (i := 15) rfl
theorem nw64 : (Cond.methodLinkNest RX11 41 yX9_init RX11) ∈ nestW := List.mem_of_getElem? (i := 16) rfl
theorem nw80 : (Cond.methodLinkNest RX11 48 yX0_init RX11) ∈ nestW := List.mem_of_getElem? (i := 17) rfl
theorem nw107 : (Cond.methodLinkNest RX11 55 yX1_init RX11) ∈ nestW := List.mem_of_getElem? (i := 18) rfl
theorem nw112 : (Cond.methodLinkNest RX1 15 yX0_init RX11) ∈ nestW := List.mem_of_getElem? (i := 19) rfl
theorem nw206 : (Cond.methodLinkNest RX4 54 yX11_within RX11) ∈ nestW := List.mem_of_getElem? (i := 20) rfl
theorem nw826 : (Cond.methodLinkNest RX4 48 yX11_mix RX11) ∈ nestW := List.mem_of_getElem? (i := 21) rfl
theorem nw1258 : (Cond.castable RX8 RX10) ∈ nestW := List.mem_of_getElem? (i := 22) rfl
theorem nw1259 : (Cond.castable RX2 RX5) ∈ nestW := List.mem_of_getElem? (i := 23) rfl
theorem nw1260 : (Cond.castable RX3 RX5) ∈ nestW := List.mem_of_getElem? (i := 24) rfl
theorem nw1261 : (Cond.castable RX10 RX5) ∈ nestW := List.mem_of_getElem? (i := 25) rfl
theorem nw1262 : (Cond.castable RX8 RX5) ∈ nestW := List.mem_of_getElem? (i := 26) rfl
theorem nestW_in : ∀ w ∈ nestW, w ∈ lw_tbl := List.forall_mem_cons.mpr ⟨tn34, List.forall_mem_cons.mpr ⟨tn86, List.forall_mem_cons.mpr ⟨tn88, List.forall_mem_cons.mpr ⟨tn90, List.forall_mem_cons.mpr ⟨tn91, List.forall_mem_cons.mpr ⟨tn93, List.forall_mem_cons.mpr ⟨tn116, List.forall_mem_cons.mpr ⟨tn118, List.forall_mem_cons.mpr ⟨tn120, List.forall_mem_cons.mpr ⟨tn239, List.forall_mem_cons.mpr ⟨tn240, List.forall_mem_cons.mpr ⟨tn242, List.forall_mem_cons.mpr ⟨tn289, List.forall_mem_cons.mpr ⟨tn293, List.forall_mem_cons.mpr ⟨tn28, List.forall_mem_cons.mpr ⟨tn47, List.forall_mem_cons.mpr ⟨tn64, List.forall_mem_cons.mpr ⟨tn80, List.forall_mem_cons.mpr ⟨tn107, List.forall_mem_cons.mpr ⟨tn112, List.forall_mem_cons.mpr ⟨tn206, List.forall_mem_cons.mpr ⟨tn826, List.forall_mem_cons.mpr ⟨tn1258, List.forall_mem_cons.mpr ⟨tn1259, List.forall_mem_cons.mpr ⟨tn1260, List.forall_mem_cons.mpr ⟨tn1261, List.forall_mem_cons.mpr ⟨tn1262, fun _ h => absurd h List.not_mem_nil⟩⟩⟩⟩⟩⟩⟩⟩⟩⟩⟩⟩⟩⟩⟩⟩⟩⟩⟩⟩⟩⟩⟩⟩⟩⟩⟩
theorem nestW_tab : ∀ w ∈ nestW, w.onTables = true := by decide
theorem nestW_warm {s U : State} (hW : s.WarmedH U.vm) (h : ∀ w ∈ nestW, va_Nw w s) : ∀ w ∈ nestW, va_Nw w U := by
  have key : ∀ w : Cond, (match w with | .fieldLinkNest .. => true | .methodLinkNest .. => true | .castable .. => true | _ => false) = true → va_Nw w s → va_Nw w U := by
    intro w hw hs
    cases w <;> first | exact va_Nw.warmF hW hs | exact va_Nw.warmM hW hs | exact va_Nw.warmC hW hs | (simp at hw)
  intro w hw
  refine key w ?_ (h w hw)
  revert w
  decide
