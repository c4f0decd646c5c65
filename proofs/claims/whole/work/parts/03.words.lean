def BW : List Cond := lw_tbl.filter goodWord
theorem bw_tbl {w : Cond} (h : w ∈ tables_1) (g : goodWord w = true) : w ∈ BW := List.mem_filter.mpr ⟨List.mem_append_right _ h, g⟩
theorem bw_1 {w : Cond} (h : w ∈ tables_1_1) (g : goodWord w = true) : w ∈ BW := bw_tbl (show w ∈ tables_1_1 ++ (tables_1_2 ++ (tables_1_3 ++ (tables_1_4 ++ (tables_1_5 ++ tables_1_6)))) from (List.mem_append_left _ h)) g
theorem bw_2 {w : Cond} (h : w ∈ tables_1_2) (g : goodWord w = true) : w ∈ BW := bw_tbl (show w ∈ tables_1_1 ++ (tables_1_2 ++ (tables_1_3 ++ (tables_1_4 ++ (tables_1_5 ++ tables_1_6)))) from (List.mem_append_right _ (List.mem_append_left _ h))) g
theorem bw_3 {w : Cond} (h : w ∈ tables_1_3) (g : goodWord w = true) : w ∈ BW := bw_tbl (show w ∈ tables_1_1 ++ (tables_1_2 ++ (tables_1_3 ++ (tables_1_4 ++ (tables_1_5 ++ tables_1_6)))) from (List.mem_append_right _ (List.mem_append_right _ (List.mem_append_left _ h)))) g
theorem bw_4 {w : Cond} (h : w ∈ tables_1_4) (g : goodWord w = true) : w ∈ BW := bw_tbl (show w ∈ tables_1_1 ++ (tables_1_2 ++ (tables_1_3 ++ (tables_1_4 ++ (tables_1_5 ++ tables_1_6)))) from (List.mem_append_right _ (List.mem_append_right _ (List.mem_append_right _ (List.mem_append_left _ h))))) g
theorem bw_5 {w : Cond} (h : w ∈ tables_1_5) (g : goodWord w = true) : w ∈ BW := bw_tbl (show w ∈ tables_1_1 ++ (tables_1_2 ++ (tables_1_3 ++ (tables_1_4 ++ (tables_1_5 ++ tables_1_6)))) from (List.mem_append_right _ (List.mem_append_right _ (List.mem_append_right _ (List.mem_append_right _ (List.mem_append_left _ h)))))) g
theorem bw_6 {w : Cond} (h : w ∈ tables_1_6) (g : goodWord w = true) : w ∈ BW := bw_tbl (show w ∈ tables_1_1 ++ (tables_1_2 ++ (tables_1_3 ++ (tables_1_4 ++ (tables_1_5 ++ tables_1_6)))) from (List.mem_append_right _ (List.mem_append_right _ (List.mem_append_right _ (List.mem_append_right _ (List.mem_append_right _ h)))))) g
theorem bw_p {w : Cond} (h : w ∈ k2_sels lw_privs) (g : goodWord w = true) : w ∈ BW := List.mem_filter.mpr ⟨List.mem_append_left _ h, g⟩
theorem mw_1_0 : Cond.initialized RL ∈ BW := bw_1 (List.mem_of_getElem? (i := 0) rfl) rfl
theorem mw_1_1 : Cond.initialized RX9 ∈ BW := bw_1 (List.mem_of_getElem? (i := 1) rfl) rfl
theorem mw_1_2 : Cond.initialized RX2 ∈ BW := bw_1 (List.mem_of_getElem? (i := 2) rfl) rfl
theorem mw_1_3 : Cond.initialized RX6 ∈ BW := bw_1 (List.mem_of_getElem? (i := 3) rfl) rfl
theorem mw_1_4 : Cond.initialized RX3 ∈ BW := bw_1 (List.mem_of_getElem? (i := 4) rfl) rfl
theorem mw_1_5 : Cond.initialized RX7 ∈ BW := bw_1 (List.mem_of_getElem? (i := 5) rfl) rfl
theorem mw_1_6 : Cond.initialized RX0 ∈ BW := bw_1 (List.mem_of_getElem? (i := 6) rfl) rfl
theorem mw_1_7 : Cond.initialized RX5 ∈ BW := bw_1 (List.mem_of_getElem? (i := 7) rfl) rfl
theorem mw_1_8 : Cond.initialized RX8 ∈ BW := bw_1 (List.mem_of_getElem? (i := 8) rfl) rfl
theorem mw_1_9 : Cond.initialized RX4 ∈ BW := bw_1 (List.mem_of_getElem? (i := 9) rfl) rfl
theorem mw_1_10 : Cond.initialized RX1 ∈ BW := bw_1 (List.mem_of_getElem? (i := 10) rfl) rfl
theorem mw_1_11 : Cond.initialized RX10 ∈ BW := bw_1 (List.mem_of_getElem? (i := 11) rfl) rfl
theorem mw_1_12 : Cond.initialized RJ9 ∈ BW := bw_1 (List.mem_of_getElem? (i := 12) rfl) rfl
theorem mw_1_13 : Cond.initialized RJ13 ∈ BW := bw_1 (List.mem_of_getElem? (i := 13) rfl) rfl
theorem mw_1_18 : Cond.initialized RJ6 ∈ BW := bw_1 (List.mem_of_getElem? (i := 18) rfl) rfl
theorem mw_1_19 : Cond.classLink RL 8 RX9 ∈ BW := bw_1 (List.mem_of_getElem? (i := 19) rfl) rfl
theorem mw_1_20 : Cond.instantiable RX9 8 ∈ BW := bw_1 (List.mem_of_getElem? (i := 20) rfl) rfl
theorem mw_1_21 : Cond.methodLink RL 22 yX9_init ∈ BW := bw_1 (List.mem_of_getElem? (i := 21) rfl) rfl
theorem mw_1_22 : Cond.instanceMethod yX9_init ∈ BW := bw_1 (List.mem_of_getElem? (i := 22) rfl) rfl
theorem mw_1_23 : Cond.code yX9_init cX9_init 1 (none : Option Jvm.ClassFile.FieldType) ∈ BW := bw_1 (List.mem_of_getElem? (i := 23) rfl) rfl
theorem mw_1_24 : Cond.methodLink RX9 1 objectInit ∈ BW := bw_1 (List.mem_of_getElem? (i := 24) rfl) rfl
theorem mw_1_25 : Cond.instanceMethod objectInit ∈ BW := bw_1 (List.mem_of_getElem? (i := 25) rfl) rfl
theorem mw_1_27 : Cond.classLink RX9 7 RX2 ∈ BW := bw_1 (List.mem_of_getElem? (i := 27) rfl) rfl
theorem mw_1_28 : Cond.instantiable RX2 6 ∈ BW := bw_1 (List.mem_of_getElem? (i := 28) rfl) rfl
theorem mw_1_30 : Cond.instanceMethod yX2_init ∈ BW := bw_1 (List.mem_of_getElem? (i := 30) rfl) rfl
theorem mw_1_31 : Cond.code yX2_init cX2_init 1 (none : Option Jvm.ClassFile.FieldType) ∈ BW := bw_1 (List.mem_of_getElem? (i := 31) rfl) rfl
theorem mw_1_32 : Cond.methodLink RX2 3 objectInit ∈ BW := bw_1 (List.mem_of_getElem? (i := 32) rfl) rfl
theorem mw_1_33 : Cond.fieldLink RX2 9 "DrillCount$Forest" "axisOf" "[I" ∈ BW := bw_1 (List.mem_of_getElem? (i := 33) rfl) rfl
theorem mw_1_34 : Cond.fieldLink RX9 96 "DrillCount$Forest" "axisOf" "[I" ∈ BW := bw_1 (List.mem_of_getElem? (i := 34) rfl) rfl
theorem mw_1_35 : Cond.fieldLink RX7 119 "DrillCount$Forest" "axisOf" "[I" ∈ BW := bw_1 (List.mem_of_getElem? (i := 35) rfl) rfl
theorem mw_1_36 : Cond.fieldLink RX2 15 "DrillCount$Forest" "above" "[I" ∈ BW := bw_1 (List.mem_of_getElem? (i := 36) rfl) rfl
theorem mw_1_37 : Cond.fieldLink RX9 195 "DrillCount$Forest" "above" "[I" ∈ BW := bw_1 (List.mem_of_getElem? (i := 37) rfl) rfl
theorem mw_1_38 : Cond.fieldLink RX2 18 "DrillCount$Forest" "under" "[J" ∈ BW := bw_1 (List.mem_of_getElem? (i := 38) rfl) rfl
theorem mw_1_39 : Cond.fieldLink RX9 100 "DrillCount$Forest" "under" "[J" ∈ BW := bw_1 (List.mem_of_getElem? (i := 39) rfl) rfl
theorem mw_1_40 : Cond.fieldLink RX2 22 "DrillCount$Forest" "tagged" "[J" ∈ BW := bw_1 (List.mem_of_getElem? (i := 40) rfl) rfl
theorem mw_1_41 : Cond.fieldLink RX9 125 "DrillCount$Forest" "tagged" "[J" ∈ BW := bw_1 (List.mem_of_getElem? (i := 41) rfl) rfl
theorem mw_1_42 : Cond.fieldLink RX2 25 "DrillCount$Forest" "having" "[J" ∈ BW := bw_1 (List.mem_of_getElem? (i := 42) rfl) rfl
theorem mw_1_43 : Cond.fieldLink RX7 125 "DrillCount$Forest" "having" "[J" ∈ BW := bw_1 (List.mem_of_getElem? (i := 43) rfl) rfl
theorem mw_1_44 : Cond.fieldLink RX9 224 "DrillCount$Forest" "having" "[J" ∈ BW := bw_1 (List.mem_of_getElem? (i := 44) rfl) rfl
theorem mw_1_45 : Cond.fieldLink RX2 28 "DrillCount$Forest" "size" "I" ∈ BW := bw_1 (List.mem_of_getElem? (i := 45) rfl) rfl
theorem mw_1_46 : Cond.fieldLink RX9 81 "DrillCount$Forest" "size" "I" ∈ BW := bw_1 (List.mem_of_getElem? (i := 46) rfl) rfl
theorem mw_1_47 : Cond.laysFinal "DrillCount$Forest" "DrillCount$Forest" "axisOf" "[I" ∈ BW := bw_1 (List.mem_of_getElem? (i := 47) rfl) rfl
theorem mw_1_49 : Cond.laysFinal "DrillCount$Forest" "DrillCount$Forest" "above" "[I" ∈ BW := bw_1 (List.mem_of_getElem? (i := 49) rfl) rfl
theorem mw_1_51 : Cond.laysFinal "DrillCount$Forest" "DrillCount$Forest" "under" "[J" ∈ BW := bw_1 (List.mem_of_getElem? (i := 51) rfl) rfl
theorem mw_1_53 : Cond.laysFinal "DrillCount$Forest" "DrillCount$Forest" "tagged" "[J" ∈ BW := bw_1 (List.mem_of_getElem? (i := 53) rfl) rfl
theorem mw_1_55 : Cond.laysFinal "DrillCount$Forest" "DrillCount$Forest" "having" "[J" ∈ BW := bw_1 (List.mem_of_getElem? (i := 55) rfl) rfl
theorem mw_1_57 : Cond.lays "DrillCount$Forest" "DrillCount$Forest" "size" "I" ∈ BW := bw_1 (List.mem_of_getElem? (i := 57) rfl) rfl
theorem mw_1_60 : Cond.arrayClass FieldType.int ∈ BW := bw_1 (List.mem_of_getElem? (i := 60) rfl) rfl
theorem mw_1_61 : Cond.arrayClass FieldType.long ∈ BW := bw_1 (List.mem_of_getElem? (i := 61) rfl) rfl
theorem mw_1_62 : Cond.classLink RX9 16 RX6 ∈ BW := bw_1 (List.mem_of_getElem? (i := 62) rfl) rfl
theorem mw_1_63 : Cond.instantiable RX6 3 ∈ BW := bw_1 (List.mem_of_getElem? (i := 63) rfl) rfl
theorem mw_1_65 : Cond.instanceMethod yX6_init ∈ BW := bw_1 (List.mem_of_getElem? (i := 65) rfl) rfl
theorem mw_1_66 : Cond.code yX6_init cX6_init 1 (none : Option Jvm.ClassFile.FieldType) ∈ BW := bw_1 (List.mem_of_getElem? (i := 66) rfl) rfl
theorem mw_1_67 : Cond.methodLink RX6 3 objectInit ∈ BW := bw_1 (List.mem_of_getElem? (i := 67) rfl) rfl
theorem mw_1_68 : Cond.classLink RX6 9 RX3 ∈ BW := bw_1 (List.mem_of_getElem? (i := 68) rfl) rfl
theorem mw_1_69 : Cond.instantiable RX3 3 ∈ BW := bw_1 (List.mem_of_getElem? (i := 69) rfl) rfl
theorem mw_1_70 : Cond.methodLink RX6 11 yX3_init ∈ BW := bw_1 (List.mem_of_getElem? (i := 70) rfl) rfl
theorem mw_1_71 : Cond.instanceMethod yX3_init ∈ BW := bw_1 (List.mem_of_getElem? (i := 71) rfl) rfl
theorem mw_1_72 : Cond.code yX3_init cX3_init 2 (none : Option Jvm.ClassFile.FieldType) ∈ BW := bw_1 (List.mem_of_getElem? (i := 72) rfl) rfl
theorem mw_1_73 : Cond.methodLink RX3 3 objectInit ∈ BW := bw_1 (List.mem_of_getElem? (i := 73) rfl) rfl
theorem mw_1_74 : Cond.fieldLink RX3 9 "DrillCount$Ranking" "who" "[I" ∈ BW := bw_1 (List.mem_of_getElem? (i := 74) rfl) rfl
theorem mw_1_75 : Cond.fieldLink RX9 235 "DrillCount$Ranking" "who" "[I" ∈ BW := bw_1 (List.mem_of_getElem? (i := 75) rfl) rfl
theorem mw_1_76 : Cond.fieldLink RX3 15 "DrillCount$Ranking" "points" "[I" ∈ BW := bw_1 (List.mem_of_getElem? (i := 76) rfl) rfl
theorem mw_1_77 : Cond.fieldLink RX9 211 "DrillCount$Ranking" "points" "[I" ∈ BW := bw_1 (List.mem_of_getElem? (i := 77) rfl) rfl
theorem mw_1_78 : Cond.fieldLink RX3 18 "DrillCount$Ranking" "size" "I" ∈ BW := bw_1 (List.mem_of_getElem? (i := 78) rfl) rfl
theorem mw_1_79 : Cond.fieldLink RX9 234 "DrillCount$Ranking" "size" "I" ∈ BW := bw_1 (List.mem_of_getElem? (i := 79) rfl) rfl
theorem mw_1_80 : Cond.laysFinal "DrillCount$Ranking" "DrillCount$Ranking" "who" "[I" ∈ BW := bw_1 (List.mem_of_getElem? (i := 80) rfl) rfl
theorem mw_1_82 : Cond.laysFinal "DrillCount$Ranking" "DrillCount$Ranking" "points" "[I" ∈ BW := bw_1 (List.mem_of_getElem? (i := 82) rfl) rfl
theorem mw_1_84 : Cond.lays "DrillCount$Ranking" "DrillCount$Ranking" "size" "I" ∈ BW := bw_1 (List.mem_of_getElem? (i := 84) rfl) rfl
theorem mw_1_87 : Cond.fieldLink RX6 14 "DrillCount$Shelf" "order" "LDrillCount$Ranking;" ∈ BW := bw_1 (List.mem_of_getElem? (i := 87) rfl) rfl
theorem mw_1_88 : Cond.fieldLink RX9 208 "DrillCount$Shelf" "order" "LDrillCount$Ranking;" ∈ BW := bw_1 (List.mem_of_getElem? (i := 88) rfl) rfl
theorem mw_1_89 : Cond.fieldLink RX6 28 "DrillCount$Shelf" "there" "J" ∈ BW := bw_1 (List.mem_of_getElem? (i := 89) rfl) rfl
theorem mw_1_90 : Cond.fieldLink RX7 58 "DrillCount$Shelf" "there" "J" ∈ BW := bw_1 (List.mem_of_getElem? (i := 90) rfl) rfl
theorem mw_1_91 : Cond.fieldLink RX6 20 "DrillCount$Shelf" "size" "I" ∈ BW := bw_1 (List.mem_of_getElem? (i := 91) rfl) rfl
theorem mw_1_92 : Cond.fieldLink RX9 118 "DrillCount$Shelf" "size" "I" ∈ BW := bw_1 (List.mem_of_getElem? (i := 92) rfl) rfl
theorem mw_1_93 : Cond.fieldLink RX7 88 "DrillCount$Shelf" "size" "I" ∈ BW := bw_1 (List.mem_of_getElem? (i := 93) rfl) rfl
theorem mw_1_94 : Cond.laysFinal "DrillCount$Shelf" "DrillCount$Shelf" "order" "LDrillCount$Ranking;" ∈ BW := bw_1 (List.mem_of_getElem? (i := 94) rfl) rfl
theorem mw_1_96 : Cond.lays "DrillCount$Shelf" "DrillCount$Shelf" "there" "J" ∈ BW := bw_1 (List.mem_of_getElem? (i := 96) rfl) rfl
theorem mw_1_98 : Cond.lays "DrillCount$Shelf" "DrillCount$Shelf" "size" "I" ∈ BW := bw_1 (List.mem_of_getElem? (i := 98) rfl) rfl
theorem mw_1_101 : Cond.classLink RX9 23 RX7 ∈ BW := bw_1 (List.mem_of_getElem? (i := 101) rfl) rfl
theorem mw_1_102 : Cond.instantiable RX7 5 ∈ BW := bw_1 (List.mem_of_getElem? (i := 102) rfl) rfl
theorem mw_1_103 : Cond.methodLink RX9 25 yX7_init ∈ BW := bw_1 (List.mem_of_getElem? (i := 103) rfl) rfl
theorem mw_1_104 : Cond.instanceMethod yX7_init ∈ BW := bw_1 (List.mem_of_getElem? (i := 104) rfl) rfl
theorem mw_1_105 : Cond.code yX7_init cX7_init 4 (none : Option Jvm.ClassFile.FieldType) ∈ BW := bw_1 (List.mem_of_getElem? (i := 105) rfl) rfl
theorem mw_1_106 : Cond.methodLink RX7 3 objectInit ∈ BW := bw_1 (List.mem_of_getElem? (i := 106) rfl) rfl
theorem mw_1_107 : Cond.classLink RX7 9 RX0 ∈ BW := bw_1 (List.mem_of_getElem? (i := 107) rfl) rfl
theorem mw_1_109 : Cond.instantiable RX0 4 ∈ BW := bw_1 (List.mem_of_getElem? (i := 109) rfl) rfl
theorem mw_1_111 : Cond.instanceMethod yX0_init ∈ BW := bw_1 (List.mem_of_getElem? (i := 111) rfl) rfl
theorem mw_1_112 : Cond.code yX0_init cX0_init 1 (none : Option Jvm.ClassFile.FieldType) ∈ BW := bw_1 (List.mem_of_getElem? (i := 112) rfl) rfl
theorem mw_1_113 : Cond.methodLink RX0 3 objectInit ∈ BW := bw_1 (List.mem_of_getElem? (i := 113) rfl) rfl
theorem mw_1_114 : Cond.classLink RX0 15 RX5 ∈ BW := bw_1 (List.mem_of_getElem? (i := 114) rfl) rfl
theorem mw_1_115 : Cond.instantiable RX5 5 ∈ BW := bw_1 (List.mem_of_getElem? (i := 115) rfl) rfl
theorem mw_1_117 : Cond.instanceMethod yX5_init ∈ BW := bw_1 (List.mem_of_getElem? (i := 117) rfl) rfl
theorem mw_1_118 : Cond.code yX5_init cX5_init 1 (none : Option Jvm.ClassFile.FieldType) ∈ BW := bw_1 (List.mem_of_getElem? (i := 118) rfl) rfl
theorem mw_1_119 : Cond.methodLink RX5 3 objectInit ∈ BW := bw_1 (List.mem_of_getElem? (i := 119) rfl) rfl
theorem mw_1_120 : Cond.fieldLink RX5 18 "DrillCount$Selection" "categories" "J" ∈ BW := bw_1 (List.mem_of_getElem? (i := 120) rfl) rfl
theorem mw_1_121 : Cond.fieldLink RX7 68 "DrillCount$Selection" "categories" "J" ∈ BW := bw_1 (List.mem_of_getElem? (i := 121) rfl) rfl
theorem mw_1_122 : Cond.fieldLink RX9 162 "DrillCount$Selection" "categories" "J" ∈ BW := bw_1 (List.mem_of_getElem? (i := 122) rfl) rfl
theorem mw_1_123 : Cond.fieldLink RX5 22 "DrillCount$Selection" "absent" "Z" ∈ BW := bw_1 (List.mem_of_getElem? (i := 123) rfl) rfl
theorem mw_1_124 : Cond.fieldLink RX7 77 "DrillCount$Selection" "absent" "Z" ∈ BW := bw_1 (List.mem_of_getElem? (i := 124) rfl) rfl
theorem mw_1_125 : Cond.fieldLink RX9 179 "DrillCount$Selection" "absent" "Z" ∈ BW := bw_1 (List.mem_of_getElem? (i := 125) rfl) rfl
theorem mw_1_126 : Cond.fieldLink RX5 26 "DrillCount$Selection" "ranges" "I" ∈ BW := bw_1 (List.mem_of_getElem? (i := 126) rfl) rfl
theorem mw_1_127 : Cond.fieldLink RX9 169 "DrillCount$Selection" "ranges" "I" ∈ BW := bw_1 (List.mem_of_getElem? (i := 127) rfl) rfl
theorem mw_1_128 : Cond.fieldLink RX7 134 "DrillCount$Selection" "ranges" "I" ∈ BW := bw_1 (List.mem_of_getElem? (i := 128) rfl) rfl
theorem mw_1_129 : Cond.fieldLink RX5 9 "DrillCount$Selection" "lows" "[I" ∈ BW := bw_1 (List.mem_of_getElem? (i := 129) rfl) rfl
theorem mw_1_130 : Cond.fieldLink RX5 15 "DrillCount$Selection" "highs" "[I" ∈ BW := bw_1 (List.mem_of_getElem? (i := 130) rfl) rfl
theorem mw_1_131 : Cond.lays "DrillCount$Selection" "DrillCount$Selection" "categories" "J" ∈ BW := bw_1 (List.mem_of_getElem? (i := 131) rfl) rfl
theorem mw_1_133 : Cond.lays "DrillCount$Selection" "DrillCount$Selection" "absent" "Z" ∈ BW := bw_1 (List.mem_of_getElem? (i := 133) rfl) rfl
theorem mw_1_135 : Cond.lays "DrillCount$Selection" "DrillCount$Selection" "ranges" "I" ∈ BW := bw_1 (List.mem_of_getElem? (i := 135) rfl) rfl
theorem mw_1_137 : Cond.laysFinal "DrillCount$Selection" "DrillCount$Selection" "lows" "[I" ∈ BW := bw_1 (List.mem_of_getElem? (i := 137) rfl) rfl
theorem mw_1_139 : Cond.laysFinal "DrillCount$Selection" "DrillCount$Selection" "highs" "[I" ∈ BW := bw_1 (List.mem_of_getElem? (i := 139) rfl) rfl
theorem mw_1_142 : Cond.fieldLink RX0 9 "DrillCount$Axis" "kind" "I" ∈ BW := bw_1 (List.mem_of_getElem? (i := 142) rfl) rfl
theorem mw_1_143 : Cond.fieldLink RX7 38 "DrillCount$Axis" "kind" "I" ∈ BW := bw_1 (List.mem_of_getElem? (i := 143) rfl) rfl
theorem mw_1_144 : Cond.fieldLink RX9 255 "DrillCount$Axis" "kind" "I" ∈ BW := bw_1 (List.mem_of_getElem? (i := 144) rfl) rfl
theorem mw_1_145 : Cond.fieldLink RX0 18 "DrillCount$Axis" "chosen" "LDrillCount$Selection;" ∈ BW := bw_1 (List.mem_of_getElem? (i := 145) rfl) rfl
theorem mw_1_146 : Cond.fieldLink RX8 39 "DrillCount$Axis" "chosen" "LDrillCount$Selection;" ∈ BW := bw_1 (List.mem_of_getElem? (i := 146) rfl) rfl
theorem mw_1_147 : Cond.fieldLink RX7 44 "DrillCount$Axis" "chosen" "LDrillCount$Selection;" ∈ BW := bw_1 (List.mem_of_getElem? (i := 147) rfl) rfl
theorem mw_1_148 : Cond.fieldLink RX9 159 "DrillCount$Axis" "chosen" "LDrillCount$Selection;" ∈ BW := bw_1 (List.mem_of_getElem? (i := 148) rfl) rfl
theorem mw_1_149 : Cond.fieldLink RX0 22 "DrillCount$Axis" "numbers" "[I" ∈ BW := bw_1 (List.mem_of_getElem? (i := 149) rfl) rfl
theorem mw_1_150 : Cond.fieldLink RX9 138 "DrillCount$Axis" "numbers" "[I" ∈ BW := bw_1 (List.mem_of_getElem? (i := 150) rfl) rfl
theorem mw_1_151 : Cond.fieldLink RX7 96 "DrillCount$Axis" "numbers" "[I" ∈ BW := bw_1 (List.mem_of_getElem? (i := 151) rfl) rfl
theorem mw_1_152 : Cond.fieldLink RX9 143 "DrillCount$Axis" "numbered" "J" ∈ BW := bw_1 (List.mem_of_getElem? (i := 152) rfl) rfl
theorem mw_1_153 : Cond.fieldLink RX7 89 "DrillCount$Axis" "numbered" "J" ∈ BW := bw_1 (List.mem_of_getElem? (i := 153) rfl) rfl
theorem mw_1_154 : Cond.lays "DrillCount$Axis" "DrillCount$Axis" "kind" "I" ∈ BW := bw_1 (List.mem_of_getElem? (i := 154) rfl) rfl
theorem mw_1_156 : Cond.laysFinal "DrillCount$Axis" "DrillCount$Axis" "chosen" "LDrillCount$Selection;" ∈ BW := bw_1 (List.mem_of_getElem? (i := 156) rfl) rfl
theorem mw_1_158 : Cond.laysFinal "DrillCount$Axis" "DrillCount$Axis" "numbers" "[I" ∈ BW := bw_1 (List.mem_of_getElem? (i := 158) rfl) rfl
theorem mw_1_160 : Cond.lays "DrillCount$Axis" "DrillCount$Axis" "numbered" "J" ∈ BW := bw_1 (List.mem_of_getElem? (i := 160) rfl) rfl
theorem mw_1_163 : Cond.fieldLink RX7 21 "DrillCount$Sieve" "forest" "LDrillCount$Forest;" ∈ BW := bw_1 (List.mem_of_getElem? (i := 163) rfl) rfl
theorem mw_1_164 : Cond.fieldLink RX7 25 "DrillCount$Sieve" "shelf" "LDrillCount$Shelf;" ∈ BW := bw_1 (List.mem_of_getElem? (i := 164) rfl) rfl
theorem mw_1_165 : Cond.fieldLink RX7 11 "DrillCount$Sieve" "axes" "[LDrillCount$Axis;" ∈ BW := bw_1 (List.mem_of_getElem? (i := 165) rfl) rfl
theorem mw_1_166 : Cond.fieldLink RX9 134 "DrillCount$Sieve" "axes" "[LDrillCount$Axis;" ∈ BW := bw_1 (List.mem_of_getElem? (i := 166) rfl) rfl
theorem mw_1_167 : Cond.fieldLink RX7 17 "DrillCount$Sieve" "passing" "[J" ∈ BW := bw_1 (List.mem_of_getElem? (i := 167) rfl) rfl
theorem mw_1_168 : Cond.fieldLink RX7 30 "DrillCount$Sieve" "size" "I" ∈ BW := bw_1 (List.mem_of_getElem? (i := 168) rfl) rfl
theorem mw_1_169 : Cond.fieldLink RX9 69 "DrillCount$Sieve" "size" "I" ∈ BW := bw_1 (List.mem_of_getElem? (i := 169) rfl) rfl
theorem mw_1_170 : Cond.laysFinal "DrillCount$Sieve" "DrillCount$Sieve" "forest" "LDrillCount$Forest;" ∈ BW := bw_1 (List.mem_of_getElem? (i := 170) rfl) rfl
theorem mw_1_172 : Cond.laysFinal "DrillCount$Sieve" "DrillCount$Sieve" "shelf" "LDrillCount$Shelf;" ∈ BW := bw_1 (List.mem_of_getElem? (i := 172) rfl) rfl
theorem mw_1_174 : Cond.laysFinal "DrillCount$Sieve" "DrillCount$Sieve" "axes" "[LDrillCount$Axis;" ∈ BW := bw_1 (List.mem_of_getElem? (i := 174) rfl) rfl
theorem mw_1_176 : Cond.laysFinal "DrillCount$Sieve" "DrillCount$Sieve" "passing" "[J" ∈ BW := bw_1 (List.mem_of_getElem? (i := 176) rfl) rfl
theorem mw_1_178 : Cond.lays "DrillCount$Sieve" "DrillCount$Sieve" "size" "I" ∈ BW := bw_1 (List.mem_of_getElem? (i := 178) rfl) rfl
theorem mw_1_181 : Cond.classLink RX9 32 RX8 ∈ BW := bw_1 (List.mem_of_getElem? (i := 181) rfl) rfl
theorem mw_1_182 : Cond.instantiable RX8 4 ∈ BW := bw_1 (List.mem_of_getElem? (i := 182) rfl) rfl
theorem mw_1_183 : Cond.methodLink RX9 34 yX8_init ∈ BW := bw_1 (List.mem_of_getElem? (i := 183) rfl) rfl
theorem mw_1_184 : Cond.instanceMethod yX8_init ∈ BW := bw_1 (List.mem_of_getElem? (i := 184) rfl) rfl
theorem mw_1_185 : Cond.code yX8_init cX8_init 2 (none : Option Jvm.ClassFile.FieldType) ∈ BW := bw_1 (List.mem_of_getElem? (i := 185) rfl) rfl
theorem mw_1_186 : Cond.methodLink RX8 3 objectInit ∈ BW := bw_1 (List.mem_of_getElem? (i := 186) rfl) rfl
theorem mw_1_187 : Cond.classLink RX8 15 RX5 ∈ BW := bw_1 (List.mem_of_getElem? (i := 187) rfl) rfl
theorem mw_1_190 : Cond.fieldLink RX8 9 "DrillCount$Trail" "axisOf" "[I" ∈ BW := bw_1 (List.mem_of_getElem? (i := 190) rfl) rfl
theorem mw_1_191 : Cond.fieldLink RX8 17 "DrillCount$Trail" "before" "[LDrillCount$Selection;" ∈ BW := bw_1 (List.mem_of_getElem? (i := 191) rfl) rfl
theorem mw_1_192 : Cond.fieldLink RX8 22 "DrillCount$Trail" "next" "I" ∈ BW := bw_1 (List.mem_of_getElem? (i := 192) rfl) rfl
theorem mw_1_193 : Cond.fieldLink RX8 30 "DrillCount$Trail" "size" "I" ∈ BW := bw_1 (List.mem_of_getElem? (i := 193) rfl) rfl
theorem mw_1_194 : Cond.fieldLink RX9 190 "DrillCount$Trail" "size" "I" ∈ BW := bw_1 (List.mem_of_getElem? (i := 194) rfl) rfl
theorem mw_1_195 : Cond.laysFinal "DrillCount$Trail" "DrillCount$Trail" "axisOf" "[I" ∈ BW := bw_1 (List.mem_of_getElem? (i := 195) rfl) rfl
theorem mw_1_197 : Cond.laysFinal "DrillCount$Trail" "DrillCount$Trail" "before" "[LDrillCount$Selection;" ∈ BW := bw_1 (List.mem_of_getElem? (i := 197) rfl) rfl
theorem mw_1_199 : Cond.lays "DrillCount$Trail" "DrillCount$Trail" "next" "I" ∈ BW := bw_1 (List.mem_of_getElem? (i := 199) rfl) rfl
theorem mw_1_201 : Cond.lays "DrillCount$Trail" "DrillCount$Trail" "size" "I" ∈ BW := bw_1 (List.mem_of_getElem? (i := 201) rfl) rfl
theorem mw_1_204 : Cond.classLink RX9 39 RX3 ∈ BW := bw_1 (List.mem_of_getElem? (i := 204) rfl) rfl
theorem mw_1_205 : Cond.methodLink RX9 41 yX3_init ∈ BW := bw_1 (List.mem_of_getElem? (i := 205) rfl) rfl
theorem mw_1_206 : Cond.classLink RX9 48 RX4 ∈ BW := bw_1 (List.mem_of_getElem? (i := 206) rfl) rfl
theorem mw_1_207 : Cond.instantiable RX4 2 ∈ BW := bw_1 (List.mem_of_getElem? (i := 207) rfl) rfl
theorem mw_1_208 : Cond.methodLink RX9 50 yX4_init ∈ BW := bw_1 (List.mem_of_getElem? (i := 208) rfl) rfl
theorem mw_1_209 : Cond.instanceMethod yX4_init ∈ BW := bw_1 (List.mem_of_getElem? (i := 209) rfl) rfl
theorem mw_1_210 : Cond.code yX4_init cX4_init 2 (none : Option Jvm.ClassFile.FieldType) ∈ BW := bw_1 (List.mem_of_getElem? (i := 210) rfl) rfl
theorem mw_1_211 : Cond.methodLink RX4 1 objectInit ∈ BW := bw_1 (List.mem_of_getElem? (i := 211) rfl) rfl
theorem mw_1_212 : Cond.fieldLink RX4 7 "DrillCount$Row" "values" "[I" ∈ BW := bw_1 (List.mem_of_getElem? (i := 212) rfl) rfl
theorem mw_1_213 : Cond.fieldLink RX9 278 "DrillCount$Row" "values" "[I" ∈ BW := bw_1 (List.mem_of_getElem? (i := 213) rfl) rfl
theorem mw_1_214 : Cond.fieldLink RX4 13 "DrillCount$Row" "size" "I" ∈ BW := bw_1 (List.mem_of_getElem? (i := 214) rfl) rfl
theorem mw_1_215 : Cond.fieldLink RX9 274 "DrillCount$Row" "size" "I" ∈ BW := bw_1 (List.mem_of_getElem? (i := 215) rfl) rfl
theorem mw_1_216 : Cond.laysFinal "DrillCount$Row" "DrillCount$Row" "values" "[I" ∈ BW := bw_1 (List.mem_of_getElem? (i := 216) rfl) rfl
theorem mw_1_218 : Cond.lays "DrillCount$Row" "DrillCount$Row" "size" "I" ∈ BW := bw_1 (List.mem_of_getElem? (i := 218) rfl) rfl
theorem mw_1_221 : Cond.classLink RX9 55 RX5 ∈ BW := bw_1 (List.mem_of_getElem? (i := 221) rfl) rfl
theorem mw_1_223 : Cond.classLink RX9 62 RX1 ∈ BW := bw_1 (List.mem_of_getElem? (i := 223) rfl) rfl
theorem mw_1_224 : Cond.instantiable RX1 5 ∈ BW := bw_1 (List.mem_of_getElem? (i := 224) rfl) rfl
theorem mw_1_226 : Cond.instanceMethod yX1_init ∈ BW := bw_1 (List.mem_of_getElem? (i := 226) rfl) rfl
theorem mw_1_227 : Cond.code yX1_init cX1_init 1 (none : Option Jvm.ClassFile.FieldType) ∈ BW := bw_1 (List.mem_of_getElem? (i := 227) rfl) rfl
theorem mw_1_228 : Cond.methodLink RX1 3 objectInit ∈ BW := bw_1 (List.mem_of_getElem? (i := 228) rfl) rfl
theorem mw_1_229 : Cond.fieldLink RX1 9 "DrillCount$Covering" "numbers" "[I" ∈ BW := bw_1 (List.mem_of_getElem? (i := 229) rfl) rfl
theorem mw_1_230 : Cond.fieldLink RX1 15 "DrillCount$Covering" "having" "[J" ∈ BW := bw_1 (List.mem_of_getElem? (i := 230) rfl) rfl
theorem mw_1_231 : Cond.fieldLink RX1 19 "DrillCount$Covering" "reach" "[J" ∈ BW := bw_1 (List.mem_of_getElem? (i := 231) rfl) rfl
theorem mw_1_232 : Cond.fieldLink RX1 22 "DrillCount$Covering" "chosen" "[I" ∈ BW := bw_1 (List.mem_of_getElem? (i := 232) rfl) rfl
theorem mw_1_233 : Cond.fieldLink RX9 319 "DrillCount$Covering" "chosen" "[I" ∈ BW := bw_1 (List.mem_of_getElem? (i := 233) rfl) rfl
theorem mw_1_234 : Cond.fieldLink RX1 25 "DrillCount$Covering" "size" "I" ∈ BW := bw_1 (List.mem_of_getElem? (i := 234) rfl) rfl
theorem mw_1_235 : Cond.fieldLink RX9 345 "DrillCount$Covering" "size" "I" ∈ BW := bw_1 (List.mem_of_getElem? (i := 235) rfl) rfl
theorem mw_1_236 : Cond.laysFinal "DrillCount$Covering" "DrillCount$Covering" "numbers" "[I" ∈ BW := bw_1 (List.mem_of_getElem? (i := 236) rfl) rfl
theorem mw_1_238 : Cond.laysFinal "DrillCount$Covering" "DrillCount$Covering" "having" "[J" ∈ BW := bw_1 (List.mem_of_getElem? (i := 238) rfl) rfl
theorem mw_2_0 : Cond.laysFinal "DrillCount$Covering" "DrillCount$Covering" "reach" "[J" ∈ BW := bw_2 (List.mem_of_getElem? (i := 0) rfl) rfl
theorem mw_2_2 : Cond.laysFinal "DrillCount$Covering" "DrillCount$Covering" "chosen" "[I" ∈ BW := bw_2 (List.mem_of_getElem? (i := 2) rfl) rfl
theorem mw_2_4 : Cond.lays "DrillCount$Covering" "DrillCount$Covering" "size" "I" ∈ BW := bw_2 (List.mem_of_getElem? (i := 4) rfl) rfl
theorem mw_2_7 : Cond.fieldLink RX9 10 "DrillCount" "forest" "LDrillCount$Forest;" ∈ BW := bw_2 (List.mem_of_getElem? (i := 7) rfl) rfl
theorem mw_2_8 : Cond.fieldLink RX9 19 "DrillCount" "shelf" "LDrillCount$Shelf;" ∈ BW := bw_2 (List.mem_of_getElem? (i := 8) rfl) rfl
theorem mw_2_9 : Cond.fieldLink RX9 28 "DrillCount" "sieve" "LDrillCount$Sieve;" ∈ BW := bw_2 (List.mem_of_getElem? (i := 9) rfl) rfl
theorem mw_2_10 : Cond.fieldLink RX9 35 "DrillCount" "trail" "LDrillCount$Trail;" ∈ BW := bw_2 (List.mem_of_getElem? (i := 10) rfl) rfl
theorem mw_2_11 : Cond.fieldLink RX9 44 "DrillCount" "ranking" "LDrillCount$Ranking;" ∈ BW := bw_2 (List.mem_of_getElem? (i := 11) rfl) rfl
theorem mw_2_12 : Cond.fieldLink RX9 51 "DrillCount" "row" "LDrillCount$Row;" ∈ BW := bw_2 (List.mem_of_getElem? (i := 12) rfl) rfl
theorem mw_2_13 : Cond.fieldLink RX9 58 "DrillCount" "trial" "LDrillCount$Selection;" ∈ BW := bw_2 (List.mem_of_getElem? (i := 13) rfl) rfl
theorem mw_2_14 : Cond.fieldLink RX9 65 "DrillCount" "covering" "LDrillCount$Covering;" ∈ BW := bw_2 (List.mem_of_getElem? (i := 14) rfl) rfl
theorem mw_2_15 : Cond.laysFinal "DrillCount" "DrillCount" "forest" "LDrillCount$Forest;" ∈ BW := bw_2 (List.mem_of_getElem? (i := 15) rfl) rfl
theorem mw_2_17 : Cond.laysFinal "DrillCount" "DrillCount" "shelf" "LDrillCount$Shelf;" ∈ BW := bw_2 (List.mem_of_getElem? (i := 17) rfl) rfl
theorem mw_2_19 : Cond.laysFinal "DrillCount" "DrillCount" "sieve" "LDrillCount$Sieve;" ∈ BW := bw_2 (List.mem_of_getElem? (i := 19) rfl) rfl
theorem mw_2_21 : Cond.laysFinal "DrillCount" "DrillCount" "trail" "LDrillCount$Trail;" ∈ BW := bw_2 (List.mem_of_getElem? (i := 21) rfl) rfl
theorem mw_2_23 : Cond.laysFinal "DrillCount" "DrillCount" "ranking" "LDrillCount$Ranking;" ∈ BW := bw_2 (List.mem_of_getElem? (i := 23) rfl) rfl
theorem mw_2_25 : Cond.laysFinal "DrillCount" "DrillCount" "row" "LDrillCount$Row;" ∈ BW := bw_2 (List.mem_of_getElem? (i := 25) rfl) rfl
theorem mw_2_27 : Cond.laysFinal "DrillCount" "DrillCount" "trial" "LDrillCount$Selection;" ∈ BW := bw_2 (List.mem_of_getElem? (i := 27) rfl) rfl
theorem mw_2_29 : Cond.laysFinal "DrillCount" "DrillCount" "covering" "LDrillCount$Covering;" ∈ BW := bw_2 (List.mem_of_getElem? (i := 29) rfl) rfl
theorem mw_2_32 : Cond.methodLink RL 26 yX9_axis ∈ BW := bw_2 (List.mem_of_getElem? (i := 32) rfl) rfl
theorem mw_2_33 : Cond.instanceMethod yX9_axis ∈ BW := bw_2 (List.mem_of_getElem? (i := 33) rfl) rfl
theorem mw_2_34 : Cond.selects RX9 yX9_axis yX9_axis ∈ BW := bw_2 (List.mem_of_getElem? (i := 34) rfl) rfl
theorem mw_2_35 : Cond.code yX9_axis cX9_axis 2 (some .int) ∈ BW := bw_2 (List.mem_of_getElem? (i := 35) rfl) rfl
theorem mw_2_36 : Cond.methodLink RX9 73 yX7_addAxis ∈ BW := bw_2 (List.mem_of_getElem? (i := 36) rfl) rfl
theorem mw_2_37 : Cond.instanceMethod yX7_addAxis ∈ BW := bw_2 (List.mem_of_getElem? (i := 37) rfl) rfl
theorem mw_2_38 : Cond.selects RX7 yX7_addAxis yX7_addAxis ∈ BW := bw_2 (List.mem_of_getElem? (i := 38) rfl) rfl
theorem mw_2_39 : Cond.code yX7_addAxis cX7_addAxis 3 (some .int) ∈ BW := bw_2 (List.mem_of_getElem? (i := 39) rfl) rfl
theorem mw_2_40 : Cond.methodLink RX7 41 yX7_renew ∈ BW := bw_2 (List.mem_of_getElem? (i := 40) rfl) rfl
theorem mw_2_41 : Cond.instanceMethod yX7_renew ∈ BW := bw_2 (List.mem_of_getElem? (i := 41) rfl) rfl
theorem mw_2_42 : Cond.selects RX7 yX7_renew yX7_renew ∈ BW := bw_2 (List.mem_of_getElem? (i := 42) rfl) rfl
theorem mw_2_43 : Cond.code yX7_renew cX7_renew 2 (none : Option Jvm.ClassFile.FieldType) ∈ BW := bw_2 (List.mem_of_getElem? (i := 43) rfl) rfl
theorem mw_2_44 : Cond.methodLink RX7 48 yX7_sift ∈ BW := bw_2 (List.mem_of_getElem? (i := 44) rfl) rfl
theorem mw_2_45 : Cond.instanceMethod yX7_sift ∈ BW := bw_2 (List.mem_of_getElem? (i := 45) rfl) rfl
theorem mw_2_46 : Cond.selects RX7 yX7_sift yX7_sift ∈ BW := bw_2 (List.mem_of_getElem? (i := 46) rfl) rfl
theorem mw_2_47 : Cond.code yX7_sift cX7_sift 7 (some .long) ∈ BW := bw_2 (List.mem_of_getElem? (i := 47) rfl) rfl
theorem mw_2_48 : Cond.methodLink RX7 52 yX5_isOpen ∈ BW := bw_2 (List.mem_of_getElem? (i := 48) rfl) rfl
theorem mw_2_49 : Cond.instanceMethod yX5_isOpen ∈ BW := bw_2 (List.mem_of_getElem? (i := 49) rfl) rfl
theorem mw_2_50 : Cond.selects RX5 yX5_isOpen yX5_isOpen ∈ BW := bw_2 (List.mem_of_getElem? (i := 50) rfl) rfl
theorem mw_2_51 : Cond.code yX5_isOpen cX5_isOpen 1 (some .boolean) ∈ BW := bw_2 (List.mem_of_getElem? (i := 51) rfl) rfl
theorem mw_2_52 : Cond.methodLink RX7 64 yX7_absentOn ∈ BW := bw_2 (List.mem_of_getElem? (i := 52) rfl) rfl
theorem mw_2_53 : Cond.instanceMethod yX7_absentOn ∈ BW := bw_2 (List.mem_of_getElem? (i := 53) rfl) rfl
theorem mw_2_54 : Cond.selects RX7 yX7_absentOn yX7_absentOn ∈ BW := bw_2 (List.mem_of_getElem? (i := 54) rfl) rfl
theorem mw_2_55 : Cond.code yX7_absentOn cX7_absentOn 3 (some .long) ∈ BW := bw_2 (List.mem_of_getElem? (i := 55) rfl) rfl
theorem mw_2_56 : Cond.methodLink RX7 106 yX2_taggedOn ∈ BW := bw_2 (List.mem_of_getElem? (i := 56) rfl) rfl
theorem mw_2_57 : Cond.instanceMethod yX2_taggedOn ∈ BW := bw_2 (List.mem_of_getElem? (i := 57) rfl) rfl
theorem mw_2_58 : Cond.selects RX2 yX2_taggedOn yX2_taggedOn ∈ BW := bw_2 (List.mem_of_getElem? (i := 58) rfl) rfl
theorem mw_2_59 : Cond.code yX2_taggedOn cX2_taggedOn 5 (some .long) ∈ BW := bw_2 (List.mem_of_getElem? (i := 59) rfl) rfl
theorem mw_2_60 : Cond.constantLong RX7 109 (-1) ∈ BW := bw_2 (List.mem_of_getElem? (i := 60) rfl) rfl
theorem mw_2_61 : Cond.methodLink RX7 71 yX2_havingAll ∈ BW := bw_2 (List.mem_of_getElem? (i := 61) rfl) rfl
theorem mw_2_62 : Cond.instanceMethod yX2_havingAll ∈ BW := bw_2 (List.mem_of_getElem? (i := 62) rfl) rfl
theorem mw_2_63 : Cond.selects RX2 yX2_havingAll yX2_havingAll ∈ BW := bw_2 (List.mem_of_getElem? (i := 63) rfl) rfl
theorem mw_2_64 : Cond.code yX2_havingAll cX2_havingAll 6 (some .long) ∈ BW := bw_2 (List.mem_of_getElem? (i := 64) rfl) rfl
theorem mw_2_65 : Cond.constantLong RX2 44 (-1) ∈ BW := bw_2 (List.mem_of_getElem? (i := 65) rfl) rfl
theorem mw_2_67 : Cond.static yX9_inSet ∈ BW := bw_2 (List.mem_of_getElem? (i := 67) rfl) rfl
theorem mw_2_68 : Cond.code yX9_inSet cX9_inSet 3 (some .boolean) ∈ BW := bw_2 (List.mem_of_getElem? (i := 68) rfl) rfl
theorem mw_2_69 : Cond.methodLink RX7 81 yX7_inRanges ∈ BW := bw_2 (List.mem_of_getElem? (i := 69) rfl) rfl
theorem mw_2_71 : Cond.instanceMethod yX7_inRanges ∈ BW := bw_2 (List.mem_of_getElem? (i := 71) rfl) rfl
theorem mw_2_72 : Cond.code yX7_inRanges cX7_inRanges 6 (some .long) ∈ BW := bw_2 (List.mem_of_getElem? (i := 72) rfl) rfl
theorem mw_2_74 : Cond.methodLink RX7 100 yX5_takesNumber ∈ BW := bw_2 (List.mem_of_getElem? (i := 74) rfl) rfl
theorem mw_2_75 : Cond.instanceMethod yX5_takesNumber ∈ BW := bw_2 (List.mem_of_getElem? (i := 75) rfl) rfl
theorem mw_2_76 : Cond.selects RX5 yX5_takesNumber yX5_takesNumber ∈ BW := bw_2 (List.mem_of_getElem? (i := 76) rfl) rfl
theorem mw_2_77 : Cond.code yX5_takesNumber cX5_takesNumber 3 (some .boolean) ∈ BW := bw_2 (List.mem_of_getElem? (i := 77) rfl) rfl
theorem mw_2_79 : Cond.static yX9_bit ∈ BW := bw_2 (List.mem_of_getElem? (i := 79) rfl) rfl
theorem mw_2_80 : Cond.code yX9_bit cX9_bit 1 (some .long) ∈ BW := bw_2 (List.mem_of_getElem? (i := 80) rfl) rfl
theorem mw_2_81 : Cond.methodLink RX7 85 yX2_havingAny ∈ BW := bw_2 (List.mem_of_getElem? (i := 81) rfl) rfl
theorem mw_2_82 : Cond.instanceMethod yX2_havingAny ∈ BW := bw_2 (List.mem_of_getElem? (i := 82) rfl) rfl
theorem mw_2_83 : Cond.selects RX2 yX2_havingAny yX2_havingAny ∈ BW := bw_2 (List.mem_of_getElem? (i := 83) rfl) rfl
theorem mw_2_84 : Cond.code yX2_havingAny cX2_havingAny 6 (some .long) ∈ BW := bw_2 (List.mem_of_getElem? (i := 84) rfl) rfl
theorem mw_2_85 : Cond.methodLink RL 31 yX9_category ∈ BW := bw_2 (List.mem_of_getElem? (i := 85) rfl) rfl
theorem mw_2_86 : Cond.instanceMethod yX9_category ∈ BW := bw_2 (List.mem_of_getElem? (i := 86) rfl) rfl
theorem mw_2_87 : Cond.selects RX9 yX9_category yX9_category ∈ BW := bw_2 (List.mem_of_getElem? (i := 87) rfl) rfl
theorem mw_2_88 : Cond.code yX9_category cX9_category 3 (some .int) ∈ BW := bw_2 (List.mem_of_getElem? (i := 88) rfl) rfl
theorem mw_2_89 : Cond.methodLink RX9 77 yX7_isTree ∈ BW := bw_2 (List.mem_of_getElem? (i := 89) rfl) rfl
theorem mw_2_90 : Cond.instanceMethod yX7_isTree ∈ BW := bw_2 (List.mem_of_getElem? (i := 90) rfl) rfl
theorem mw_2_91 : Cond.selects RX7 yX7_isTree yX7_isTree ∈ BW := bw_2 (List.mem_of_getElem? (i := 91) rfl) rfl
theorem mw_2_92 : Cond.code yX7_isTree cX7_isTree 2 (some .boolean) ∈ BW := bw_2 (List.mem_of_getElem? (i := 92) rfl) rfl
theorem mw_2_93 : Cond.methodLink RX7 34 yX7_knows ∈ BW := bw_2 (List.mem_of_getElem? (i := 93) rfl) rfl
theorem mw_2_94 : Cond.instanceMethod yX7_knows ∈ BW := bw_2 (List.mem_of_getElem? (i := 94) rfl) rfl
theorem mw_2_95 : Cond.selects RX7 yX7_knows yX7_knows ∈ BW := bw_2 (List.mem_of_getElem? (i := 95) rfl) rfl
theorem mw_2_96 : Cond.code yX7_knows cX7_knows 2 (some .boolean) ∈ BW := bw_2 (List.mem_of_getElem? (i := 96) rfl) rfl
theorem mw_2_97 : Cond.methodLink RX9 82 yX9_canStandBelow ∈ BW := bw_2 (List.mem_of_getElem? (i := 97) rfl) rfl
theorem mw_2_99 : Cond.instanceMethod yX9_canStandBelow ∈ BW := bw_2 (List.mem_of_getElem? (i := 99) rfl) rfl
theorem mw_2_100 : Cond.code yX9_canStandBelow cX9_canStandBelow 3 (some .boolean) ∈ BW := bw_2 (List.mem_of_getElem? (i := 100) rfl) rfl
theorem mw_2_101 : Cond.methodLink RX9 93 yX2_knows ∈ BW := bw_2 (List.mem_of_getElem? (i := 101) rfl) rfl
theorem mw_2_102 : Cond.instanceMethod yX2_knows ∈ BW := bw_2 (List.mem_of_getElem? (i := 102) rfl) rfl
theorem mw_2_103 : Cond.selects RX2 yX2_knows yX2_knows ∈ BW := bw_2 (List.mem_of_getElem? (i := 103) rfl) rfl
theorem mw_2_104 : Cond.code yX2_knows cX2_knows 2 (some .boolean) ∈ BW := bw_2 (List.mem_of_getElem? (i := 104) rfl) rfl
theorem mw_2_105 : Cond.methodLink RX9 86 yX2_levelBelow ∈ BW := bw_2 (List.mem_of_getElem? (i := 105) rfl) rfl
theorem mw_2_106 : Cond.instanceMethod yX2_levelBelow ∈ BW := bw_2 (List.mem_of_getElem? (i := 106) rfl) rfl
theorem mw_2_107 : Cond.selects RX2 yX2_levelBelow yX2_levelBelow ∈ BW := bw_2 (List.mem_of_getElem? (i := 107) rfl) rfl
theorem mw_2_108 : Cond.code yX2_levelBelow cX2_levelBelow 5 (some .int) ∈ BW := bw_2 (List.mem_of_getElem? (i := 108) rfl) rfl
theorem mw_2_109 : Cond.methodLink RX2 40 yX2_knows ∈ BW := bw_2 (List.mem_of_getElem? (i := 109) rfl) rfl
theorem mw_2_110 : Cond.methodLink RX9 89 yX2_grow ∈ BW := bw_2 (List.mem_of_getElem? (i := 110) rfl) rfl
theorem mw_2_111 : Cond.instanceMethod yX2_grow ∈ BW := bw_2 (List.mem_of_getElem? (i := 111) rfl) rfl
theorem mw_2_112 : Cond.selects RX2 yX2_grow yX2_grow ∈ BW := bw_2 (List.mem_of_getElem? (i := 112) rfl) rfl
theorem mw_2_113 : Cond.code yX2_grow cX2_grow 4 (some .int) ∈ BW := bw_2 (List.mem_of_getElem? (i := 113) rfl) rfl
theorem mw_2_115 : Cond.methodLink RX2 36 yX2_hangUnder ∈ BW := bw_2 (List.mem_of_getElem? (i := 115) rfl) rfl
theorem mw_2_117 : Cond.instanceMethod yX2_hangUnder ∈ BW := bw_2 (List.mem_of_getElem? (i := 117) rfl) rfl
theorem mw_2_118 : Cond.code yX2_hangUnder cX2_hangUnder 6 (none : Option Jvm.ClassFile.FieldType) ∈ BW := bw_2 (List.mem_of_getElem? (i := 118) rfl) rfl
theorem mw_2_119 : Cond.methodLink RL 35 yX9_move ∈ BW := bw_2 (List.mem_of_getElem? (i := 119) rfl) rfl
theorem mw_2_120 : Cond.instanceMethod yX9_move ∈ BW := bw_2 (List.mem_of_getElem? (i := 120) rfl) rfl
theorem mw_2_121 : Cond.selects RX9 yX9_move yX9_move ∈ BW := bw_2 (List.mem_of_getElem? (i := 121) rfl) rfl
theorem mw_2_122 : Cond.code yX9_move cX9_move 3 (some .boolean) ∈ BW := bw_2 (List.mem_of_getElem? (i := 122) rfl) rfl
theorem mw_2_123 : Cond.methodLink RX9 104 yX9_inSet ∈ BW := bw_2 (List.mem_of_getElem? (i := 123) rfl) rfl
theorem mw_2_124 : Cond.methodLink RX9 108 yX2_height ∈ BW := bw_2 (List.mem_of_getElem? (i := 124) rfl) rfl
theorem mw_2_125 : Cond.instanceMethod yX2_height ∈ BW := bw_2 (List.mem_of_getElem? (i := 125) rfl) rfl
theorem mw_2_126 : Cond.selects RX2 yX2_height yX2_height ∈ BW := bw_2 (List.mem_of_getElem? (i := 126) rfl) rfl
theorem mw_2_127 : Cond.code yX2_height cX2_height 4 (some .int) ∈ BW := bw_2 (List.mem_of_getElem? (i := 127) rfl) rfl
theorem mw_2_128 : Cond.methodLink RX2 62 yX2_level ∈ BW := bw_2 (List.mem_of_getElem? (i := 128) rfl) rfl
theorem mw_2_129 : Cond.instanceMethod yX2_level ∈ BW := bw_2 (List.mem_of_getElem? (i := 129) rfl) rfl
theorem mw_2_130 : Cond.selects RX2 yX2_level yX2_level ∈ BW := bw_2 (List.mem_of_getElem? (i := 130) rfl) rfl
theorem mw_2_131 : Cond.code yX2_level cX2_level 2 (some .int) ∈ BW := bw_2 (List.mem_of_getElem? (i := 131) rfl) rfl
theorem mw_2_132 : Cond.methodLink RX2 58 yX2_levelBelow ∈ BW := bw_2 (List.mem_of_getElem? (i := 132) rfl) rfl
theorem mw_2_133 : Cond.methodLink RX2 65 yJ9_max_7cf53 ∈ BW := bw_2 (List.mem_of_getElem? (i := 133) rfl) rfl
theorem mw_2_134 : Cond.static yJ9_max_7cf53 ∈ BW := bw_2 (List.mem_of_getElem? (i := 134) rfl) rfl
theorem mw_2_135 : Cond.code yJ9_max_7cf53 cJ9_max_7cf53 2 (some .int) ∈ BW := bw_2 (List.mem_of_getElem? (i := 135) rfl) rfl
theorem mw_2_136 : Cond.methodLink RX9 111 yX2_hang ∈ BW := bw_2 (List.mem_of_getElem? (i := 136) rfl) rfl
theorem mw_2_137 : Cond.instanceMethod yX2_hang ∈ BW := bw_2 (List.mem_of_getElem? (i := 137) rfl) rfl
theorem mw_2_138 : Cond.selects RX2 yX2_hang yX2_hang ∈ BW := bw_2 (List.mem_of_getElem? (i := 138) rfl) rfl
theorem mw_2_139 : Cond.code yX2_hang cX2_hang 8 (none : Option Jvm.ClassFile.FieldType) ∈ BW := bw_2 (List.mem_of_getElem? (i := 139) rfl) rfl
theorem mw_2_140 : Cond.methodLink RX2 46 yX2_gather ∈ BW := bw_2 (List.mem_of_getElem? (i := 140) rfl) rfl
theorem mw_2_142 : Cond.instanceMethod yX2_gather ∈ BW := bw_2 (List.mem_of_getElem? (i := 142) rfl) rfl
theorem mw_2_143 : Cond.code yX2_gather cX2_gather 4 (none : Option Jvm.ClassFile.FieldType) ∈ BW := bw_2 (List.mem_of_getElem? (i := 143) rfl) rfl
theorem mw_2_144 : Cond.methodLink RX2 50 yX2_taggedIn ∈ BW := bw_2 (List.mem_of_getElem? (i := 144) rfl) rfl
theorem mw_2_146 : Cond.instanceMethod yX2_taggedIn ∈ BW := bw_2 (List.mem_of_getElem? (i := 146) rfl) rfl
theorem mw_2_147 : Cond.code yX2_taggedIn cX2_taggedIn 6 (some .long) ∈ BW := bw_2 (List.mem_of_getElem? (i := 147) rfl) rfl
theorem mw_2_148 : Cond.methodLink RX9 115 yX7_renew ∈ BW := bw_2 (List.mem_of_getElem? (i := 148) rfl) rfl
theorem mw_2_149 : Cond.methodLink RL 40 yX9_document ∈ BW := bw_2 (List.mem_of_getElem? (i := 149) rfl) rfl
theorem mw_2_150 : Cond.instanceMethod yX9_document ∈ BW := bw_2 (List.mem_of_getElem? (i := 150) rfl) rfl
theorem mw_2_151 : Cond.selects RX9 yX9_document yX9_document ∈ BW := bw_2 (List.mem_of_getElem? (i := 151) rfl) rfl
theorem mw_2_152 : Cond.code yX9_document cX9_document 3 (some .int) ∈ BW := bw_2 (List.mem_of_getElem? (i := 152) rfl) rfl
theorem mw_2_153 : Cond.methodLink RX9 119 yX6_lay ∈ BW := bw_2 (List.mem_of_getElem? (i := 153) rfl) rfl
theorem mw_2_154 : Cond.instanceMethod yX6_lay ∈ BW := bw_2 (List.mem_of_getElem? (i := 154) rfl) rfl
theorem mw_2_155 : Cond.selects RX6 yX6_lay yX6_lay ∈ BW := bw_2 (List.mem_of_getElem? (i := 155) rfl) rfl
theorem mw_2_156 : Cond.code yX6_lay cX6_lay 3 (some .int) ∈ BW := bw_2 (List.mem_of_getElem? (i := 156) rfl) rfl
theorem mw_2_158 : Cond.methodLink RX6 40 yX3_put ∈ BW := bw_2 (List.mem_of_getElem? (i := 158) rfl) rfl
theorem mw_2_159 : Cond.instanceMethod yX3_put ∈ BW := bw_2 (List.mem_of_getElem? (i := 159) rfl) rfl
theorem mw_2_160 : Cond.selects RX3 yX3_put yX3_put ∈ BW := bw_2 (List.mem_of_getElem? (i := 160) rfl) rfl
theorem mw_2_161 : Cond.code yX3_put cX3_put 3 (none : Option Jvm.ClassFile.FieldType) ∈ BW := bw_2 (List.mem_of_getElem? (i := 161) rfl) rfl
theorem mw_2_162 : Cond.methodLink RX3 22 yX3_rise ∈ BW := bw_2 (List.mem_of_getElem? (i := 162) rfl) rfl
theorem mw_2_164 : Cond.instanceMethod yX3_rise ∈ BW := bw_2 (List.mem_of_getElem? (i := 164) rfl) rfl
theorem mw_2_165 : Cond.code yX3_rise cX3_rise 4 (none : Option Jvm.ClassFile.FieldType) ∈ BW := bw_2 (List.mem_of_getElem? (i := 165) rfl) rfl
theorem mw_2_166 : Cond.methodLink RX3 30 yX3_isAhead ∈ BW := bw_2 (List.mem_of_getElem? (i := 166) rfl) rfl
theorem mw_2_168 : Cond.instanceMethod yX3_isAhead ∈ BW := bw_2 (List.mem_of_getElem? (i := 168) rfl) rfl
theorem mw_2_169 : Cond.code yX3_isAhead cX3_isAhead 3 (some .boolean) ∈ BW := bw_2 (List.mem_of_getElem? (i := 169) rfl) rfl
theorem mw_2_170 : Cond.methodLink RL 44 yX9_tag ∈ BW := bw_2 (List.mem_of_getElem? (i := 170) rfl) rfl
theorem mw_2_171 : Cond.instanceMethod yX9_tag ∈ BW := bw_2 (List.mem_of_getElem? (i := 171) rfl) rfl
theorem mw_2_172 : Cond.selects RX9 yX9_tag yX9_tag ∈ BW := bw_2 (List.mem_of_getElem? (i := 172) rfl) rfl
theorem mw_2_173 : Cond.code yX9_tag cX9_tag 4 (some .boolean) ∈ BW := bw_2 (List.mem_of_getElem? (i := 173) rfl) rfl
theorem mw_2_174 : Cond.methodLink RX9 122 yX6_isThere ∈ BW := bw_2 (List.mem_of_getElem? (i := 174) rfl) rfl
theorem mw_2_175 : Cond.instanceMethod yX6_isThere ∈ BW := bw_2 (List.mem_of_getElem? (i := 175) rfl) rfl
theorem mw_2_176 : Cond.selects RX6 yX6_isThere yX6_isThere ∈ BW := bw_2 (List.mem_of_getElem? (i := 176) rfl) rfl
theorem mw_2_177 : Cond.code yX6_isThere cX6_isThere 2 (some .boolean) ∈ BW := bw_2 (List.mem_of_getElem? (i := 177) rfl) rfl
theorem mw_2_178 : Cond.methodLink RX6 24 yX6_knows ∈ BW := bw_2 (List.mem_of_getElem? (i := 178) rfl) rfl
theorem mw_2_179 : Cond.instanceMethod yX6_knows ∈ BW := bw_2 (List.mem_of_getElem? (i := 179) rfl) rfl
theorem mw_2_180 : Cond.selects RX6 yX6_knows yX6_knows ∈ BW := bw_2 (List.mem_of_getElem? (i := 180) rfl) rfl
theorem mw_2_181 : Cond.code yX6_knows cX6_knows 2 (some .boolean) ∈ BW := bw_2 (List.mem_of_getElem? (i := 181) rfl) rfl
theorem mw_2_183 : Cond.methodLink RX9 128 yX2_turnTag ∈ BW := bw_2 (List.mem_of_getElem? (i := 183) rfl) rfl
theorem mw_2_184 : Cond.instanceMethod yX2_turnTag ∈ BW := bw_2 (List.mem_of_getElem? (i := 184) rfl) rfl
theorem mw_2_185 : Cond.selects RX2 yX2_turnTag yX2_turnTag ∈ BW := bw_2 (List.mem_of_getElem? (i := 185) rfl) rfl
theorem mw_2_186 : Cond.code yX2_turnTag cX2_turnTag 3 (none : Option Jvm.ClassFile.FieldType) ∈ BW := bw_2 (List.mem_of_getElem? (i := 186) rfl) rfl
theorem mw_2_187 : Cond.methodLink RL 49 yX9_number ∈ BW := bw_2 (List.mem_of_getElem? (i := 187) rfl) rfl
theorem mw_2_188 : Cond.instanceMethod yX9_number ∈ BW := bw_2 (List.mem_of_getElem? (i := 188) rfl) rfl
theorem mw_2_189 : Cond.selects RX9 yX9_number yX9_number ∈ BW := bw_2 (List.mem_of_getElem? (i := 189) rfl) rfl
theorem mw_2_190 : Cond.code yX9_number cX9_number 4 (some .boolean) ∈ BW := bw_2 (List.mem_of_getElem? (i := 190) rfl) rfl
theorem mw_2_191 : Cond.methodLink RX9 131 yX7_isNumeric ∈ BW := bw_2 (List.mem_of_getElem? (i := 191) rfl) rfl
theorem mw_2_192 : Cond.instanceMethod yX7_isNumeric ∈ BW := bw_2 (List.mem_of_getElem? (i := 192) rfl) rfl
theorem mw_2_193 : Cond.selects RX7 yX7_isNumeric yX7_isNumeric ∈ BW := bw_2 (List.mem_of_getElem? (i := 193) rfl) rfl
theorem mw_2_194 : Cond.code yX7_isNumeric cX7_isNumeric 2 (some .boolean) ∈ BW := bw_2 (List.mem_of_getElem? (i := 194) rfl) rfl
theorem mw_2_195 : Cond.methodLink RX9 147 yX9_bit ∈ BW := bw_2 (List.mem_of_getElem? (i := 195) rfl) rfl
theorem mw_2_196 : Cond.methodLink RL 54 yX9_unnumber ∈ BW := bw_2 (List.mem_of_getElem? (i := 196) rfl) rfl
theorem mw_2_197 : Cond.instanceMethod yX9_unnumber ∈ BW := bw_2 (List.mem_of_getElem? (i := 197) rfl) rfl
theorem mw_2_198 : Cond.selects RX9 yX9_unnumber yX9_unnumber ∈ BW := bw_2 (List.mem_of_getElem? (i := 198) rfl) rfl
theorem mw_2_199 : Cond.code yX9_unnumber cX9_unnumber 3 (some .boolean) ∈ BW := bw_2 (List.mem_of_getElem? (i := 199) rfl) rfl
theorem mw_2_200 : Cond.methodLink RX9 151 yX9_hasNumber ∈ BW := bw_2 (List.mem_of_getElem? (i := 200) rfl) rfl
theorem mw_2_202 : Cond.instanceMethod yX9_hasNumber ∈ BW := bw_2 (List.mem_of_getElem? (i := 202) rfl) rfl
theorem mw_2_203 : Cond.code yX9_hasNumber cX9_hasNumber 3 (some .boolean) ∈ BW := bw_2 (List.mem_of_getElem? (i := 203) rfl) rfl
theorem mw_2_204 : Cond.constantLong RX9 154 (-1) ∈ BW := bw_2 (List.mem_of_getElem? (i := 204) rfl) rfl
theorem mw_2_205 : Cond.methodLink RL 58 yX9_remove ∈ BW := bw_2 (List.mem_of_getElem? (i := 205) rfl) rfl
theorem mw_2_206 : Cond.instanceMethod yX9_remove ∈ BW := bw_2 (List.mem_of_getElem? (i := 206) rfl) rfl
theorem mw_2_207 : Cond.selects RX9 yX9_remove yX9_remove ∈ BW := bw_2 (List.mem_of_getElem? (i := 207) rfl) rfl
theorem mw_2_208 : Cond.code yX9_remove cX9_remove 2 (some .boolean) ∈ BW := bw_2 (List.mem_of_getElem? (i := 208) rfl) rfl
theorem mw_2_209 : Cond.methodLink RX9 156 yX6_discard ∈ BW := bw_2 (List.mem_of_getElem? (i := 209) rfl) rfl
theorem mw_2_210 : Cond.instanceMethod yX6_discard ∈ BW := bw_2 (List.mem_of_getElem? (i := 210) rfl) rfl
theorem mw_2_211 : Cond.selects RX6 yX6_discard yX6_discard ∈ BW := bw_2 (List.mem_of_getElem? (i := 211) rfl) rfl
theorem mw_2_212 : Cond.code yX6_discard cX6_discard 2 (none : Option Jvm.ClassFile.FieldType) ∈ BW := bw_2 (List.mem_of_getElem? (i := 212) rfl) rfl
theorem mw_2_213 : Cond.constantLong RX6 44 (-1) ∈ BW := bw_2 (List.mem_of_getElem? (i := 213) rfl) rfl
theorem mw_2_214 : Cond.methodLink RX6 46 yX3_take ∈ BW := bw_2 (List.mem_of_getElem? (i := 214) rfl) rfl
theorem mw_2_215 : Cond.instanceMethod yX3_take ∈ BW := bw_2 (List.mem_of_getElem? (i := 215) rfl) rfl
theorem mw_2_216 : Cond.selects RX3 yX3_take yX3_take ∈ BW := bw_2 (List.mem_of_getElem? (i := 216) rfl) rfl
theorem mw_2_217 : Cond.code yX3_take cX3_take 4 (none : Option Jvm.ClassFile.FieldType) ∈ BW := bw_2 (List.mem_of_getElem? (i := 217) rfl) rfl
theorem mw_2_218 : Cond.methodLink RX3 26 yX3_placeOf ∈ BW := bw_2 (List.mem_of_getElem? (i := 218) rfl) rfl
theorem mw_2_219 : Cond.instanceMethod yX3_placeOf ∈ BW := bw_2 (List.mem_of_getElem? (i := 219) rfl) rfl
theorem mw_2_220 : Cond.selects RX3 yX3_placeOf yX3_placeOf ∈ BW := bw_2 (List.mem_of_getElem? (i := 220) rfl) rfl
theorem mw_2_221 : Cond.code yX3_placeOf cX3_placeOf 3 (some .int) ∈ BW := bw_2 (List.mem_of_getElem? (i := 221) rfl) rfl
theorem mw_2_222 : Cond.methodLink RL 63 yX9_select ∈ BW := bw_2 (List.mem_of_getElem? (i := 222) rfl) rfl
theorem mw_2_223 : Cond.instanceMethod yX9_select ∈ BW := bw_2 (List.mem_of_getElem? (i := 223) rfl) rfl
theorem mw_2_224 : Cond.selects RX9 yX9_select yX9_select ∈ BW := bw_2 (List.mem_of_getElem? (i := 224) rfl) rfl
theorem mw_2_225 : Cond.code yX9_select cX9_select 5 (some .boolean) ∈ BW := bw_2 (List.mem_of_getElem? (i := 225) rfl) rfl
theorem mw_2_226 : Cond.methodLink RX9 165 yX8_note ∈ BW := bw_2 (List.mem_of_getElem? (i := 226) rfl) rfl
theorem mw_2_227 : Cond.instanceMethod yX8_note ∈ BW := bw_2 (List.mem_of_getElem? (i := 227) rfl) rfl
theorem mw_2_228 : Cond.selects RX8 yX8_note yX8_note ∈ BW := bw_2 (List.mem_of_getElem? (i := 228) rfl) rfl
theorem mw_2_229 : Cond.code yX8_note cX8_note 3 (none : Option Jvm.ClassFile.FieldType) ∈ BW := bw_2 (List.mem_of_getElem? (i := 229) rfl) rfl
theorem mw_2_230 : Cond.methodLink RX8 26 yX5_copy ∈ BW := bw_2 (List.mem_of_getElem? (i := 230) rfl) rfl
theorem mw_2_231 : Cond.instanceMethod yX5_copy ∈ BW := bw_2 (List.mem_of_getElem? (i := 231) rfl) rfl
theorem mw_2_232 : Cond.selects RX5 yX5_copy yX5_copy ∈ BW := bw_2 (List.mem_of_getElem? (i := 232) rfl) rfl
theorem mw_2_233 : Cond.code yX5_copy cX5_copy 3 (none : Option Jvm.ClassFile.FieldType) ∈ BW := bw_2 (List.mem_of_getElem? (i := 233) rfl) rfl
theorem mw_2_234 : Cond.methodLink RX8 33 yJ9_min_7cf53 ∈ BW := bw_2 (List.mem_of_getElem? (i := 234) rfl) rfl
theorem mw_2_235 : Cond.static yJ9_min_7cf53 ∈ BW := bw_2 (List.mem_of_getElem? (i := 235) rfl) rfl
theorem mw_2_236 : Cond.code yJ9_min_7cf53 cJ9_min_7cf53 2 (some .int) ∈ BW := bw_2 (List.mem_of_getElem? (i := 236) rfl) rfl
theorem mw_2_237 : Cond.methodLink RL 68 yX9_range ∈ BW := bw_2 (List.mem_of_getElem? (i := 237) rfl) rfl
theorem mw_2_238 : Cond.instanceMethod yX9_range ∈ BW := bw_2 (List.mem_of_getElem? (i := 238) rfl) rfl
theorem mw_2_239 : Cond.selects RX9 yX9_range yX9_range ∈ BW := bw_2 (List.mem_of_getElem? (i := 239) rfl) rfl
theorem mw_3_0 : Cond.code yX9_range cX9_range 5 (some .int) ∈ BW := bw_3 (List.mem_of_getElem? (i := 0) rfl) rfl
theorem mw_3_1 : Cond.methodLink RX9 172 yX5_addRange ∈ BW := bw_3 (List.mem_of_getElem? (i := 1) rfl) rfl
theorem mw_3_2 : Cond.instanceMethod yX5_addRange ∈ BW := bw_3 (List.mem_of_getElem? (i := 2) rfl) rfl
theorem mw_3_3 : Cond.selects RX5 yX5_addRange yX5_addRange ∈ BW := bw_3 (List.mem_of_getElem? (i := 3) rfl) rfl
theorem mw_3_4 : Cond.code yX5_addRange cX5_addRange 3 (none : Option Jvm.ClassFile.FieldType) ∈ BW := bw_3 (List.mem_of_getElem? (i := 4) rfl) rfl
theorem mw_3_5 : Cond.methodLink RL 73 yX9_drop ∈ BW := bw_3 (List.mem_of_getElem? (i := 5) rfl) rfl
theorem mw_3_6 : Cond.instanceMethod yX9_drop ∈ BW := bw_3 (List.mem_of_getElem? (i := 6) rfl) rfl
theorem mw_3_7 : Cond.selects RX9 yX9_drop yX9_drop ∈ BW := bw_3 (List.mem_of_getElem? (i := 7) rfl) rfl
theorem mw_3_8 : Cond.code yX9_drop cX9_drop 4 (some .boolean) ∈ BW := bw_3 (List.mem_of_getElem? (i := 8) rfl) rfl
theorem mw_3_9 : Cond.methodLink RX9 175 yX5_dropRange ∈ BW := bw_3 (List.mem_of_getElem? (i := 9) rfl) rfl
theorem mw_3_10 : Cond.instanceMethod yX5_dropRange ∈ BW := bw_3 (List.mem_of_getElem? (i := 10) rfl) rfl
theorem mw_3_11 : Cond.selects RX5 yX5_dropRange yX5_dropRange ∈ BW := bw_3 (List.mem_of_getElem? (i := 11) rfl) rfl
theorem mw_3_12 : Cond.code yX5_dropRange cX5_dropRange 3 (none : Option Jvm.ClassFile.FieldType) ∈ BW := bw_3 (List.mem_of_getElem? (i := 12) rfl) rfl
theorem mw_3_13 : Cond.methodLink RL 77 yX9_missing ∈ BW := bw_3 (List.mem_of_getElem? (i := 13) rfl) rfl
theorem mw_3_14 : Cond.instanceMethod yX9_missing ∈ BW := bw_3 (List.mem_of_getElem? (i := 14) rfl) rfl
theorem mw_3_15 : Cond.selects RX9 yX9_missing yX9_missing ∈ BW := bw_3 (List.mem_of_getElem? (i := 15) rfl) rfl
theorem mw_3_16 : Cond.code yX9_missing cX9_missing 4 (some .boolean) ∈ BW := bw_3 (List.mem_of_getElem? (i := 16) rfl) rfl
theorem mw_3_17 : Cond.methodLink RX9 178 yX7_knows ∈ BW := bw_3 (List.mem_of_getElem? (i := 17) rfl) rfl
theorem mw_3_18 : Cond.methodLink RL 81 yX9_open ∈ BW := bw_3 (List.mem_of_getElem? (i := 18) rfl) rfl
theorem mw_3_19 : Cond.instanceMethod yX9_open ∈ BW := bw_3 (List.mem_of_getElem? (i := 19) rfl) rfl
theorem mw_3_20 : Cond.selects RX9 yX9_open yX9_open ∈ BW := bw_3 (List.mem_of_getElem? (i := 20) rfl) rfl
theorem mw_3_21 : Cond.code yX9_open cX9_open 3 (some .boolean) ∈ BW := bw_3 (List.mem_of_getElem? (i := 21) rfl) rfl
theorem mw_3_22 : Cond.methodLink RX9 183 yX5_isOpen ∈ BW := bw_3 (List.mem_of_getElem? (i := 22) rfl) rfl
theorem mw_3_23 : Cond.methodLink RX9 187 yX5_clear ∈ BW := bw_3 (List.mem_of_getElem? (i := 23) rfl) rfl
theorem mw_3_24 : Cond.instanceMethod yX5_clear ∈ BW := bw_3 (List.mem_of_getElem? (i := 24) rfl) rfl
theorem mw_3_25 : Cond.selects RX5 yX5_clear yX5_clear ∈ BW := bw_3 (List.mem_of_getElem? (i := 25) rfl) rfl
theorem mw_3_26 : Cond.code yX5_clear cX5_clear 1 (none : Option Jvm.ClassFile.FieldType) ∈ BW := bw_3 (List.mem_of_getElem? (i := 26) rfl) rfl
theorem mw_3_27 : Cond.methodLink RL 85 yX9_back ∈ BW := bw_3 (List.mem_of_getElem? (i := 27) rfl) rfl
theorem mw_3_28 : Cond.instanceMethod yX9_back ∈ BW := bw_3 (List.mem_of_getElem? (i := 28) rfl) rfl
theorem mw_3_29 : Cond.selects RX9 yX9_back yX9_back ∈ BW := bw_3 (List.mem_of_getElem? (i := 29) rfl) rfl
theorem mw_3_30 : Cond.code yX9_back cX9_back 1 (some .boolean) ∈ BW := bw_3 (List.mem_of_getElem? (i := 30) rfl) rfl
theorem mw_3_31 : Cond.methodLink RX9 191 yX8_takeBack ∈ BW := bw_3 (List.mem_of_getElem? (i := 31) rfl) rfl
theorem mw_3_32 : Cond.instanceMethod yX8_takeBack ∈ BW := bw_3 (List.mem_of_getElem? (i := 32) rfl) rfl
theorem mw_3_33 : Cond.selects RX8 yX8_takeBack yX8_takeBack ∈ BW := bw_3 (List.mem_of_getElem? (i := 33) rfl) rfl
theorem mw_3_34 : Cond.code yX8_takeBack cX8_takeBack 2 (none : Option Jvm.ClassFile.FieldType) ∈ BW := bw_3 (List.mem_of_getElem? (i := 34) rfl) rfl
theorem mw_3_35 : Cond.methodLink RL 90 yX9_of ∈ BW := bw_3 (List.mem_of_getElem? (i := 35) rfl) rfl
theorem mw_3_36 : Cond.instanceMethod yX9_of ∈ BW := bw_3 (List.mem_of_getElem? (i := 36) rfl) rfl
theorem mw_3_37 : Cond.selects RX9 yX9_of yX9_of ∈ BW := bw_3 (List.mem_of_getElem? (i := 37) rfl) rfl
theorem mw_3_38 : Cond.code yX9_of cX9_of 4 (some .int) ∈ BW := bw_3 (List.mem_of_getElem? (i := 38) rfl) rfl
theorem mw_3_39 : Cond.methodLink RX9 198 yX2_level ∈ BW := bw_3 (List.mem_of_getElem? (i := 39) rfl) rfl
theorem mw_3_40 : Cond.methodLink RX9 201 yJ13_bitCount_95d88 ∈ BW := bw_3 (List.mem_of_getElem? (i := 40) rfl) rfl
theorem mw_3_41 : Cond.static yJ13_bitCount_95d88 ∈ BW := bw_3 (List.mem_of_getElem? (i := 41) rfl) rfl
theorem mw_3_42 : Cond.code yJ13_bitCount_95d88 cJ13_bitCount_95d88 2 (some .int) ∈ BW := bw_3 (List.mem_of_getElem? (i := 42) rfl) rfl
theorem mw_3_43 : Cond.constantLong RJ13 314 (6148914691236517205) ∈ BW := bw_3 (List.mem_of_getElem? (i := 43) rfl) rfl
theorem mw_3_44 : Cond.constantLong RJ13 316 (3689348814741910323) ∈ BW := bw_3 (List.mem_of_getElem? (i := 44) rfl) rfl
theorem mw_3_45 : Cond.constantLong RJ13 318 (1085102592571150095) ∈ BW := bw_3 (List.mem_of_getElem? (i := 45) rfl) rfl
theorem mw_3_46 : Cond.methodLink RL 94 yX9_doc ∈ BW := bw_3 (List.mem_of_getElem? (i := 46) rfl) rfl
theorem mw_3_47 : Cond.instanceMethod yX9_doc ∈ BW := bw_3 (List.mem_of_getElem? (i := 47) rfl) rfl
theorem mw_3_48 : Cond.selects RX9 yX9_doc yX9_doc ∈ BW := bw_3 (List.mem_of_getElem? (i := 48) rfl) rfl
theorem mw_3_49 : Cond.code yX9_doc cX9_doc 4 (some .int) ∈ BW := bw_3 (List.mem_of_getElem? (i := 49) rfl) rfl
theorem mw_3_50 : Cond.methodLink RX9 207 yX6_knows ∈ BW := bw_3 (List.mem_of_getElem? (i := 50) rfl) rfl
theorem mw_3_51 : Cond.methodLink RX9 214 yX7_hits ∈ BW := bw_3 (List.mem_of_getElem? (i := 51) rfl) rfl
theorem mw_3_52 : Cond.instanceMethod yX7_hits ∈ BW := bw_3 (List.mem_of_getElem? (i := 52) rfl) rfl
theorem mw_3_53 : Cond.selects RX7 yX7_hits yX7_hits ∈ BW := bw_3 (List.mem_of_getElem? (i := 53) rfl) rfl
theorem mw_3_54 : Cond.code yX7_hits cX7_hits 1 (some .long) ∈ BW := bw_3 (List.mem_of_getElem? (i := 54) rfl) rfl
theorem mw_3_55 : Cond.methodLink RX7 111 yX7_lifted ∈ BW := bw_3 (List.mem_of_getElem? (i := 55) rfl) rfl
theorem mw_3_56 : Cond.instanceMethod yX7_lifted ∈ BW := bw_3 (List.mem_of_getElem? (i := 56) rfl) rfl
theorem mw_3_57 : Cond.selects RX7 yX7_lifted yX7_lifted ∈ BW := bw_3 (List.mem_of_getElem? (i := 57) rfl) rfl
theorem mw_3_58 : Cond.code yX7_lifted cX7_lifted 6 (some .long) ∈ BW := bw_3 (List.mem_of_getElem? (i := 58) rfl) rfl
theorem mw_3_59 : Cond.methodLink RX9 218 yX7_passedBy ∈ BW := bw_3 (List.mem_of_getElem? (i := 59) rfl) rfl
theorem mw_3_60 : Cond.instanceMethod yX7_passedBy ∈ BW := bw_3 (List.mem_of_getElem? (i := 60) rfl) rfl
theorem mw_3_61 : Cond.selects RX7 yX7_passedBy yX7_passedBy ∈ BW := bw_3 (List.mem_of_getElem? (i := 61) rfl) rfl
theorem mw_3_62 : Cond.code yX7_passedBy cX7_passedBy 4 (some .int) ∈ BW := bw_3 (List.mem_of_getElem? (i := 62) rfl) rfl
theorem mw_3_63 : Cond.methodLink RX9 221 yX3_placeOf ∈ BW := bw_3 (List.mem_of_getElem? (i := 63) rfl) rfl
theorem mw_3_64 : Cond.methodLink RL 98 yX9_has ∈ BW := bw_3 (List.mem_of_getElem? (i := 64) rfl) rfl
theorem mw_3_65 : Cond.instanceMethod yX9_has ∈ BW := bw_3 (List.mem_of_getElem? (i := 65) rfl) rfl
theorem mw_3_66 : Cond.selects RX9 yX9_has yX9_has ∈ BW := bw_3 (List.mem_of_getElem? (i := 66) rfl) rfl
theorem mw_3_67 : Cond.code yX9_has cX9_has 3 (some .boolean) ∈ BW := bw_3 (List.mem_of_getElem? (i := 67) rfl) rfl
theorem mw_3_68 : Cond.methodLink RL 112 yX9_hit ∈ BW := bw_3 (List.mem_of_getElem? (i := 68) rfl) rfl
theorem mw_3_69 : Cond.instanceMethod yX9_hit ∈ BW := bw_3 (List.mem_of_getElem? (i := 69) rfl) rfl
theorem mw_3_70 : Cond.selects RX9 yX9_hit yX9_hit ∈ BW := bw_3 (List.mem_of_getElem? (i := 70) rfl) rfl
theorem mw_3_71 : Cond.code yX9_hit cX9_hit 7 (some .int) ∈ BW := bw_3 (List.mem_of_getElem? (i := 71) rfl) rfl
theorem mw_3_72 : Cond.methodLink RL 116 yX9_near ∈ BW := bw_3 (List.mem_of_getElem? (i := 72) rfl) rfl
theorem mw_3_73 : Cond.instanceMethod yX9_near ∈ BW := bw_3 (List.mem_of_getElem? (i := 73) rfl) rfl
theorem mw_3_74 : Cond.selects RX9 yX9_near yX9_near ∈ BW := bw_3 (List.mem_of_getElem? (i := 74) rfl) rfl
theorem mw_3_75 : Cond.code yX9_near cX9_near 2 (some .int) ∈ BW := bw_3 (List.mem_of_getElem? (i := 75) rfl) rfl
theorem mw_3_76 : Cond.methodLink RX9 238 yX7_lifted ∈ BW := bw_3 (List.mem_of_getElem? (i := 76) rfl) rfl
theorem mw_3_77 : Cond.methodLink RL 120 yX9_shown ∈ BW := bw_3 (List.mem_of_getElem? (i := 77) rfl) rfl
theorem mw_3_78 : Cond.instanceMethod yX9_shown ∈ BW := bw_3 (List.mem_of_getElem? (i := 78) rfl) rfl
theorem mw_3_79 : Cond.selects RX9 yX9_shown yX9_shown ∈ BW := bw_3 (List.mem_of_getElem? (i := 79) rfl) rfl
theorem mw_3_80 : Cond.code yX9_shown cX9_shown 2 (some .int) ∈ BW := bw_3 (List.mem_of_getElem? (i := 80) rfl) rfl
theorem mw_3_81 : Cond.methodLink RX9 242 yX7_showing ∈ BW := bw_3 (List.mem_of_getElem? (i := 81) rfl) rfl
theorem mw_3_82 : Cond.instanceMethod yX7_showing ∈ BW := bw_3 (List.mem_of_getElem? (i := 82) rfl) rfl
theorem mw_3_83 : Cond.selects RX7 yX7_showing yX7_showing ∈ BW := bw_3 (List.mem_of_getElem? (i := 83) rfl) rfl
theorem mw_3_84 : Cond.code yX7_showing cX7_showing 2 (some .int) ∈ BW := bw_3 (List.mem_of_getElem? (i := 84) rfl) rfl
theorem mw_3_85 : Cond.methodLink RX7 122 yX7_audience ∈ BW := bw_3 (List.mem_of_getElem? (i := 85) rfl) rfl
theorem mw_3_86 : Cond.instanceMethod yX7_audience ∈ BW := bw_3 (List.mem_of_getElem? (i := 86) rfl) rfl
theorem mw_3_87 : Cond.selects RX7 yX7_audience yX7_audience ∈ BW := bw_3 (List.mem_of_getElem? (i := 87) rfl) rfl
theorem mw_3_88 : Cond.code yX7_audience cX7_audience 2 (some .long) ∈ BW := bw_3 (List.mem_of_getElem? (i := 88) rfl) rfl
theorem mw_3_89 : Cond.methodLink RX7 115 yX7_hits ∈ BW := bw_3 (List.mem_of_getElem? (i := 89) rfl) rfl
theorem mw_3_90 : Cond.methodLink RX7 128 yJ13_bitCount_95d88 ∈ BW := bw_3 (List.mem_of_getElem? (i := 90) rfl) rfl
theorem mw_3_91 : Cond.methodLink RL 124 yX9_shownMissing ∈ BW := bw_3 (List.mem_of_getElem? (i := 91) rfl) rfl
theorem mw_3_92 : Cond.instanceMethod yX9_shownMissing ∈ BW := bw_3 (List.mem_of_getElem? (i := 92) rfl) rfl
theorem mw_3_93 : Cond.selects RX9 yX9_shownMissing yX9_shownMissing ∈ BW := bw_3 (List.mem_of_getElem? (i := 93) rfl) rfl
theorem mw_3_94 : Cond.code yX9_shownMissing cX9_shownMissing 2 (some .int) ∈ BW := bw_3 (List.mem_of_getElem? (i := 94) rfl) rfl
theorem mw_3_95 : Cond.methodLink RX9 245 yX7_audience ∈ BW := bw_3 (List.mem_of_getElem? (i := 95) rfl) rfl
theorem mw_3_96 : Cond.methodLink RX9 248 yX7_absentOn ∈ BW := bw_3 (List.mem_of_getElem? (i := 96) rfl) rfl
theorem mw_3_97 : Cond.methodLink RL 128 yX9_click ∈ BW := bw_3 (List.mem_of_getElem? (i := 97) rfl) rfl
theorem mw_3_98 : Cond.instanceMethod yX9_click ∈ BW := bw_3 (List.mem_of_getElem? (i := 98) rfl) rfl
theorem mw_3_99 : Cond.selects RX9 yX9_click yX9_click ∈ BW := bw_3 (List.mem_of_getElem? (i := 99) rfl) rfl
theorem mw_3_100 : Cond.code yX9_click cX9_click 4 (some .int) ∈ BW := bw_3 (List.mem_of_getElem? (i := 100) rfl) rfl
theorem mw_3_101 : Cond.methodLink RX9 251 yX5_copy ∈ BW := bw_3 (List.mem_of_getElem? (i := 101) rfl) rfl
theorem mw_3_102 : Cond.methodLink RX9 258 yX7_sift ∈ BW := bw_3 (List.mem_of_getElem? (i := 102) rfl) rfl
theorem mw_3_103 : Cond.methodLink RL 132 yX9_lift ∈ BW := bw_3 (List.mem_of_getElem? (i := 103) rfl) rfl
theorem mw_3_104 : Cond.instanceMethod yX9_lift ∈ BW := bw_3 (List.mem_of_getElem? (i := 104) rfl) rfl
theorem mw_3_105 : Cond.selects RX9 yX9_lift yX9_lift ∈ BW := bw_3 (List.mem_of_getElem? (i := 105) rfl) rfl
theorem mw_3_106 : Cond.code yX9_lift cX9_lift 3 (some .int) ∈ BW := bw_3 (List.mem_of_getElem? (i := 106) rfl) rfl
theorem mw_3_107 : Cond.methodLink RL 136 yX9_sums ∈ BW := bw_3 (List.mem_of_getElem? (i := 107) rfl) rfl
theorem mw_3_108 : Cond.instanceMethod yX9_sums ∈ BW := bw_3 (List.mem_of_getElem? (i := 108) rfl) rfl
theorem mw_3_109 : Cond.selects RX9 yX9_sums yX9_sums ∈ BW := bw_3 (List.mem_of_getElem? (i := 109) rfl) rfl
theorem mw_3_110 : Cond.code yX9_sums cX9_sums 8 (some .int) ∈ BW := bw_3 (List.mem_of_getElem? (i := 110) rfl) rfl
theorem mw_3_111 : Cond.methodLink RL 140 yX9_sets ∈ BW := bw_3 (List.mem_of_getElem? (i := 111) rfl) rfl
theorem mw_3_112 : Cond.instanceMethod yX9_sets ∈ BW := bw_3 (List.mem_of_getElem? (i := 112) rfl) rfl
theorem mw_3_113 : Cond.selects RX9 yX9_sets yX9_sets ∈ BW := bw_3 (List.mem_of_getElem? (i := 113) rfl) rfl
theorem mw_3_114 : Cond.code yX9_sets cX9_sets 10 (some .long) ∈ BW := bw_3 (List.mem_of_getElem? (i := 114) rfl) rfl
theorem mw_3_115 : Cond.methodLink RL 149 yX9_bins ∈ BW := bw_3 (List.mem_of_getElem? (i := 115) rfl) rfl
theorem mw_3_116 : Cond.instanceMethod yX9_bins ∈ BW := bw_3 (List.mem_of_getElem? (i := 116) rfl) rfl
theorem mw_3_117 : Cond.selects RX9 yX9_bins yX9_bins ∈ BW := bw_3 (List.mem_of_getElem? (i := 117) rfl) rfl
theorem mw_3_118 : Cond.code yX9_bins cX9_bins 3 (some .int) ∈ BW := bw_3 (List.mem_of_getElem? (i := 118) rfl) rfl
theorem mw_3_119 : Cond.methodLink RX9 262 yX9_canBin ∈ BW := bw_3 (List.mem_of_getElem? (i := 119) rfl) rfl
theorem mw_3_121 : Cond.instanceMethod yX9_canBin ∈ BW := bw_3 (List.mem_of_getElem? (i := 121) rfl) rfl
theorem mw_3_122 : Cond.code yX9_canBin cX9_canBin 3 (some .boolean) ∈ BW := bw_3 (List.mem_of_getElem? (i := 122) rfl) rfl
theorem mw_3_123 : Cond.methodLink RX9 267 yX9_fillRow ∈ BW := bw_3 (List.mem_of_getElem? (i := 123) rfl) rfl
theorem mw_3_125 : Cond.instanceMethod yX9_fillRow ∈ BW := bw_3 (List.mem_of_getElem? (i := 125) rfl) rfl
theorem mw_3_126 : Cond.code yX9_fillRow cX9_fillRow 7 (none : Option Jvm.ClassFile.FieldType) ∈ BW := bw_3 (List.mem_of_getElem? (i := 126) rfl) rfl
theorem mw_3_127 : Cond.methodLink RX9 338 yX4_clear ∈ BW := bw_3 (List.mem_of_getElem? (i := 127) rfl) rfl
theorem mw_3_128 : Cond.instanceMethod yX4_clear ∈ BW := bw_3 (List.mem_of_getElem? (i := 128) rfl) rfl
theorem mw_3_129 : Cond.selects RX4 yX4_clear yX4_clear ∈ BW := bw_3 (List.mem_of_getElem? (i := 129) rfl) rfl
theorem mw_3_130 : Cond.code yX4_clear cX4_clear 1 (none : Option Jvm.ClassFile.FieldType) ∈ BW := bw_3 (List.mem_of_getElem? (i := 130) rfl) rfl
theorem mw_3_131 : Cond.methodLink RX9 339 yX4_put ∈ BW := bw_3 (List.mem_of_getElem? (i := 131) rfl) rfl
theorem mw_3_132 : Cond.instanceMethod yX4_put ∈ BW := bw_3 (List.mem_of_getElem? (i := 132) rfl) rfl
theorem mw_3_133 : Cond.selects RX4 yX4_put yX4_put ∈ BW := bw_3 (List.mem_of_getElem? (i := 133) rfl) rfl
theorem mw_3_134 : Cond.code yX4_put cX4_put 3 (none : Option Jvm.ClassFile.FieldType) ∈ BW := bw_3 (List.mem_of_getElem? (i := 134) rfl) rfl
theorem mw_3_135 : Cond.methodLink RX9 281 yX4_howManyBins ∈ BW := bw_3 (List.mem_of_getElem? (i := 135) rfl) rfl
theorem mw_3_136 : Cond.instanceMethod yX4_howManyBins ∈ BW := bw_3 (List.mem_of_getElem? (i := 136) rfl) rfl
theorem mw_3_137 : Cond.selects RX4 yX4_howManyBins yX4_howManyBins ∈ BW := bw_3 (List.mem_of_getElem? (i := 137) rfl) rfl
theorem mw_3_138 : Cond.code yX4_howManyBins cX4_howManyBins 4 (some .int) ∈ BW := bw_3 (List.mem_of_getElem? (i := 138) rfl) rfl
theorem mw_3_139 : Cond.methodLink RX4 17 yX4_endOfBin ∈ BW := bw_3 (List.mem_of_getElem? (i := 139) rfl) rfl
theorem mw_3_140 : Cond.instanceMethod yX4_endOfBin ∈ BW := bw_3 (List.mem_of_getElem? (i := 140) rfl) rfl
theorem mw_3_141 : Cond.selects RX4 yX4_endOfBin yX4_endOfBin ∈ BW := bw_3 (List.mem_of_getElem? (i := 141) rfl) rfl
theorem mw_3_142 : Cond.code yX4_endOfBin cX4_endOfBin 5 (some .int) ∈ BW := bw_3 (List.mem_of_getElem? (i := 142) rfl) rfl
theorem mw_3_143 : Cond.methodLink RX4 21 yJ9_min_7cf53 ∈ BW := bw_3 (List.mem_of_getElem? (i := 143) rfl) rfl
theorem mw_3_144 : Cond.methodLink RL 153 yX9_even ∈ BW := bw_3 (List.mem_of_getElem? (i := 144) rfl) rfl
theorem mw_3_145 : Cond.instanceMethod yX9_even ∈ BW := bw_3 (List.mem_of_getElem? (i := 145) rfl) rfl
theorem mw_3_146 : Cond.selects RX9 yX9_even yX9_even ∈ BW := bw_3 (List.mem_of_getElem? (i := 146) rfl) rfl
theorem mw_3_147 : Cond.code yX9_even cX9_even 3 (some .int) ∈ BW := bw_3 (List.mem_of_getElem? (i := 147) rfl) rfl
theorem mw_3_148 : Cond.methodLink RX9 284 yX4_flattest ∈ BW := bw_3 (List.mem_of_getElem? (i := 148) rfl) rfl
theorem mw_3_149 : Cond.instanceMethod yX4_flattest ∈ BW := bw_3 (List.mem_of_getElem? (i := 149) rfl) rfl
theorem mw_3_150 : Cond.selects RX4 yX4_flattest yX4_flattest ∈ BW := bw_3 (List.mem_of_getElem? (i := 150) rfl) rfl
theorem mw_3_151 : Cond.code yX4_flattest cX4_flattest 3 (some .int) ∈ BW := bw_3 (List.mem_of_getElem? (i := 151) rfl) rfl
theorem mw_3_152 : Cond.methodLink RX4 26 yX4_fits ∈ BW := bw_3 (List.mem_of_getElem? (i := 152) rfl) rfl
theorem mw_3_154 : Cond.instanceMethod yX4_fits ∈ BW := bw_3 (List.mem_of_getElem? (i := 154) rfl) rfl
theorem mw_3_155 : Cond.code yX4_fits cX4_fits 5 (some .boolean) ∈ BW := bw_3 (List.mem_of_getElem? (i := 155) rfl) rfl
theorem mw_3_156 : Cond.methodLink RX4 30 yX4_endOfRow ∈ BW := bw_3 (List.mem_of_getElem? (i := 156) rfl) rfl
theorem mw_3_158 : Cond.instanceMethod yX4_endOfRow ∈ BW := bw_3 (List.mem_of_getElem? (i := 158) rfl) rfl
theorem mw_3_159 : Cond.code yX4_endOfRow cX4_endOfRow 4 (some .int) ∈ BW := bw_3 (List.mem_of_getElem? (i := 159) rfl) rfl
theorem mw_3_160 : Cond.methodLink RL 157 yX9_top ∈ BW := bw_3 (List.mem_of_getElem? (i := 160) rfl) rfl
theorem mw_3_161 : Cond.instanceMethod yX9_top ∈ BW := bw_3 (List.mem_of_getElem? (i := 161) rfl) rfl
theorem mw_3_162 : Cond.selects RX9 yX9_top yX9_top ∈ BW := bw_3 (List.mem_of_getElem? (i := 162) rfl) rfl
theorem mw_3_163 : Cond.code yX9_top cX9_top 8 (some .int) ∈ BW := bw_3 (List.mem_of_getElem? (i := 163) rfl) rfl
theorem mw_3_164 : Cond.methodLink RX9 291 yX3_clear ∈ BW := bw_3 (List.mem_of_getElem? (i := 164) rfl) rfl
theorem mw_3_165 : Cond.instanceMethod yX3_clear ∈ BW := bw_3 (List.mem_of_getElem? (i := 165) rfl) rfl
theorem mw_3_166 : Cond.selects RX3 yX3_clear yX3_clear ∈ BW := bw_3 (List.mem_of_getElem? (i := 166) rfl) rfl
theorem mw_3_167 : Cond.code yX3_clear cX3_clear 1 (none : Option Jvm.ClassFile.FieldType) ∈ BW := bw_3 (List.mem_of_getElem? (i := 167) rfl) rfl
theorem mw_3_168 : Cond.methodLink RX9 292 yX3_put ∈ BW := bw_3 (List.mem_of_getElem? (i := 168) rfl) rfl
theorem mw_3_169 : Cond.methodLink RL 161 yX9_read ∈ BW := bw_3 (List.mem_of_getElem? (i := 169) rfl) rfl
theorem mw_3_170 : Cond.instanceMethod yX9_read ∈ BW := bw_3 (List.mem_of_getElem? (i := 170) rfl) rfl
theorem mw_3_171 : Cond.selects RX9 yX9_read yX9_read ∈ BW := bw_3 (List.mem_of_getElem? (i := 171) rfl) rfl
theorem mw_3_172 : Cond.code yX9_read cX9_read 8 (some .int) ∈ BW := bw_3 (List.mem_of_getElem? (i := 172) rfl) rfl
theorem mw_3_173 : Cond.methodLink RX9 295 yX9_startReading ∈ BW := bw_3 (List.mem_of_getElem? (i := 173) rfl) rfl
theorem mw_3_175 : Cond.instanceMethod yX9_startReading ∈ BW := bw_3 (List.mem_of_getElem? (i := 175) rfl) rfl
theorem mw_3_176 : Cond.code yX9_startReading cX9_startReading 3 (none : Option Jvm.ClassFile.FieldType) ∈ BW := bw_3 (List.mem_of_getElem? (i := 176) rfl) rfl
theorem mw_3_177 : Cond.methodLink RX9 298 yX3_isCertain ∈ BW := bw_3 (List.mem_of_getElem? (i := 177) rfl) rfl
theorem mw_3_178 : Cond.instanceMethod yX3_isCertain ∈ BW := bw_3 (List.mem_of_getElem? (i := 178) rfl) rfl
theorem mw_3_179 : Cond.selects RX3 yX3_isCertain yX3_isCertain ∈ BW := bw_3 (List.mem_of_getElem? (i := 179) rfl) rfl
theorem mw_3_180 : Cond.code yX3_isCertain cX3_isCertain 6 (some .boolean) ∈ BW := bw_3 (List.mem_of_getElem? (i := 180) rfl) rfl
theorem mw_3_181 : Cond.methodLink RX9 301 yX9_readOne ∈ BW := bw_3 (List.mem_of_getElem? (i := 181) rfl) rfl
theorem mw_3_183 : Cond.instanceMethod yX9_readOne ∈ BW := bw_3 (List.mem_of_getElem? (i := 183) rfl) rfl
theorem mw_3_184 : Cond.code yX9_readOne cX9_readOne 4 (none : Option Jvm.ClassFile.FieldType) ∈ BW := bw_3 (List.mem_of_getElem? (i := 184) rfl) rfl
theorem mw_3_185 : Cond.methodLink RX9 341 yX3_settle ∈ BW := bw_3 (List.mem_of_getElem? (i := 185) rfl) rfl
theorem mw_3_186 : Cond.instanceMethod yX3_settle ∈ BW := bw_3 (List.mem_of_getElem? (i := 186) rfl) rfl
theorem mw_3_187 : Cond.selects RX3 yX3_settle yX3_settle ∈ BW := bw_3 (List.mem_of_getElem? (i := 187) rfl) rfl
theorem mw_3_188 : Cond.code yX3_settle cX3_settle 2 (none : Option Jvm.ClassFile.FieldType) ∈ BW := bw_3 (List.mem_of_getElem? (i := 188) rfl) rfl
theorem mw_3_189 : Cond.methodLink RL 165 yX9_path ∈ BW := bw_3 (List.mem_of_getElem? (i := 189) rfl) rfl
theorem mw_3_190 : Cond.instanceMethod yX9_path ∈ BW := bw_3 (List.mem_of_getElem? (i := 190) rfl) rfl
theorem mw_3_191 : Cond.selects RX9 yX9_path yX9_path ∈ BW := bw_3 (List.mem_of_getElem? (i := 191) rfl) rfl
theorem mw_3_192 : Cond.code yX9_path cX9_path 7 (some .int) ∈ BW := bw_3 (List.mem_of_getElem? (i := 192) rfl) rfl
theorem mw_3_193 : Cond.methodLink RX9 304 yX9_fullestBelow ∈ BW := bw_3 (List.mem_of_getElem? (i := 193) rfl) rfl
theorem mw_3_195 : Cond.instanceMethod yX9_fullestBelow ∈ BW := bw_3 (List.mem_of_getElem? (i := 195) rfl) rfl
theorem mw_3_196 : Cond.code yX9_fullestBelow cX9_fullestBelow 9 (some .int) ∈ BW := bw_3 (List.mem_of_getElem? (i := 196) rfl) rfl
theorem mw_3_197 : Cond.methodLink RL 169 yX9_split ∈ BW := bw_3 (List.mem_of_getElem? (i := 197) rfl) rfl
theorem mw_3_198 : Cond.instanceMethod yX9_split ∈ BW := bw_3 (List.mem_of_getElem? (i := 198) rfl) rfl
theorem mw_3_199 : Cond.selects RX9 yX9_split yX9_split ∈ BW := bw_3 (List.mem_of_getElem? (i := 199) rfl) rfl
theorem mw_3_200 : Cond.code yX9_split cX9_split 6 (some .int) ∈ BW := bw_3 (List.mem_of_getElem? (i := 200) rfl) rfl
theorem mw_3_201 : Cond.methodLink RX9 308 yJ9_abs_0f7a4 ∈ BW := bw_3 (List.mem_of_getElem? (i := 201) rfl) rfl
theorem mw_3_202 : Cond.static yJ9_abs_0f7a4 ∈ BW := bw_3 (List.mem_of_getElem? (i := 202) rfl) rfl
theorem mw_3_203 : Cond.code yJ9_abs_0f7a4 cJ9_abs_0f7a4 1 (some .int) ∈ BW := bw_3 (List.mem_of_getElem? (i := 203) rfl) rfl
theorem mw_3_204 : Cond.methodLink RL 173 yX9_cover ∈ BW := bw_3 (List.mem_of_getElem? (i := 204) rfl) rfl
theorem mw_3_205 : Cond.instanceMethod yX9_cover ∈ BW := bw_3 (List.mem_of_getElem? (i := 205) rfl) rfl
theorem mw_3_206 : Cond.selects RX9 yX9_cover yX9_cover ∈ BW := bw_3 (List.mem_of_getElem? (i := 206) rfl) rfl
theorem mw_3_207 : Cond.code yX9_cover cX9_cover 4 (some .int) ∈ BW := bw_3 (List.mem_of_getElem? (i := 207) rfl) rfl
theorem mw_3_208 : Cond.methodLink RX9 313 yX9_fillCovering ∈ BW := bw_3 (List.mem_of_getElem? (i := 208) rfl) rfl
theorem mw_3_210 : Cond.instanceMethod yX9_fillCovering ∈ BW := bw_3 (List.mem_of_getElem? (i := 210) rfl) rfl
theorem mw_3_211 : Cond.code yX9_fillCovering cX9_fillCovering 3 (some .boolean) ∈ BW := bw_3 (List.mem_of_getElem? (i := 211) rfl) rfl
theorem mw_3_212 : Cond.methodLink RX9 344 yX1_clear ∈ BW := bw_3 (List.mem_of_getElem? (i := 212) rfl) rfl
theorem mw_3_213 : Cond.instanceMethod yX1_clear ∈ BW := bw_3 (List.mem_of_getElem? (i := 213) rfl) rfl
theorem mw_3_214 : Cond.selects RX1 yX1_clear yX1_clear ∈ BW := bw_3 (List.mem_of_getElem? (i := 214) rfl) rfl
theorem mw_3_215 : Cond.code yX1_clear cX1_clear 1 (none : Option Jvm.ClassFile.FieldType) ∈ BW := bw_3 (List.mem_of_getElem? (i := 215) rfl) rfl
theorem mw_3_216 : Cond.methodLink RX9 346 yX1_put ∈ BW := bw_3 (List.mem_of_getElem? (i := 216) rfl) rfl
theorem mw_3_217 : Cond.instanceMethod yX1_put ∈ BW := bw_3 (List.mem_of_getElem? (i := 217) rfl) rfl
theorem mw_3_218 : Cond.selects RX1 yX1_put yX1_put ∈ BW := bw_3 (List.mem_of_getElem? (i := 218) rfl) rfl
theorem mw_3_219 : Cond.code yX1_put cX1_put 4 (none : Option Jvm.ClassFile.FieldType) ∈ BW := bw_3 (List.mem_of_getElem? (i := 219) rfl) rfl
theorem mw_3_220 : Cond.methodLink RX9 316 yX1_solve ∈ BW := bw_3 (List.mem_of_getElem? (i := 220) rfl) rfl
theorem mw_3_221 : Cond.instanceMethod yX1_solve ∈ BW := bw_3 (List.mem_of_getElem? (i := 221) rfl) rfl
theorem mw_3_222 : Cond.selects RX1 yX1_solve yX1_solve ∈ BW := bw_3 (List.mem_of_getElem? (i := 222) rfl) rfl
theorem mw_3_223 : Cond.code yX1_solve cX1_solve 4 (some .int) ∈ BW := bw_3 (List.mem_of_getElem? (i := 223) rfl) rfl
theorem mw_3_224 : Cond.methodLink RX1 29 yX1_choose ∈ BW := bw_3 (List.mem_of_getElem? (i := 224) rfl) rfl
theorem mw_3_226 : Cond.instanceMethod yX1_choose ∈ BW := bw_3 (List.mem_of_getElem? (i := 226) rfl) rfl
theorem mw_3_227 : Cond.code yX1_choose cX1_choose 7 (some .boolean) ∈ BW := bw_3 (List.mem_of_getElem? (i := 227) rfl) rfl
theorem mw_3_228 : Cond.constantLong RX1 33 (-1) ∈ BW := bw_3 (List.mem_of_getElem? (i := 228) rfl) rfl
theorem mw_3_229 : Cond.methodLink RL 177 yX9_both ∈ BW := bw_3 (List.mem_of_getElem? (i := 229) rfl) rfl
theorem mw_3_230 : Cond.instanceMethod yX9_both ∈ BW := bw_3 (List.mem_of_getElem? (i := 230) rfl) rfl
theorem mw_3_231 : Cond.selects RX9 yX9_both yX9_both ∈ BW := bw_3 (List.mem_of_getElem? (i := 231) rfl) rfl
theorem mw_3_232 : Cond.code yX9_both cX9_both 3 (some .int) ∈ BW := bw_3 (List.mem_of_getElem? (i := 232) rfl) rfl
theorem mw_3_233 : Cond.methodLink RL 181 yX9_alike ∈ BW := bw_3 (List.mem_of_getElem? (i := 233) rfl) rfl
theorem mw_3_234 : Cond.instanceMethod yX9_alike ∈ BW := bw_3 (List.mem_of_getElem? (i := 234) rfl) rfl
theorem mw_3_235 : Cond.selects RX9 yX9_alike yX9_alike ∈ BW := bw_3 (List.mem_of_getElem? (i := 235) rfl) rfl
theorem mw_3_236 : Cond.code yX9_alike cX9_alike 3 (some .int) ∈ BW := bw_3 (List.mem_of_getElem? (i := 236) rfl) rfl
theorem mw_3_237 : Cond.methodLink RX9 321 yX2_howManyHeldBy ∈ BW := bw_3 (List.mem_of_getElem? (i := 237) rfl) rfl
theorem mw_3_238 : Cond.instanceMethod yX2_howManyHeldBy ∈ BW := bw_3 (List.mem_of_getElem? (i := 238) rfl) rfl
theorem mw_3_239 : Cond.selects RX2 yX2_howManyHeldBy yX2_howManyHeldBy ∈ BW := bw_3 (List.mem_of_getElem? (i := 239) rfl) rfl
theorem mw_4_0 : Cond.code yX2_howManyHeldBy cX2_howManyHeldBy 5 (some .int) ∈ BW := bw_4 (List.mem_of_getElem? (i := 0) rfl) rfl
theorem mw_4_1 : Cond.methodLink RL 185 yX9_nearest ∈ BW := bw_4 (List.mem_of_getElem? (i := 1) rfl) rfl
theorem mw_4_2 : Cond.instanceMethod yX9_nearest ∈ BW := bw_4 (List.mem_of_getElem? (i := 2) rfl) rfl
theorem mw_4_3 : Cond.selects RX9 yX9_nearest yX9_nearest ∈ BW := bw_4 (List.mem_of_getElem? (i := 3) rfl) rfl
theorem mw_4_4 : Cond.code yX9_nearest cX9_nearest 7 (some .int) ∈ BW := bw_4 (List.mem_of_getElem? (i := 4) rfl) rfl
theorem mw_4_5 : Cond.methodLink RL 189 yX9_miss ∈ BW := bw_4 (List.mem_of_getElem? (i := 5) rfl) rfl
theorem mw_4_6 : Cond.instanceMethod yX9_miss ∈ BW := bw_4 (List.mem_of_getElem? (i := 6) rfl) rfl
theorem mw_4_7 : Cond.selects RX9 yX9_miss yX9_miss ∈ BW := bw_4 (List.mem_of_getElem? (i := 7) rfl) rfl
theorem mw_4_8 : Cond.code yX9_miss cX9_miss 5 (some .int) ∈ BW := bw_4 (List.mem_of_getElem? (i := 8) rfl) rfl
theorem mw_4_9 : Cond.methodLink RX9 324 yJ6_bitCount_0f7a4 ∈ BW := bw_4 (List.mem_of_getElem? (i := 9) rfl) rfl
theorem mw_4_10 : Cond.static yJ6_bitCount_0f7a4 ∈ BW := bw_4 (List.mem_of_getElem? (i := 10) rfl) rfl
theorem mw_4_11 : Cond.code yJ6_bitCount_0f7a4 cJ6_bitCount_0f7a4 1 (some .int) ∈ BW := bw_4 (List.mem_of_getElem? (i := 11) rfl) rfl
theorem mw_4_12 : Cond.constant RJ6 265 (1431655765) ∈ BW := bw_4 (List.mem_of_getElem? (i := 12) rfl) rfl
theorem mw_4_13 : Cond.constant RJ6 266 (858993459) ∈ BW := bw_4 (List.mem_of_getElem? (i := 13) rfl) rfl
theorem mw_4_14 : Cond.constant RJ6 267 (252645135) ∈ BW := bw_4 (List.mem_of_getElem? (i := 14) rfl) rfl
theorem mw_4_15 : Cond.methodLink RL 193 yX9_most ∈ BW := bw_4 (List.mem_of_getElem? (i := 15) rfl) rfl
theorem mw_4_16 : Cond.instanceMethod yX9_most ∈ BW := bw_4 (List.mem_of_getElem? (i := 16) rfl) rfl
theorem mw_4_17 : Cond.selects RX9 yX9_most yX9_most ∈ BW := bw_4 (List.mem_of_getElem? (i := 17) rfl) rfl
theorem mw_4_18 : Cond.code yX9_most cX9_most 8 (some .int) ∈ BW := bw_4 (List.mem_of_getElem? (i := 18) rfl) rfl
theorem mw_4_19 : Cond.methodLink RL 200 yX9_count ∈ BW := bw_4 (List.mem_of_getElem? (i := 19) rfl) rfl
theorem mw_4_20 : Cond.instanceMethod yX9_count ∈ BW := bw_4 (List.mem_of_getElem? (i := 20) rfl) rfl
theorem mw_4_21 : Cond.selects RX9 yX9_count yX9_count ∈ BW := bw_4 (List.mem_of_getElem? (i := 21) rfl) rfl
theorem mw_4_22 : Cond.code yX9_count cX9_count 2 (some .int) ∈ BW := bw_4 (List.mem_of_getElem? (i := 22) rfl) rfl
theorem mw_4_23 : Cond.methodLink RX9 328 yX7_howManyCategoriesChosen ∈ BW := bw_4 (List.mem_of_getElem? (i := 23) rfl) rfl
theorem mw_4_24 : Cond.instanceMethod yX7_howManyCategoriesChosen ∈ BW := bw_4 (List.mem_of_getElem? (i := 24) rfl) rfl
theorem mw_4_25 : Cond.selects RX7 yX7_howManyCategoriesChosen yX7_howManyCategoriesChosen ∈ BW := bw_4 (List.mem_of_getElem? (i := 25) rfl) rfl
theorem mw_4_26 : Cond.code yX7_howManyCategoriesChosen cX7_howManyCategoriesChosen 3 (some .int) ∈ BW := bw_4 (List.mem_of_getElem? (i := 26) rfl) rfl
theorem mw_4_27 : Cond.methodLink RX9 332 yX7_howManyRanges ∈ BW := bw_4 (List.mem_of_getElem? (i := 27) rfl) rfl
theorem mw_4_28 : Cond.instanceMethod yX7_howManyRanges ∈ BW := bw_4 (List.mem_of_getElem? (i := 28) rfl) rfl
theorem mw_4_29 : Cond.selects RX7 yX7_howManyRanges yX7_howManyRanges ∈ BW := bw_4 (List.mem_of_getElem? (i := 29) rfl) rfl
theorem mw_4_30 : Cond.code yX7_howManyRanges cX7_howManyRanges 3 (some .int) ∈ BW := bw_4 (List.mem_of_getElem? (i := 30) rfl) rfl
theorem mw_4_31 : Cond.methodLink RX9 335 yX7_narrowed ∈ BW := bw_4 (List.mem_of_getElem? (i := 31) rfl) rfl
theorem mw_4_32 : Cond.instanceMethod yX7_narrowed ∈ BW := bw_4 (List.mem_of_getElem? (i := 32) rfl) rfl
theorem mw_4_33 : Cond.selects RX7 yX7_narrowed yX7_narrowed ∈ BW := bw_4 (List.mem_of_getElem? (i := 33) rfl) rfl
theorem mw_4_34 : Cond.code yX7_narrowed cX7_narrowed 3 (some .int) ∈ BW := bw_4 (List.mem_of_getElem? (i := 34) rfl) rfl
theorem mw_4_35 : Cond.methodLink RL 102 yL_numberOf ∈ BW := bw_4 (List.mem_of_getElem? (i := 35) rfl) rfl
theorem mw_4_36 : Cond.static yL_numberOf ∈ BW := bw_4 (List.mem_of_getElem? (i := 36) rfl) rfl
theorem mw_4_39 : Cond.methodLink RL 7 yX9_numberOf ∈ BW := bw_4 (List.mem_of_getElem? (i := 39) rfl) rfl
theorem mw_4_40 : Cond.instanceMethod yX9_numberOf ∈ BW := bw_4 (List.mem_of_getElem? (i := 40) rfl) rfl
theorem mw_4_41 : Cond.selects RX9 yX9_numberOf yX9_numberOf ∈ BW := bw_4 (List.mem_of_getElem? (i := 41) rfl) rfl
theorem mw_4_42 : Cond.code yX9_numberOf cX9_numberOf 3 (some .int) ∈ BW := bw_4 (List.mem_of_getElem? (i := 42) rfl) rfl
theorem mw_4_54 : Cond.lays "java/util/NoSuchElementException" "java/lang/Throwable" "cause" "Ljava/lang/Throwable;" ∈ BW := bw_4 (List.mem_of_getElem? (i := 54) rfl) rfl
theorem mw_4_55 : Cond.lays "java/lang/Throwable" "java/lang/Throwable" "cause" "Ljava/lang/Throwable;" ∈ BW := bw_4 (List.mem_of_getElem? (i := 55) rfl) rfl
theorem mw_4_56 : Cond.lays "java/util/NoSuchElementException" "java/lang/Throwable" "stackTrace" "[Ljava/lang/StackTraceElement;" ∈ BW := bw_4 (List.mem_of_getElem? (i := 56) rfl) rfl
theorem mw_4_57 : Cond.lays "java/lang/Throwable" "java/lang/Throwable" "stackTrace" "[Ljava/lang/StackTraceElement;" ∈ BW := bw_4 (List.mem_of_getElem? (i := 57) rfl) rfl
theorem mw_4_58 : Cond.lays "java/util/NoSuchElementException" "java/lang/Throwable" "suppressedExceptions" "Ljava/util/List;" ∈ BW := bw_4 (List.mem_of_getElem? (i := 58) rfl) rfl
theorem mw_4_59 : Cond.lays "java/lang/Throwable" "java/lang/Throwable" "suppressedExceptions" "Ljava/util/List;" ∈ BW := bw_4 (List.mem_of_getElem? (i := 59) rfl) rfl
theorem mw_4_60 : Cond.lays "java/util/NoSuchElementException" "java/lang/Throwable" "detailMessage" "Ljava/lang/String;" ∈ BW := bw_4 (List.mem_of_getElem? (i := 60) rfl) rfl
theorem mw_4_61 : Cond.lays "java/lang/Throwable" "java/lang/Throwable" "detailMessage" "Ljava/lang/String;" ∈ BW := bw_4 (List.mem_of_getElem? (i := 61) rfl) rfl
theorem mw_4_62 : Cond.lays "java/util/NoSuchElementException" "java/lang/Throwable" "backtrace" "Ljava/lang/Object;" ∈ BW := bw_4 (List.mem_of_getElem? (i := 62) rfl) rfl
theorem mw_4_63 : Cond.lays "java/lang/Throwable" "java/lang/Throwable" "backtrace" "Ljava/lang/Object;" ∈ BW := bw_4 (List.mem_of_getElem? (i := 63) rfl) rfl
theorem mw_4_104 : Cond.lays "java/util/NoSuchElementException" "java/lang/Throwable" "depth" "I" ∈ BW := bw_4 (List.mem_of_getElem? (i := 104) rfl) rfl
theorem mw_4_108 : Cond.arrayClass FieldType.byte ∈ BW := bw_4 (List.mem_of_getElem? (i := 108) rfl) rfl
theorem mw_4_109 : Cond.methodLink RL 145 yL_bin ∈ BW := bw_4 (List.mem_of_getElem? (i := 109) rfl) rfl
theorem mw_4_110 : Cond.static yL_bin ∈ BW := bw_4 (List.mem_of_getElem? (i := 110) rfl) rfl
theorem mw_4_112 : Cond.methodLink RL 15 yX9_bin ∈ BW := bw_4 (List.mem_of_getElem? (i := 112) rfl) rfl
theorem mw_4_113 : Cond.instanceMethod yX9_bin ∈ BW := bw_4 (List.mem_of_getElem? (i := 113) rfl) rfl
theorem mw_4_114 : Cond.selects RX9 yX9_bin yX9_bin ∈ BW := bw_4 (List.mem_of_getElem? (i := 114) rfl) rfl
theorem mw_4_115 : Cond.code yX9_bin cX9_bin 7 (some .int) ∈ BW := bw_4 (List.mem_of_getElem? (i := 115) rfl) rfl
theorem mw_4_117 : Cond.methodLink RX9 271 yX4_startOfBin ∈ BW := bw_4 (List.mem_of_getElem? (i := 117) rfl) rfl
theorem mw_4_118 : Cond.instanceMethod yX4_startOfBin ∈ BW := bw_4 (List.mem_of_getElem? (i := 118) rfl) rfl
theorem mw_4_119 : Cond.selects RX4 yX4_startOfBin yX4_startOfBin ∈ BW := bw_4 (List.mem_of_getElem? (i := 119) rfl) rfl
theorem mw_4_120 : Cond.code yX4_startOfBin cX4_startOfBin 5 (some .int) ∈ BW := bw_4 (List.mem_of_getElem? (i := 120) rfl) rfl
theorem mw_4_121 : Cond.methodLink RX9 275 yX4_endOfBin ∈ BW := bw_4 (List.mem_of_getElem? (i := 121) rfl) rfl
theorem mw_4_122 : Cond.methodLink RL 197 yL_middle ∈ BW := bw_4 (List.mem_of_getElem? (i := 122) rfl) rfl
theorem mw_4_123 : Cond.static yL_middle ∈ BW := bw_4 (List.mem_of_getElem? (i := 123) rfl) rfl
theorem mw_4_125 : Cond.methodLink RL 19 yX9_middle ∈ BW := bw_4 (List.mem_of_getElem? (i := 125) rfl) rfl
theorem mw_4_126 : Cond.instanceMethod yX9_middle ∈ BW := bw_4 (List.mem_of_getElem? (i := 126) rfl) rfl
theorem mw_4_127 : Cond.selects RX9 yX9_middle yX9_middle ∈ BW := bw_4 (List.mem_of_getElem? (i := 127) rfl) rfl
theorem mw_4_128 : Cond.code yX9_middle cX9_middle 3 (some .int) ∈ BW := bw_4 (List.mem_of_getElem? (i := 128) rfl) rfl
theorem mw_4_131 : Cond.classLink RL 23 RX10 ∈ BW := bw_4 (List.mem_of_getElem? (i := 131) rfl) rfl
theorem mw_4_132 : Cond.instantiable RX10 22 ∈ BW := bw_4 (List.mem_of_getElem? (i := 132) rfl) rfl
theorem mw_4_133 : Cond.methodLink RL 25 yX10_init ∈ BW := bw_4 (List.mem_of_getElem? (i := 133) rfl) rfl
theorem mw_4_134 : Cond.instanceMethod yX10_init ∈ BW := bw_4 (List.mem_of_getElem? (i := 134) rfl) rfl
theorem mw_4_135 : Cond.code yX10_init cX10_init 1 (none : Option Jvm.ClassFile.FieldType) ∈ BW := bw_4 (List.mem_of_getElem? (i := 135) rfl) rfl
theorem mw_4_136 : Cond.methodLink RX10 1 objectInit ∈ BW := bw_4 (List.mem_of_getElem? (i := 136) rfl) rfl
theorem mw_4_137 : Cond.fieldLink RX10 56 "DrillCountModel" "thrown" "I" ∈ BW := bw_4 (List.mem_of_getElem? (i := 137) rfl) rfl
theorem mw_4_138 : Cond.fieldLink RX10 60 "DrillCountModel" "axes" "I" ∈ BW := bw_4 (List.mem_of_getElem? (i := 138) rfl) rfl
theorem mw_4_139 : Cond.fieldLink RX10 67 "DrillCountModel" "categories" "I" ∈ BW := bw_4 (List.mem_of_getElem? (i := 139) rfl) rfl
theorem mw_4_140 : Cond.fieldLink RX10 70 "DrillCountModel" "documents" "I" ∈ BW := bw_4 (List.mem_of_getElem? (i := 140) rfl) rfl
theorem mw_4_141 : Cond.fieldLink RX10 7 "DrillCountModel" "kindOf" "[I" ∈ BW := bw_4 (List.mem_of_getElem? (i := 141) rfl) rfl
theorem mw_4_142 : Cond.fieldLink RX10 13 "DrillCountModel" "axisOf" "[I" ∈ BW := bw_4 (List.mem_of_getElem? (i := 142) rfl) rfl
theorem mw_4_143 : Cond.fieldLink RX10 16 "DrillCountModel" "below" "[I" ∈ BW := bw_4 (List.mem_of_getElem? (i := 143) rfl) rfl
theorem mw_4_144 : Cond.fieldLink RX10 19 "DrillCountModel" "score" "[I" ∈ BW := bw_4 (List.mem_of_getElem? (i := 144) rfl) rfl
theorem mw_4_145 : Cond.fieldLink RX10 22 "DrillCountModel" "there" "[Z" ∈ BW := bw_4 (List.mem_of_getElem? (i := 145) rfl) rfl
theorem mw_4_146 : Cond.fieldLink RX10 26 "DrillCountModel" "tagged" "[Z" ∈ BW := bw_4 (List.mem_of_getElem? (i := 146) rfl) rfl
theorem mw_4_147 : Cond.fieldLink RX10 29 "DrillCountModel" "numberAt" "[I" ∈ BW := bw_4 (List.mem_of_getElem? (i := 147) rfl) rfl
theorem mw_4_148 : Cond.fieldLink RX10 32 "DrillCountModel" "hasNumber" "[Z" ∈ BW := bw_4 (List.mem_of_getElem? (i := 148) rfl) rfl
theorem mw_4_149 : Cond.fieldLink RX10 35 "DrillCountModel" "chosen" "[I" ∈ BW := bw_4 (List.mem_of_getElem? (i := 149) rfl) rfl
theorem mw_4_150 : Cond.fieldLink RX10 106 "DrillCountModel" "backs" "I" ∈ BW := bw_4 (List.mem_of_getElem? (i := 150) rfl) rfl
theorem mw_4_151 : Cond.fieldLink RX10 38 "DrillCountModel" "having0" "[Z" ∈ BW := bw_4 (List.mem_of_getElem? (i := 151) rfl) rfl
theorem mw_4_152 : Cond.fieldLink RX10 41 "DrillCountModel" "order" "[I" ∈ BW := bw_4 (List.mem_of_getElem? (i := 152) rfl) rfl
theorem mw_4_153 : Cond.fieldLink RX10 137 "DrillCountModel" "many" "I" ∈ BW := bw_4 (List.mem_of_getElem? (i := 153) rfl) rfl
theorem mw_4_154 : Cond.fieldLink RX10 44 "DrillCountModel" "having" "[I" ∈ BW := bw_4 (List.mem_of_getElem? (i := 154) rfl) rfl
theorem mw_4_155 : Cond.fieldLink RX10 170 "DrillCountModel" "numbered" "I" ∈ BW := bw_4 (List.mem_of_getElem? (i := 155) rfl) rfl
theorem mw_4_156 : Cond.fieldLink RX10 47 "DrillCountModel" "binned" "[I" ∈ BW := bw_4 (List.mem_of_getElem? (i := 156) rfl) rfl
theorem mw_4_157 : Cond.fieldLink RX10 50 "DrillCountModel" "told" "[I" ∈ BW := bw_4 (List.mem_of_getElem? (i := 157) rfl) rfl
theorem mw_4_158 : Cond.fieldLink RX10 53 "DrillCountModel" "among" "[I" ∈ BW := bw_4 (List.mem_of_getElem? (i := 158) rfl) rfl
theorem mw_4_159 : Cond.lays "DrillCountModel" "DrillCountModel" "thrown" "I" ∈ BW := bw_4 (List.mem_of_getElem? (i := 159) rfl) rfl
theorem mw_4_161 : Cond.lays "DrillCountModel" "DrillCountModel" "axes" "I" ∈ BW := bw_4 (List.mem_of_getElem? (i := 161) rfl) rfl
theorem mw_4_163 : Cond.lays "DrillCountModel" "DrillCountModel" "categories" "I" ∈ BW := bw_4 (List.mem_of_getElem? (i := 163) rfl) rfl
theorem mw_4_165 : Cond.lays "DrillCountModel" "DrillCountModel" "documents" "I" ∈ BW := bw_4 (List.mem_of_getElem? (i := 165) rfl) rfl
theorem mw_4_167 : Cond.laysFinal "DrillCountModel" "DrillCountModel" "kindOf" "[I" ∈ BW := bw_4 (List.mem_of_getElem? (i := 167) rfl) rfl
theorem mw_4_169 : Cond.laysFinal "DrillCountModel" "DrillCountModel" "axisOf" "[I" ∈ BW := bw_4 (List.mem_of_getElem? (i := 169) rfl) rfl
theorem mw_4_171 : Cond.laysFinal "DrillCountModel" "DrillCountModel" "below" "[I" ∈ BW := bw_4 (List.mem_of_getElem? (i := 171) rfl) rfl
theorem mw_4_173 : Cond.laysFinal "DrillCountModel" "DrillCountModel" "score" "[I" ∈ BW := bw_4 (List.mem_of_getElem? (i := 173) rfl) rfl
theorem mw_4_175 : Cond.laysFinal "DrillCountModel" "DrillCountModel" "there" "[Z" ∈ BW := bw_4 (List.mem_of_getElem? (i := 175) rfl) rfl
theorem mw_4_177 : Cond.laysFinal "DrillCountModel" "DrillCountModel" "tagged" "[Z" ∈ BW := bw_4 (List.mem_of_getElem? (i := 177) rfl) rfl
theorem mw_4_179 : Cond.laysFinal "DrillCountModel" "DrillCountModel" "numberAt" "[I" ∈ BW := bw_4 (List.mem_of_getElem? (i := 179) rfl) rfl
theorem mw_4_181 : Cond.laysFinal "DrillCountModel" "DrillCountModel" "hasNumber" "[Z" ∈ BW := bw_4 (List.mem_of_getElem? (i := 181) rfl) rfl
theorem mw_4_183 : Cond.laysFinal "DrillCountModel" "DrillCountModel" "chosen" "[I" ∈ BW := bw_4 (List.mem_of_getElem? (i := 183) rfl) rfl
theorem mw_4_185 : Cond.lays "DrillCountModel" "DrillCountModel" "backs" "I" ∈ BW := bw_4 (List.mem_of_getElem? (i := 185) rfl) rfl
theorem mw_4_187 : Cond.laysFinal "DrillCountModel" "DrillCountModel" "having0" "[Z" ∈ BW := bw_4 (List.mem_of_getElem? (i := 187) rfl) rfl
theorem mw_4_189 : Cond.laysFinal "DrillCountModel" "DrillCountModel" "order" "[I" ∈ BW := bw_4 (List.mem_of_getElem? (i := 189) rfl) rfl
theorem mw_4_191 : Cond.lays "DrillCountModel" "DrillCountModel" "many" "I" ∈ BW := bw_4 (List.mem_of_getElem? (i := 191) rfl) rfl
theorem mw_4_193 : Cond.laysFinal "DrillCountModel" "DrillCountModel" "having" "[I" ∈ BW := bw_4 (List.mem_of_getElem? (i := 193) rfl) rfl
theorem mw_4_195 : Cond.lays "DrillCountModel" "DrillCountModel" "numbered" "I" ∈ BW := bw_4 (List.mem_of_getElem? (i := 195) rfl) rfl
theorem mw_4_197 : Cond.laysFinal "DrillCountModel" "DrillCountModel" "binned" "[I" ∈ BW := bw_4 (List.mem_of_getElem? (i := 197) rfl) rfl
theorem mw_4_199 : Cond.laysFinal "DrillCountModel" "DrillCountModel" "told" "[I" ∈ BW := bw_4 (List.mem_of_getElem? (i := 199) rfl) rfl
theorem mw_4_201 : Cond.laysFinal "DrillCountModel" "DrillCountModel" "among" "[I" ∈ BW := bw_4 (List.mem_of_getElem? (i := 201) rfl) rfl
theorem mw_4_204 : Cond.arrayClass FieldType.boolean ∈ BW := bw_4 (List.mem_of_getElem? (i := 204) rfl) rfl
theorem mw_4_205 : Cond.methodLink RL 108 yX10_thrown ∈ BW := bw_4 (List.mem_of_getElem? (i := 205) rfl) rfl
theorem mw_4_206 : Cond.instanceMethod yX10_thrown ∈ BW := bw_4 (List.mem_of_getElem? (i := 206) rfl) rfl
theorem mw_4_207 : Cond.selects RX10 yX10_thrown yX10_thrown ∈ BW := bw_4 (List.mem_of_getElem? (i := 207) rfl) rfl
theorem mw_4_208 : Cond.code yX10_thrown cX10_thrown 1 (some .int) ∈ BW := bw_4 (List.mem_of_getElem? (i := 208) rfl) rfl
theorem mw_4_209 : Cond.methodLink RL 30 yX10_axis ∈ BW := bw_4 (List.mem_of_getElem? (i := 209) rfl) rfl
theorem mw_4_210 : Cond.instanceMethod yX10_axis ∈ BW := bw_4 (List.mem_of_getElem? (i := 210) rfl) rfl
theorem mw_4_211 : Cond.selects RX10 yX10_axis yX10_axis ∈ BW := bw_4 (List.mem_of_getElem? (i := 211) rfl) rfl
theorem mw_4_212 : Cond.code yX10_axis cX10_axis 2 (some .int) ∈ BW := bw_4 (List.mem_of_getElem? (i := 212) rfl) rfl
theorem mw_4_213 : Cond.methodLink RX10 73 yX10_within ∈ BW := bw_4 (List.mem_of_getElem? (i := 213) rfl) rfl
theorem mw_4_214 : Cond.static yX10_within ∈ BW := bw_4 (List.mem_of_getElem? (i := 214) rfl) rfl
theorem mw_4_215 : Cond.code yX10_within cX10_within 3 (some .boolean) ∈ BW := bw_4 (List.mem_of_getElem? (i := 215) rfl) rfl
theorem mw_4_216 : Cond.methodLink RL 34 yX10_category ∈ BW := bw_4 (List.mem_of_getElem? (i := 216) rfl) rfl
theorem mw_4_217 : Cond.instanceMethod yX10_category ∈ BW := bw_4 (List.mem_of_getElem? (i := 217) rfl) rfl
theorem mw_4_218 : Cond.selects RX10 yX10_category yX10_category ∈ BW := bw_4 (List.mem_of_getElem? (i := 218) rfl) rfl
theorem mw_4_219 : Cond.code yX10_category cX10_category 3 (some .int) ∈ BW := bw_4 (List.mem_of_getElem? (i := 219) rfl) rfl
theorem mw_4_220 : Cond.methodLink RX10 80 yX10_isTree ∈ BW := bw_4 (List.mem_of_getElem? (i := 220) rfl) rfl
theorem mw_4_222 : Cond.instanceMethod yX10_isTree ∈ BW := bw_4 (List.mem_of_getElem? (i := 222) rfl) rfl
theorem mw_4_223 : Cond.code yX10_isTree cX10_isTree 2 (some .boolean) ∈ BW := bw_4 (List.mem_of_getElem? (i := 223) rfl) rfl
theorem mw_4_224 : Cond.methodLink RX10 63 yX10_isAxis ∈ BW := bw_4 (List.mem_of_getElem? (i := 224) rfl) rfl
theorem mw_4_226 : Cond.instanceMethod yX10_isAxis ∈ BW := bw_4 (List.mem_of_getElem? (i := 226) rfl) rfl
theorem mw_4_227 : Cond.code yX10_isAxis cX10_isAxis 2 (some .boolean) ∈ BW := bw_4 (List.mem_of_getElem? (i := 227) rfl) rfl
theorem mw_4_228 : Cond.methodLink RX10 83 yX10_canBe ∈ BW := bw_4 (List.mem_of_getElem? (i := 228) rfl) rfl
theorem mw_4_230 : Cond.instanceMethod yX10_canBe ∈ BW := bw_4 (List.mem_of_getElem? (i := 230) rfl) rfl
theorem mw_4_231 : Cond.code yX10_canBe cX10_canBe 3 (some .boolean) ∈ BW := bw_4 (List.mem_of_getElem? (i := 231) rfl) rfl
theorem mw_4_232 : Cond.methodLink RX10 77 yX10_isCategory ∈ BW := bw_4 (List.mem_of_getElem? (i := 232) rfl) rfl
theorem mw_4_234 : Cond.instanceMethod yX10_isCategory ∈ BW := bw_4 (List.mem_of_getElem? (i := 234) rfl) rfl
theorem mw_4_235 : Cond.code yX10_isCategory cX10_isCategory 2 (some .boolean) ∈ BW := bw_4 (List.mem_of_getElem? (i := 235) rfl) rfl
theorem mw_4_236 : Cond.methodLink RX10 87 yX10_level ∈ BW := bw_4 (List.mem_of_getElem? (i := 236) rfl) rfl
theorem mw_4_238 : Cond.instanceMethod yX10_level ∈ BW := bw_4 (List.mem_of_getElem? (i := 238) rfl) rfl
theorem mw_4_239 : Cond.code yX10_level cX10_level 4 (some .int) ∈ BW := bw_4 (List.mem_of_getElem? (i := 239) rfl) rfl
theorem mw_5_0 : Cond.methodLink RL 39 yX10_move ∈ BW := bw_5 (List.mem_of_getElem? (i := 0) rfl) rfl
theorem mw_5_1 : Cond.instanceMethod yX10_move ∈ BW := bw_5 (List.mem_of_getElem? (i := 1) rfl) rfl
theorem mw_5_2 : Cond.selects RX10 yX10_move yX10_move ∈ BW := bw_5 (List.mem_of_getElem? (i := 2) rfl) rfl
theorem mw_5_3 : Cond.code yX10_move cX10_move 6 (some .boolean) ∈ BW := bw_5 (List.mem_of_getElem? (i := 3) rfl) rfl
theorem mw_5_4 : Cond.methodLink RX10 91 yX10_isIn ∈ BW := bw_5 (List.mem_of_getElem? (i := 4) rfl) rfl
theorem mw_5_6 : Cond.instanceMethod yX10_isIn ∈ BW := bw_5 (List.mem_of_getElem? (i := 6) rfl) rfl
theorem mw_5_7 : Cond.code yX10_isIn cX10_isIn 4 (some .boolean) ∈ BW := bw_5 (List.mem_of_getElem? (i := 7) rfl) rfl
theorem mw_5_8 : Cond.methodLink RX10 94 yX10_owns ∈ BW := bw_5 (List.mem_of_getElem? (i := 8) rfl) rfl
theorem mw_5_10 : Cond.instanceMethod yX10_owns ∈ BW := bw_5 (List.mem_of_getElem? (i := 10) rfl) rfl
theorem mw_5_11 : Cond.code yX10_owns cX10_owns 4 (none : Option Jvm.ClassFile.FieldType) ∈ BW := bw_5 (List.mem_of_getElem? (i := 11) rfl) rfl
theorem mw_5_12 : Cond.methodLink RL 43 yX10_document ∈ BW := bw_5 (List.mem_of_getElem? (i := 12) rfl) rfl
theorem mw_5_13 : Cond.instanceMethod yX10_document ∈ BW := bw_5 (List.mem_of_getElem? (i := 13) rfl) rfl
theorem mw_5_14 : Cond.selects RX10 yX10_document yX10_document ∈ BW := bw_5 (List.mem_of_getElem? (i := 14) rfl) rfl
theorem mw_5_15 : Cond.code yX10_document cX10_document 2 (some .int) ∈ BW := bw_5 (List.mem_of_getElem? (i := 15) rfl) rfl
theorem mw_5_16 : Cond.methodLink RL 48 yX10_tag ∈ BW := bw_5 (List.mem_of_getElem? (i := 16) rfl) rfl
theorem mw_5_17 : Cond.instanceMethod yX10_tag ∈ BW := bw_5 (List.mem_of_getElem? (i := 17) rfl) rfl
theorem mw_5_18 : Cond.selects RX10 yX10_tag yX10_tag ∈ BW := bw_5 (List.mem_of_getElem? (i := 18) rfl) rfl
theorem mw_5_19 : Cond.code yX10_tag cX10_tag 4 (some .boolean) ∈ BW := bw_5 (List.mem_of_getElem? (i := 19) rfl) rfl
theorem mw_5_20 : Cond.methodLink RX10 97 yX10_isThere ∈ BW := bw_5 (List.mem_of_getElem? (i := 20) rfl) rfl
theorem mw_5_22 : Cond.instanceMethod yX10_isThere ∈ BW := bw_5 (List.mem_of_getElem? (i := 22) rfl) rfl
theorem mw_5_23 : Cond.code yX10_isThere cX10_isThere 2 (some .boolean) ∈ BW := bw_5 (List.mem_of_getElem? (i := 23) rfl) rfl
theorem mw_5_24 : Cond.methodLink RL 53 yX10_number ∈ BW := bw_5 (List.mem_of_getElem? (i := 24) rfl) rfl
theorem mw_5_25 : Cond.instanceMethod yX10_number ∈ BW := bw_5 (List.mem_of_getElem? (i := 25) rfl) rfl
theorem mw_5_26 : Cond.selects RX10 yX10_number yX10_number ∈ BW := bw_5 (List.mem_of_getElem? (i := 26) rfl) rfl
theorem mw_5_27 : Cond.code yX10_number cX10_number 4 (some .boolean) ∈ BW := bw_5 (List.mem_of_getElem? (i := 27) rfl) rfl
theorem mw_5_28 : Cond.methodLink RX10 100 yX10_isNumber ∈ BW := bw_5 (List.mem_of_getElem? (i := 28) rfl) rfl
theorem mw_5_30 : Cond.instanceMethod yX10_isNumber ∈ BW := bw_5 (List.mem_of_getElem? (i := 30) rfl) rfl
theorem mw_5_31 : Cond.code yX10_isNumber cX10_isNumber 2 (some .boolean) ∈ BW := bw_5 (List.mem_of_getElem? (i := 31) rfl) rfl
theorem mw_5_32 : Cond.methodLink RL 57 yX10_unnumber ∈ BW := bw_5 (List.mem_of_getElem? (i := 32) rfl) rfl
theorem mw_5_33 : Cond.instanceMethod yX10_unnumber ∈ BW := bw_5 (List.mem_of_getElem? (i := 33) rfl) rfl
theorem mw_5_34 : Cond.selects RX10 yX10_unnumber yX10_unnumber ∈ BW := bw_5 (List.mem_of_getElem? (i := 34) rfl) rfl
theorem mw_5_35 : Cond.code yX10_unnumber cX10_unnumber 3 (some .boolean) ∈ BW := bw_5 (List.mem_of_getElem? (i := 35) rfl) rfl
theorem mw_5_36 : Cond.methodLink RX10 103 yX10_isNumbered ∈ BW := bw_5 (List.mem_of_getElem? (i := 36) rfl) rfl
theorem mw_5_38 : Cond.instanceMethod yX10_isNumbered ∈ BW := bw_5 (List.mem_of_getElem? (i := 38) rfl) rfl
theorem mw_5_39 : Cond.code yX10_isNumbered cX10_isNumbered 3 (some .boolean) ∈ BW := bw_5 (List.mem_of_getElem? (i := 39) rfl) rfl
theorem mw_5_40 : Cond.methodLink RL 62 yX10_remove ∈ BW := bw_5 (List.mem_of_getElem? (i := 40) rfl) rfl
theorem mw_5_41 : Cond.instanceMethod yX10_remove ∈ BW := bw_5 (List.mem_of_getElem? (i := 41) rfl) rfl
theorem mw_5_42 : Cond.selects RX10 yX10_remove yX10_remove ∈ BW := bw_5 (List.mem_of_getElem? (i := 42) rfl) rfl
theorem mw_5_43 : Cond.code yX10_remove cX10_remove 2 (some .boolean) ∈ BW := bw_5 (List.mem_of_getElem? (i := 43) rfl) rfl
theorem mw_5_44 : Cond.methodLink RL 67 yX10_select ∈ BW := bw_5 (List.mem_of_getElem? (i := 44) rfl) rfl
theorem mw_5_45 : Cond.instanceMethod yX10_select ∈ BW := bw_5 (List.mem_of_getElem? (i := 45) rfl) rfl
theorem mw_5_46 : Cond.selects RX10 yX10_select yX10_select ∈ BW := bw_5 (List.mem_of_getElem? (i := 46) rfl) rfl
theorem mw_5_47 : Cond.code yX10_select cX10_select 3 (some .boolean) ∈ BW := bw_5 (List.mem_of_getElem? (i := 47) rfl) rfl
theorem mw_5_48 : Cond.methodLink RX10 113 yX10_keeps ∈ BW := bw_5 (List.mem_of_getElem? (i := 48) rfl) rfl
theorem mw_5_50 : Cond.instanceMethod yX10_keeps ∈ BW := bw_5 (List.mem_of_getElem? (i := 50) rfl) rfl
theorem mw_5_51 : Cond.code yX10_keeps cX10_keeps 2 (none : Option Jvm.ClassFile.FieldType) ∈ BW := bw_5 (List.mem_of_getElem? (i := 51) rfl) rfl
theorem mw_5_52 : Cond.methodLink RX10 109 yX10_copies ∈ BW := bw_5 (List.mem_of_getElem? (i := 52) rfl) rfl
theorem mw_5_54 : Cond.instanceMethod yX10_copies ∈ BW := bw_5 (List.mem_of_getElem? (i := 54) rfl) rfl
theorem mw_5_55 : Cond.code yX10_copies cX10_copies 4 (none : Option Jvm.ClassFile.FieldType) ∈ BW := bw_5 (List.mem_of_getElem? (i := 55) rfl) rfl
theorem mw_5_56 : Cond.methodLink RL 72 yX10_range ∈ BW := bw_5 (List.mem_of_getElem? (i := 56) rfl) rfl
theorem mw_5_57 : Cond.instanceMethod yX10_range ∈ BW := bw_5 (List.mem_of_getElem? (i := 57) rfl) rfl
theorem mw_5_58 : Cond.selects RX10 yX10_range yX10_range ∈ BW := bw_5 (List.mem_of_getElem? (i := 58) rfl) rfl
theorem mw_5_59 : Cond.code yX10_range cX10_range 6 (some .int) ∈ BW := bw_5 (List.mem_of_getElem? (i := 59) rfl) rfl
theorem mw_5_60 : Cond.methodLink RL 76 yX10_drop ∈ BW := bw_5 (List.mem_of_getElem? (i := 60) rfl) rfl
theorem mw_5_61 : Cond.instanceMethod yX10_drop ∈ BW := bw_5 (List.mem_of_getElem? (i := 61) rfl) rfl
theorem mw_5_62 : Cond.selects RX10 yX10_drop yX10_drop ∈ BW := bw_5 (List.mem_of_getElem? (i := 62) rfl) rfl
theorem mw_5_63 : Cond.code yX10_drop cX10_drop 5 (some .boolean) ∈ BW := bw_5 (List.mem_of_getElem? (i := 63) rfl) rfl
theorem mw_5_64 : Cond.methodLink RL 80 yX10_missing ∈ BW := bw_5 (List.mem_of_getElem? (i := 64) rfl) rfl
theorem mw_5_65 : Cond.instanceMethod yX10_missing ∈ BW := bw_5 (List.mem_of_getElem? (i := 65) rfl) rfl
theorem mw_5_66 : Cond.selects RX10 yX10_missing yX10_missing ∈ BW := bw_5 (List.mem_of_getElem? (i := 66) rfl) rfl
theorem mw_5_67 : Cond.code yX10_missing cX10_missing 3 (some .boolean) ∈ BW := bw_5 (List.mem_of_getElem? (i := 67) rfl) rfl
theorem mw_5_68 : Cond.methodLink RL 84 yX10_open ∈ BW := bw_5 (List.mem_of_getElem? (i := 68) rfl) rfl
theorem mw_5_69 : Cond.instanceMethod yX10_open ∈ BW := bw_5 (List.mem_of_getElem? (i := 69) rfl) rfl
theorem mw_5_70 : Cond.selects RX10 yX10_open yX10_open ∈ BW := bw_5 (List.mem_of_getElem? (i := 70) rfl) rfl
theorem mw_5_71 : Cond.code yX10_open cX10_open 2 (some .boolean) ∈ BW := bw_5 (List.mem_of_getElem? (i := 71) rfl) rfl
theorem mw_5_72 : Cond.methodLink RX10 116 yX10_isOpen ∈ BW := bw_5 (List.mem_of_getElem? (i := 72) rfl) rfl
theorem mw_5_74 : Cond.instanceMethod yX10_isOpen ∈ BW := bw_5 (List.mem_of_getElem? (i := 74) rfl) rfl
theorem mw_5_75 : Cond.code yX10_isOpen cX10_isOpen 5 (some .boolean) ∈ BW := bw_5 (List.mem_of_getElem? (i := 75) rfl) rfl
theorem mw_5_76 : Cond.methodLink RX10 119 yX10_opens ∈ BW := bw_5 (List.mem_of_getElem? (i := 76) rfl) rfl
theorem mw_5_78 : Cond.instanceMethod yX10_opens ∈ BW := bw_5 (List.mem_of_getElem? (i := 78) rfl) rfl
theorem mw_5_79 : Cond.code yX10_opens cX10_opens 4 (none : Option Jvm.ClassFile.FieldType) ∈ BW := bw_5 (List.mem_of_getElem? (i := 79) rfl) rfl
theorem mw_5_80 : Cond.methodLink RL 89 yX10_back ∈ BW := bw_5 (List.mem_of_getElem? (i := 80) rfl) rfl
theorem mw_5_81 : Cond.instanceMethod yX10_back ∈ BW := bw_5 (List.mem_of_getElem? (i := 81) rfl) rfl
theorem mw_5_82 : Cond.selects RX10 yX10_back yX10_back ∈ BW := bw_5 (List.mem_of_getElem? (i := 82) rfl) rfl
theorem mw_5_83 : Cond.code yX10_back cX10_back 1 (some .boolean) ∈ BW := bw_5 (List.mem_of_getElem? (i := 83) rfl) rfl
theorem mw_5_84 : Cond.methodLink RL 93 yX10_of ∈ BW := bw_5 (List.mem_of_getElem? (i := 84) rfl) rfl
theorem mw_5_85 : Cond.instanceMethod yX10_of ∈ BW := bw_5 (List.mem_of_getElem? (i := 85) rfl) rfl
theorem mw_5_86 : Cond.selects RX10 yX10_of yX10_of ∈ BW := bw_5 (List.mem_of_getElem? (i := 86) rfl) rfl
theorem mw_5_87 : Cond.code yX10_of cX10_of 5 (some .int) ∈ BW := bw_5 (List.mem_of_getElem? (i := 87) rfl) rfl
theorem mw_5_88 : Cond.methodLink RL 97 yX10_doc ∈ BW := bw_5 (List.mem_of_getElem? (i := 88) rfl) rfl
theorem mw_5_89 : Cond.instanceMethod yX10_doc ∈ BW := bw_5 (List.mem_of_getElem? (i := 89) rfl) rfl
theorem mw_5_90 : Cond.selects RX10 yX10_doc yX10_doc ∈ BW := bw_5 (List.mem_of_getElem? (i := 90) rfl) rfl
theorem mw_5_91 : Cond.code yX10_doc cX10_doc 3 (some .int) ∈ BW := bw_5 (List.mem_of_getElem? (i := 91) rfl) rfl
theorem mw_5_92 : Cond.methodLink RX10 134 yX10_isNear ∈ BW := bw_5 (List.mem_of_getElem? (i := 92) rfl) rfl
theorem mw_5_94 : Cond.instanceMethod yX10_isNear ∈ BW := bw_5 (List.mem_of_getElem? (i := 94) rfl) rfl
theorem mw_5_95 : Cond.code yX10_isNear cX10_isNear 6 (some .boolean) ∈ BW := bw_5 (List.mem_of_getElem? (i := 95) rfl) rfl
theorem mw_5_96 : Cond.methodLink RX10 131 yX10_passes ∈ BW := bw_5 (List.mem_of_getElem? (i := 96) rfl) rfl
theorem mw_5_98 : Cond.instanceMethod yX10_passes ∈ BW := bw_5 (List.mem_of_getElem? (i := 98) rfl) rfl
theorem mw_5_99 : Cond.code yX10_passes cX10_passes 9 (some .boolean) ∈ BW := bw_5 (List.mem_of_getElem? (i := 99) rfl) rfl
theorem mw_5_100 : Cond.methodLink RX10 122 yX10_hasIt ∈ BW := bw_5 (List.mem_of_getElem? (i := 100) rfl) rfl
theorem mw_5_102 : Cond.instanceMethod yX10_hasIt ∈ BW := bw_5 (List.mem_of_getElem? (i := 102) rfl) rfl
theorem mw_5_103 : Cond.code yX10_hasIt cX10_hasIt 3 (some .boolean) ∈ BW := bw_5 (List.mem_of_getElem? (i := 103) rfl) rfl
theorem mw_5_104 : Cond.methodLink RX10 125 yX10_isMissing ∈ BW := bw_5 (List.mem_of_getElem? (i := 104) rfl) rfl
theorem mw_5_106 : Cond.instanceMethod yX10_isMissing ∈ BW := bw_5 (List.mem_of_getElem? (i := 106) rfl) rfl
theorem mw_5_107 : Cond.code yX10_isMissing cX10_isMissing 5 (some .boolean) ∈ BW := bw_5 (List.mem_of_getElem? (i := 107) rfl) rfl
theorem mw_5_108 : Cond.methodLink RX10 128 yX10_isRanged ∈ BW := bw_5 (List.mem_of_getElem? (i := 108) rfl) rfl
theorem mw_5_110 : Cond.instanceMethod yX10_isRanged ∈ BW := bw_5 (List.mem_of_getElem? (i := 110) rfl) rfl
theorem mw_5_111 : Cond.code yX10_isRanged cX10_isRanged 8 (some .boolean) ∈ BW := bw_5 (List.mem_of_getElem? (i := 111) rfl) rfl
theorem mw_5_112 : Cond.methodLink RX10 146 yX10_passedBy ∈ BW := bw_5 (List.mem_of_getElem? (i := 112) rfl) rfl
theorem mw_5_114 : Cond.instanceMethod yX10_passedBy ∈ BW := bw_5 (List.mem_of_getElem? (i := 114) rfl) rfl
theorem mw_5_115 : Cond.code yX10_passedBy cX10_passedBy 4 (some .int) ∈ BW := bw_5 (List.mem_of_getElem? (i := 115) rfl) rfl
theorem mw_5_116 : Cond.methodLink RX10 149 yX10_placeOf ∈ BW := bw_5 (List.mem_of_getElem? (i := 116) rfl) rfl
theorem mw_5_118 : Cond.instanceMethod yX10_placeOf ∈ BW := bw_5 (List.mem_of_getElem? (i := 118) rfl) rfl
theorem mw_5_119 : Cond.code yX10_placeOf cX10_placeOf 4 (some .int) ∈ BW := bw_5 (List.mem_of_getElem? (i := 119) rfl) rfl
theorem mw_5_120 : Cond.methodLink RX10 143 yX10_orders ∈ BW := bw_5 (List.mem_of_getElem? (i := 120) rfl) rfl
theorem mw_5_122 : Cond.instanceMethod yX10_orders ∈ BW := bw_5 (List.mem_of_getElem? (i := 122) rfl) rfl
theorem mw_5_123 : Cond.code yX10_orders cX10_orders 4 (none : Option Jvm.ClassFile.FieldType) ∈ BW := bw_5 (List.mem_of_getElem? (i := 123) rfl) rfl
theorem mw_5_124 : Cond.methodLink RX10 140 yX10_isAhead ∈ BW := bw_5 (List.mem_of_getElem? (i := 124) rfl) rfl
theorem mw_5_126 : Cond.instanceMethod yX10_isAhead ∈ BW := bw_5 (List.mem_of_getElem? (i := 126) rfl) rfl
theorem mw_5_127 : Cond.code yX10_isAhead cX10_isAhead 3 (some .boolean) ∈ BW := bw_5 (List.mem_of_getElem? (i := 127) rfl) rfl
theorem mw_5_128 : Cond.methodLink RL 101 yX10_has ∈ BW := bw_5 (List.mem_of_getElem? (i := 128) rfl) rfl
theorem mw_5_129 : Cond.instanceMethod yX10_has ∈ BW := bw_5 (List.mem_of_getElem? (i := 129) rfl) rfl
theorem mw_5_130 : Cond.selects RX10 yX10_has yX10_has ∈ BW := bw_5 (List.mem_of_getElem? (i := 130) rfl) rfl
theorem mw_5_131 : Cond.code yX10_has cX10_has 3 (some .boolean) ∈ BW := bw_5 (List.mem_of_getElem? (i := 131) rfl) rfl
theorem mw_5_132 : Cond.methodLink RL 107 yX10_numberOf ∈ BW := bw_5 (List.mem_of_getElem? (i := 132) rfl) rfl
theorem mw_5_133 : Cond.instanceMethod yX10_numberOf ∈ BW := bw_5 (List.mem_of_getElem? (i := 133) rfl) rfl
theorem mw_5_134 : Cond.selects RX10 yX10_numberOf yX10_numberOf ∈ BW := bw_5 (List.mem_of_getElem? (i := 134) rfl) rfl
theorem mw_5_135 : Cond.code yX10_numberOf cX10_numberOf 3 (some .int) ∈ BW := bw_5 (List.mem_of_getElem? (i := 135) rfl) rfl
theorem mw_5_136 : Cond.methodLink RL 115 yX10_hit ∈ BW := bw_5 (List.mem_of_getElem? (i := 136) rfl) rfl
theorem mw_5_137 : Cond.instanceMethod yX10_hit ∈ BW := bw_5 (List.mem_of_getElem? (i := 137) rfl) rfl
theorem mw_5_138 : Cond.selects RX10 yX10_hit yX10_hit ∈ BW := bw_5 (List.mem_of_getElem? (i := 138) rfl) rfl
theorem mw_5_139 : Cond.code yX10_hit cX10_hit 5 (some .int) ∈ BW := bw_5 (List.mem_of_getElem? (i := 139) rfl) rfl
theorem mw_5_140 : Cond.methodLink RL 119 yX10_near ∈ BW := bw_5 (List.mem_of_getElem? (i := 140) rfl) rfl
theorem mw_5_141 : Cond.instanceMethod yX10_near ∈ BW := bw_5 (List.mem_of_getElem? (i := 141) rfl) rfl
theorem mw_5_142 : Cond.selects RX10 yX10_near yX10_near ∈ BW := bw_5 (List.mem_of_getElem? (i := 142) rfl) rfl
theorem mw_5_143 : Cond.code yX10_near cX10_near 4 (some .int) ∈ BW := bw_5 (List.mem_of_getElem? (i := 143) rfl) rfl
theorem mw_5_144 : Cond.methodLink RL 123 yX10_shown ∈ BW := bw_5 (List.mem_of_getElem? (i := 144) rfl) rfl
theorem mw_5_145 : Cond.instanceMethod yX10_shown ∈ BW := bw_5 (List.mem_of_getElem? (i := 145) rfl) rfl
theorem mw_5_146 : Cond.selects RX10 yX10_shown yX10_shown ∈ BW := bw_5 (List.mem_of_getElem? (i := 146) rfl) rfl
theorem mw_5_147 : Cond.code yX10_shown cX10_shown 2 (some .int) ∈ BW := bw_5 (List.mem_of_getElem? (i := 147) rfl) rfl
theorem mw_5_148 : Cond.methodLink RX10 158 yX10_shownOf ∈ BW := bw_5 (List.mem_of_getElem? (i := 148) rfl) rfl
theorem mw_5_150 : Cond.instanceMethod yX10_shownOf ∈ BW := bw_5 (List.mem_of_getElem? (i := 150) rfl) rfl
theorem mw_5_151 : Cond.code yX10_shownOf cX10_shownOf 4 (some .int) ∈ BW := bw_5 (List.mem_of_getElem? (i := 151) rfl) rfl
theorem mw_5_152 : Cond.methodLink RX10 155 yX10_counts ∈ BW := bw_5 (List.mem_of_getElem? (i := 152) rfl) rfl
theorem mw_5_154 : Cond.instanceMethod yX10_counts ∈ BW := bw_5 (List.mem_of_getElem? (i := 154) rfl) rfl
theorem mw_5_155 : Cond.code yX10_counts cX10_counts 3 (some .boolean) ∈ BW := bw_5 (List.mem_of_getElem? (i := 155) rfl) rfl
theorem mw_5_156 : Cond.methodLink RX10 152 yX10_lifted ∈ BW := bw_5 (List.mem_of_getElem? (i := 156) rfl) rfl
theorem mw_5_158 : Cond.instanceMethod yX10_lifted ∈ BW := bw_5 (List.mem_of_getElem? (i := 158) rfl) rfl
theorem mw_5_159 : Cond.code yX10_lifted cX10_lifted 2 (some .int) ∈ BW := bw_5 (List.mem_of_getElem? (i := 159) rfl) rfl
theorem mw_5_160 : Cond.methodLink RL 127 yX10_shownMissing ∈ BW := bw_5 (List.mem_of_getElem? (i := 160) rfl) rfl
theorem mw_5_161 : Cond.instanceMethod yX10_shownMissing ∈ BW := bw_5 (List.mem_of_getElem? (i := 161) rfl) rfl
theorem mw_5_162 : Cond.selects RX10 yX10_shownMissing yX10_shownMissing ∈ BW := bw_5 (List.mem_of_getElem? (i := 162) rfl) rfl
theorem mw_5_163 : Cond.code yX10_shownMissing cX10_shownMissing 4 (some .int) ∈ BW := bw_5 (List.mem_of_getElem? (i := 163) rfl) rfl
theorem mw_5_164 : Cond.methodLink RL 131 yX10_click ∈ BW := bw_5 (List.mem_of_getElem? (i := 164) rfl) rfl
theorem mw_5_165 : Cond.instanceMethod yX10_click ∈ BW := bw_5 (List.mem_of_getElem? (i := 165) rfl) rfl
theorem mw_5_166 : Cond.selects RX10 yX10_click yX10_click ∈ BW := bw_5 (List.mem_of_getElem? (i := 166) rfl) rfl
theorem mw_5_167 : Cond.code yX10_click cX10_click 3 (some .int) ∈ BW := bw_5 (List.mem_of_getElem? (i := 167) rfl) rfl
theorem mw_5_168 : Cond.methodLink RX10 161 yX10_hitsBy ∈ BW := bw_5 (List.mem_of_getElem? (i := 168) rfl) rfl
theorem mw_5_170 : Cond.instanceMethod yX10_hitsBy ∈ BW := bw_5 (List.mem_of_getElem? (i := 170) rfl) rfl
theorem mw_5_171 : Cond.code yX10_hitsBy cX10_hitsBy 4 (some .int) ∈ BW := bw_5 (List.mem_of_getElem? (i := 171) rfl) rfl
theorem mw_5_172 : Cond.methodLink RL 135 yX10_lift ∈ BW := bw_5 (List.mem_of_getElem? (i := 172) rfl) rfl
theorem mw_5_173 : Cond.instanceMethod yX10_lift ∈ BW := bw_5 (List.mem_of_getElem? (i := 173) rfl) rfl
theorem mw_5_174 : Cond.selects RX10 yX10_lift yX10_lift ∈ BW := bw_5 (List.mem_of_getElem? (i := 174) rfl) rfl
theorem mw_5_175 : Cond.code yX10_lift cX10_lift 3 (some .int) ∈ BW := bw_5 (List.mem_of_getElem? (i := 175) rfl) rfl
theorem mw_5_176 : Cond.methodLink RL 139 yX10_sums ∈ BW := bw_5 (List.mem_of_getElem? (i := 176) rfl) rfl
theorem mw_5_177 : Cond.instanceMethod yX10_sums ∈ BW := bw_5 (List.mem_of_getElem? (i := 177) rfl) rfl
theorem mw_5_178 : Cond.selects RX10 yX10_sums yX10_sums ∈ BW := bw_5 (List.mem_of_getElem? (i := 178) rfl) rfl
theorem mw_5_179 : Cond.code yX10_sums cX10_sums 5 (some .int) ∈ BW := bw_5 (List.mem_of_getElem? (i := 179) rfl) rfl
theorem mw_5_180 : Cond.methodLink RX10 164 yX10_ownOf ∈ BW := bw_5 (List.mem_of_getElem? (i := 180) rfl) rfl
theorem mw_5_182 : Cond.instanceMethod yX10_ownOf ∈ BW := bw_5 (List.mem_of_getElem? (i := 182) rfl) rfl
theorem mw_5_183 : Cond.code yX10_ownOf cX10_ownOf 4 (some .int) ∈ BW := bw_5 (List.mem_of_getElem? (i := 183) rfl) rfl
theorem mw_5_184 : Cond.methodLink RL 144 yX10_sets ∈ BW := bw_5 (List.mem_of_getElem? (i := 184) rfl) rfl
theorem mw_5_185 : Cond.instanceMethod yX10_sets ∈ BW := bw_5 (List.mem_of_getElem? (i := 185) rfl) rfl
theorem mw_5_186 : Cond.selects RX10 yX10_sets yX10_sets ∈ BW := bw_5 (List.mem_of_getElem? (i := 186) rfl) rfl
theorem mw_5_187 : Cond.code yX10_sets cX10_sets 7 (some .long) ∈ BW := bw_5 (List.mem_of_getElem? (i := 187) rfl) rfl
theorem mw_5_188 : Cond.methodLink RX10 167 yX10_isLeaf ∈ BW := bw_5 (List.mem_of_getElem? (i := 188) rfl) rfl
theorem mw_5_190 : Cond.instanceMethod yX10_isLeaf ∈ BW := bw_5 (List.mem_of_getElem? (i := 190) rfl) rfl
theorem mw_5_191 : Cond.code yX10_isLeaf cX10_isLeaf 4 (some .boolean) ∈ BW := bw_5 (List.mem_of_getElem? (i := 191) rfl) rfl
theorem mw_5_192 : Cond.methodLink RL 148 yX10_bin ∈ BW := bw_5 (List.mem_of_getElem? (i := 192) rfl) rfl
theorem mw_5_193 : Cond.instanceMethod yX10_bin ∈ BW := bw_5 (List.mem_of_getElem? (i := 193) rfl) rfl
theorem mw_5_194 : Cond.selects RX10 yX10_bin yX10_bin ∈ BW := bw_5 (List.mem_of_getElem? (i := 194) rfl) rfl
theorem mw_5_195 : Cond.code yX10_bin cX10_bin 6 (some .int) ∈ BW := bw_5 (List.mem_of_getElem? (i := 195) rfl) rfl
theorem mw_5_196 : Cond.methodLink RX10 176 yX10_isCut ∈ BW := bw_5 (List.mem_of_getElem? (i := 196) rfl) rfl
theorem mw_5_198 : Cond.instanceMethod yX10_isCut ∈ BW := bw_5 (List.mem_of_getElem? (i := 198) rfl) rfl
theorem mw_5_199 : Cond.code yX10_isCut cX10_isCut 3 (some .boolean) ∈ BW := bw_5 (List.mem_of_getElem? (i := 199) rfl) rfl
theorem mw_5_200 : Cond.methodLink RX10 179 yX10_binsOf ∈ BW := bw_5 (List.mem_of_getElem? (i := 200) rfl) rfl
theorem mw_5_202 : Cond.instanceMethod yX10_binsOf ∈ BW := bw_5 (List.mem_of_getElem? (i := 202) rfl) rfl
theorem mw_5_203 : Cond.code yX10_binsOf cX10_binsOf 9 (some .int) ∈ BW := bw_5 (List.mem_of_getElem? (i := 203) rfl) rfl
theorem mw_5_204 : Cond.methodLink RX10 173 yX10_numbersOf ∈ BW := bw_5 (List.mem_of_getElem? (i := 204) rfl) rfl
theorem mw_5_206 : Cond.instanceMethod yX10_numbersOf ∈ BW := bw_5 (List.mem_of_getElem? (i := 206) rfl) rfl
theorem mw_5_207 : Cond.code yX10_numbersOf cX10_numbersOf 4 (none : Option Jvm.ClassFile.FieldType) ∈ BW := bw_5 (List.mem_of_getElem? (i := 207) rfl) rfl
theorem mw_5_208 : Cond.methodLink RL 152 yX10_bins ∈ BW := bw_5 (List.mem_of_getElem? (i := 208) rfl) rfl
theorem mw_5_209 : Cond.instanceMethod yX10_bins ∈ BW := bw_5 (List.mem_of_getElem? (i := 209) rfl) rfl
theorem mw_5_210 : Cond.selects RX10 yX10_bins yX10_bins ∈ BW := bw_5 (List.mem_of_getElem? (i := 210) rfl) rfl
theorem mw_5_211 : Cond.code yX10_bins cX10_bins 3 (some .int) ∈ BW := bw_5 (List.mem_of_getElem? (i := 211) rfl) rfl
theorem mw_5_212 : Cond.methodLink RL 156 yX10_even ∈ BW := bw_5 (List.mem_of_getElem? (i := 212) rfl) rfl
theorem mw_5_213 : Cond.instanceMethod yX10_even ∈ BW := bw_5 (List.mem_of_getElem? (i := 213) rfl) rfl
theorem mw_5_214 : Cond.selects RX10 yX10_even yX10_even ∈ BW := bw_5 (List.mem_of_getElem? (i := 214) rfl) rfl
theorem mw_5_215 : Cond.code yX10_even cX10_even 4 (some .int) ∈ BW := bw_5 (List.mem_of_getElem? (i := 215) rfl) rfl
theorem mw_5_216 : Cond.methodLink RX10 183 yX10_rowsBy ∈ BW := bw_5 (List.mem_of_getElem? (i := 216) rfl) rfl
theorem mw_5_218 : Cond.instanceMethod yX10_rowsBy ∈ BW := bw_5 (List.mem_of_getElem? (i := 218) rfl) rfl
theorem mw_5_219 : Cond.code yX10_rowsBy cX10_rowsBy 5 (some .int) ∈ BW := bw_5 (List.mem_of_getElem? (i := 219) rfl) rfl
theorem mw_5_220 : Cond.methodLink RL 160 yX10_top ∈ BW := bw_5 (List.mem_of_getElem? (i := 220) rfl) rfl
theorem mw_5_221 : Cond.instanceMethod yX10_top ∈ BW := bw_5 (List.mem_of_getElem? (i := 221) rfl) rfl
theorem mw_5_222 : Cond.selects RX10 yX10_top yX10_top ∈ BW := bw_5 (List.mem_of_getElem? (i := 222) rfl) rfl
theorem mw_5_223 : Cond.code yX10_top cX10_top 5 (some .int) ∈ BW := bw_5 (List.mem_of_getElem? (i := 223) rfl) rfl
theorem mw_5_224 : Cond.methodLink RX10 190 yX10_tells ∈ BW := bw_5 (List.mem_of_getElem? (i := 224) rfl) rfl
theorem mw_5_226 : Cond.instanceMethod yX10_tells ∈ BW := bw_5 (List.mem_of_getElem? (i := 226) rfl) rfl
theorem mw_5_227 : Cond.code yX10_tells cX10_tells 3 (none : Option Jvm.ClassFile.FieldType) ∈ BW := bw_5 (List.mem_of_getElem? (i := 227) rfl) rfl
theorem mw_5_228 : Cond.methodLink RX10 194 yX10_aheadOf ∈ BW := bw_5 (List.mem_of_getElem? (i := 228) rfl) rfl
theorem mw_5_230 : Cond.instanceMethod yX10_aheadOf ∈ BW := bw_5 (List.mem_of_getElem? (i := 230) rfl) rfl
theorem mw_5_231 : Cond.code yX10_aheadOf cX10_aheadOf 4 (some .int) ∈ BW := bw_5 (List.mem_of_getElem? (i := 231) rfl) rfl
theorem mw_5_232 : Cond.methodLink RX10 186 yX10_isBetter ∈ BW := bw_5 (List.mem_of_getElem? (i := 232) rfl) rfl
theorem mw_5_233 : Cond.static yX10_isBetter ∈ BW := bw_5 (List.mem_of_getElem? (i := 233) rfl) rfl
theorem mw_5_234 : Cond.code yX10_isBetter cX10_isBetter 4 (some .boolean) ∈ BW := bw_5 (List.mem_of_getElem? (i := 234) rfl) rfl
theorem mw_5_235 : Cond.methodLink RL 164 yX10_read ∈ BW := bw_5 (List.mem_of_getElem? (i := 235) rfl) rfl
theorem mw_5_236 : Cond.instanceMethod yX10_read ∈ BW := bw_5 (List.mem_of_getElem? (i := 236) rfl) rfl
theorem mw_5_237 : Cond.selects RX10 yX10_read yX10_read ∈ BW := bw_5 (List.mem_of_getElem? (i := 237) rfl) rfl
theorem mw_5_238 : Cond.code yX10_read cX10_read 5 (some .int) ∈ BW := bw_5 (List.mem_of_getElem? (i := 238) rfl) rfl
theorem mw_5_239 : Cond.methodLink RX10 197 yX10_isCertain ∈ BW := bw_5 (List.mem_of_getElem? (i := 239) rfl) rfl
theorem mw_6_1 : Cond.instanceMethod yX10_isCertain ∈ BW := bw_6 (List.mem_of_getElem? (i := 1) rfl) rfl
theorem mw_6_2 : Cond.code yX10_isCertain cX10_isCertain 8 (some .boolean) ∈ BW := bw_6 (List.mem_of_getElem? (i := 2) rfl) rfl
theorem mw_6_3 : Cond.methodLink RL 168 yX10_path ∈ BW := bw_6 (List.mem_of_getElem? (i := 3) rfl) rfl
theorem mw_6_4 : Cond.instanceMethod yX10_path ∈ BW := bw_6 (List.mem_of_getElem? (i := 4) rfl) rfl
theorem mw_6_5 : Cond.selects RX10 yX10_path yX10_path ∈ BW := bw_6 (List.mem_of_getElem? (i := 5) rfl) rfl
theorem mw_6_6 : Cond.code yX10_path cX10_path 5 (some .int) ∈ BW := bw_6 (List.mem_of_getElem? (i := 6) rfl) rfl
theorem mw_6_7 : Cond.methodLink RX10 200 yX10_bestBelow ∈ BW := bw_6 (List.mem_of_getElem? (i := 7) rfl) rfl
theorem mw_6_9 : Cond.instanceMethod yX10_bestBelow ∈ BW := bw_6 (List.mem_of_getElem? (i := 9) rfl) rfl
theorem mw_6_10 : Cond.code yX10_bestBelow cX10_bestBelow 6 (some .int) ∈ BW := bw_6 (List.mem_of_getElem? (i := 10) rfl) rfl
theorem mw_6_11 : Cond.methodLink RL 172 yX10_split ∈ BW := bw_6 (List.mem_of_getElem? (i := 11) rfl) rfl
theorem mw_6_12 : Cond.instanceMethod yX10_split ∈ BW := bw_6 (List.mem_of_getElem? (i := 12) rfl) rfl
theorem mw_6_13 : Cond.selects RX10 yX10_split yX10_split ∈ BW := bw_6 (List.mem_of_getElem? (i := 13) rfl) rfl
theorem mw_6_14 : Cond.code yX10_split cX10_split 6 (some .int) ∈ BW := bw_6 (List.mem_of_getElem? (i := 14) rfl) rfl
theorem mw_6_15 : Cond.methodLink RX10 203 yX10_apart ∈ BW := bw_6 (List.mem_of_getElem? (i := 15) rfl) rfl
theorem mw_6_16 : Cond.static yX10_apart ∈ BW := bw_6 (List.mem_of_getElem? (i := 16) rfl) rfl
theorem mw_6_17 : Cond.code yX10_apart cX10_apart 2 (some .int) ∈ BW := bw_6 (List.mem_of_getElem? (i := 17) rfl) rfl
theorem mw_6_18 : Cond.methodLink RL 176 yX10_cover ∈ BW := bw_6 (List.mem_of_getElem? (i := 18) rfl) rfl
theorem mw_6_19 : Cond.instanceMethod yX10_cover ∈ BW := bw_6 (List.mem_of_getElem? (i := 19) rfl) rfl
theorem mw_6_20 : Cond.selects RX10 yX10_cover yX10_cover ∈ BW := bw_6 (List.mem_of_getElem? (i := 20) rfl) rfl
theorem mw_6_21 : Cond.code yX10_cover cX10_cover 7 (some .int) ∈ BW := bw_6 (List.mem_of_getElem? (i := 21) rfl) rfl
theorem mw_6_22 : Cond.methodLink RX10 215 yX10_coverers ∈ BW := bw_6 (List.mem_of_getElem? (i := 22) rfl) rfl
theorem mw_6_24 : Cond.instanceMethod yX10_coverers ∈ BW := bw_6 (List.mem_of_getElem? (i := 24) rfl) rfl
theorem mw_6_25 : Cond.code yX10_coverers cX10_coverers 4 (some .int) ∈ BW := bw_6 (List.mem_of_getElem? (i := 25) rfl) rfl
theorem mw_6_26 : Cond.methodLink RX10 218 yX10_bestCover ∈ BW := bw_6 (List.mem_of_getElem? (i := 26) rfl) rfl
theorem mw_6_28 : Cond.instanceMethod yX10_bestCover ∈ BW := bw_6 (List.mem_of_getElem? (i := 28) rfl) rfl
theorem mw_6_29 : Cond.code yX10_bestCover cX10_bestCover 6 (some .int) ∈ BW := bw_6 (List.mem_of_getElem? (i := 29) rfl) rfl
theorem mw_6_30 : Cond.methodLink RX10 206 yX10_manyOf ∈ BW := bw_6 (List.mem_of_getElem? (i := 30) rfl) rfl
theorem mw_6_31 : Cond.static yX10_manyOf ∈ BW := bw_6 (List.mem_of_getElem? (i := 31) rfl) rfl
theorem mw_6_32 : Cond.code yX10_manyOf cX10_manyOf 3 (some .int) ∈ BW := bw_6 (List.mem_of_getElem? (i := 32) rfl) rfl
theorem mw_6_33 : Cond.methodLink RX10 209 yX10_isFirst ∈ BW := bw_6 (List.mem_of_getElem? (i := 33) rfl) rfl
theorem mw_6_34 : Cond.static yX10_isFirst ∈ BW := bw_6 (List.mem_of_getElem? (i := 34) rfl) rfl
theorem mw_6_35 : Cond.code yX10_isFirst cX10_isFirst 3 (some .boolean) ∈ BW := bw_6 (List.mem_of_getElem? (i := 35) rfl) rfl
theorem mw_6_36 : Cond.methodLink RX10 212 yX10_isCovered ∈ BW := bw_6 (List.mem_of_getElem? (i := 36) rfl) rfl
theorem mw_6_38 : Cond.instanceMethod yX10_isCovered ∈ BW := bw_6 (List.mem_of_getElem? (i := 38) rfl) rfl
theorem mw_6_39 : Cond.code yX10_isCovered cX10_isCovered 8 (some .boolean) ∈ BW := bw_6 (List.mem_of_getElem? (i := 39) rfl) rfl
theorem mw_6_40 : Cond.methodLink RL 180 yX10_both ∈ BW := bw_6 (List.mem_of_getElem? (i := 40) rfl) rfl
theorem mw_6_41 : Cond.instanceMethod yX10_both ∈ BW := bw_6 (List.mem_of_getElem? (i := 41) rfl) rfl
theorem mw_6_42 : Cond.selects RX10 yX10_both yX10_both ∈ BW := bw_6 (List.mem_of_getElem? (i := 42) rfl) rfl
theorem mw_6_43 : Cond.code yX10_both cX10_both 5 (some .int) ∈ BW := bw_6 (List.mem_of_getElem? (i := 43) rfl) rfl
theorem mw_6_44 : Cond.methodLink RL 184 yX10_alike ∈ BW := bw_6 (List.mem_of_getElem? (i := 44) rfl) rfl
theorem mw_6_45 : Cond.instanceMethod yX10_alike ∈ BW := bw_6 (List.mem_of_getElem? (i := 45) rfl) rfl
theorem mw_6_46 : Cond.selects RX10 yX10_alike yX10_alike ∈ BW := bw_6 (List.mem_of_getElem? (i := 46) rfl) rfl
theorem mw_6_47 : Cond.code yX10_alike cX10_alike 3 (some .int) ∈ BW := bw_6 (List.mem_of_getElem? (i := 47) rfl) rfl
theorem mw_6_48 : Cond.methodLink RX10 221 yX10_alikeOf ∈ BW := bw_6 (List.mem_of_getElem? (i := 48) rfl) rfl
theorem mw_6_50 : Cond.instanceMethod yX10_alikeOf ∈ BW := bw_6 (List.mem_of_getElem? (i := 50) rfl) rfl
theorem mw_6_51 : Cond.code yX10_alikeOf cX10_alikeOf 5 (some .int) ∈ BW := bw_6 (List.mem_of_getElem? (i := 51) rfl) rfl
theorem mw_6_52 : Cond.methodLink RL 188 yX10_nearest ∈ BW := bw_6 (List.mem_of_getElem? (i := 52) rfl) rfl
theorem mw_6_53 : Cond.instanceMethod yX10_nearest ∈ BW := bw_6 (List.mem_of_getElem? (i := 53) rfl) rfl
theorem mw_6_54 : Cond.selects RX10 yX10_nearest yX10_nearest ∈ BW := bw_6 (List.mem_of_getElem? (i := 54) rfl) rfl
theorem mw_6_55 : Cond.code yX10_nearest cX10_nearest 5 (some .int) ∈ BW := bw_6 (List.mem_of_getElem? (i := 55) rfl) rfl
theorem mw_6_56 : Cond.methodLink RL 192 yX10_miss ∈ BW := bw_6 (List.mem_of_getElem? (i := 56) rfl) rfl
theorem mw_6_57 : Cond.instanceMethod yX10_miss ∈ BW := bw_6 (List.mem_of_getElem? (i := 57) rfl) rfl
theorem mw_6_58 : Cond.selects RX10 yX10_miss yX10_miss ∈ BW := bw_6 (List.mem_of_getElem? (i := 58) rfl) rfl
theorem mw_6_59 : Cond.code yX10_miss cX10_miss 6 (some .int) ∈ BW := bw_6 (List.mem_of_getElem? (i := 59) rfl) rfl
theorem mw_6_60 : Cond.methodLink RL 196 yX10_most ∈ BW := bw_6 (List.mem_of_getElem? (i := 60) rfl) rfl
theorem mw_6_61 : Cond.instanceMethod yX10_most ∈ BW := bw_6 (List.mem_of_getElem? (i := 61) rfl) rfl
theorem mw_6_62 : Cond.selects RX10 yX10_most yX10_most ∈ BW := bw_6 (List.mem_of_getElem? (i := 62) rfl) rfl
theorem mw_6_63 : Cond.code yX10_most cX10_most 4 (some .int) ∈ BW := bw_6 (List.mem_of_getElem? (i := 63) rfl) rfl
theorem mw_6_64 : Cond.methodLink RL 199 yX10_middle ∈ BW := bw_6 (List.mem_of_getElem? (i := 64) rfl) rfl
theorem mw_6_65 : Cond.instanceMethod yX10_middle ∈ BW := bw_6 (List.mem_of_getElem? (i := 65) rfl) rfl
theorem mw_6_66 : Cond.selects RX10 yX10_middle yX10_middle ∈ BW := bw_6 (List.mem_of_getElem? (i := 66) rfl) rfl
theorem mw_6_67 : Cond.code yX10_middle cX10_middle 4 (some .int) ∈ BW := bw_6 (List.mem_of_getElem? (i := 67) rfl) rfl
theorem mw_6_68 : Cond.methodLink RX10 224 yX10_numberedAt ∈ BW := bw_6 (List.mem_of_getElem? (i := 68) rfl) rfl
theorem mw_6_70 : Cond.instanceMethod yX10_numberedAt ∈ BW := bw_6 (List.mem_of_getElem? (i := 70) rfl) rfl
theorem mw_6_71 : Cond.code yX10_numberedAt cX10_numberedAt 4 (some .int) ∈ BW := bw_6 (List.mem_of_getElem? (i := 71) rfl) rfl
theorem mw_6_72 : Cond.methodLink RL 203 yX10_count ∈ BW := bw_6 (List.mem_of_getElem? (i := 72) rfl) rfl
theorem mw_6_73 : Cond.instanceMethod yX10_count ∈ BW := bw_6 (List.mem_of_getElem? (i := 73) rfl) rfl
theorem mw_6_74 : Cond.selects RX10 yX10_count yX10_count ∈ BW := bw_6 (List.mem_of_getElem? (i := 74) rfl) rfl
theorem mw_6_75 : Cond.code yX10_count cX10_count 4 (some .int) ∈ BW := bw_6 (List.mem_of_getElem? (i := 75) rfl) rfl
theorem mp_0 : Cond.selects RX7 yX7_inRanges yX7_inRanges ∈ BW := bw_p (List.mem_of_getElem? (i := 0) rfl) rfl
theorem mp_1 : Cond.selects RX9 yX9_canStandBelow yX9_canStandBelow ∈ BW := bw_p (List.mem_of_getElem? (i := 1) rfl) rfl
theorem mp_2 : Cond.selects RX2 yX2_hangUnder yX2_hangUnder ∈ BW := bw_p (List.mem_of_getElem? (i := 2) rfl) rfl
theorem mp_3 : Cond.selects RX2 yX2_gather yX2_gather ∈ BW := bw_p (List.mem_of_getElem? (i := 3) rfl) rfl
theorem mp_4 : Cond.selects RX2 yX2_taggedIn yX2_taggedIn ∈ BW := bw_p (List.mem_of_getElem? (i := 4) rfl) rfl
theorem mp_5 : Cond.selects RX3 yX3_rise yX3_rise ∈ BW := bw_p (List.mem_of_getElem? (i := 5) rfl) rfl
theorem mp_6 : Cond.selects RX3 yX3_isAhead yX3_isAhead ∈ BW := bw_p (List.mem_of_getElem? (i := 6) rfl) rfl
theorem mp_7 : Cond.selects RX9 yX9_hasNumber yX9_hasNumber ∈ BW := bw_p (List.mem_of_getElem? (i := 7) rfl) rfl
theorem mp_8 : Cond.selects RX9 yX9_canBin yX9_canBin ∈ BW := bw_p (List.mem_of_getElem? (i := 8) rfl) rfl
theorem mp_9 : Cond.selects RX9 yX9_fillRow yX9_fillRow ∈ BW := bw_p (List.mem_of_getElem? (i := 9) rfl) rfl
theorem mp_10 : Cond.selects RX4 yX4_fits yX4_fits ∈ BW := bw_p (List.mem_of_getElem? (i := 10) rfl) rfl
theorem mp_11 : Cond.selects RX4 yX4_endOfRow yX4_endOfRow ∈ BW := bw_p (List.mem_of_getElem? (i := 11) rfl) rfl
theorem mp_12 : Cond.selects RX9 yX9_startReading yX9_startReading ∈ BW := bw_p (List.mem_of_getElem? (i := 12) rfl) rfl
theorem mp_13 : Cond.selects RX9 yX9_readOne yX9_readOne ∈ BW := bw_p (List.mem_of_getElem? (i := 13) rfl) rfl
theorem mp_14 : Cond.selects RX9 yX9_fullestBelow yX9_fullestBelow ∈ BW := bw_p (List.mem_of_getElem? (i := 14) rfl) rfl
theorem mp_15 : Cond.selects RX9 yX9_fillCovering yX9_fillCovering ∈ BW := bw_p (List.mem_of_getElem? (i := 15) rfl) rfl
theorem mp_16 : Cond.selects RX1 yX1_choose yX1_choose ∈ BW := bw_p (List.mem_of_getElem? (i := 16) rfl) rfl
theorem mp_18 : Cond.selects RX10 yX10_isTree yX10_isTree ∈ BW := bw_p (List.mem_of_getElem? (i := 18) rfl) rfl
theorem mp_19 : Cond.selects RX10 yX10_isAxis yX10_isAxis ∈ BW := bw_p (List.mem_of_getElem? (i := 19) rfl) rfl
theorem mp_20 : Cond.selects RX10 yX10_canBe yX10_canBe ∈ BW := bw_p (List.mem_of_getElem? (i := 20) rfl) rfl
theorem mp_21 : Cond.selects RX10 yX10_isCategory yX10_isCategory ∈ BW := bw_p (List.mem_of_getElem? (i := 21) rfl) rfl
theorem mp_22 : Cond.selects RX10 yX10_level yX10_level ∈ BW := bw_p (List.mem_of_getElem? (i := 22) rfl) rfl
theorem mp_23 : Cond.selects RX10 yX10_isIn yX10_isIn ∈ BW := bw_p (List.mem_of_getElem? (i := 23) rfl) rfl
theorem mp_24 : Cond.selects RX10 yX10_owns yX10_owns ∈ BW := bw_p (List.mem_of_getElem? (i := 24) rfl) rfl
theorem mp_25 : Cond.selects RX10 yX10_isThere yX10_isThere ∈ BW := bw_p (List.mem_of_getElem? (i := 25) rfl) rfl
theorem mp_26 : Cond.selects RX10 yX10_isNumber yX10_isNumber ∈ BW := bw_p (List.mem_of_getElem? (i := 26) rfl) rfl
theorem mp_27 : Cond.selects RX10 yX10_isNumbered yX10_isNumbered ∈ BW := bw_p (List.mem_of_getElem? (i := 27) rfl) rfl
theorem mp_28 : Cond.selects RX10 yX10_keeps yX10_keeps ∈ BW := bw_p (List.mem_of_getElem? (i := 28) rfl) rfl
theorem mp_29 : Cond.selects RX10 yX10_copies yX10_copies ∈ BW := bw_p (List.mem_of_getElem? (i := 29) rfl) rfl
theorem mp_30 : Cond.selects RX10 yX10_isOpen yX10_isOpen ∈ BW := bw_p (List.mem_of_getElem? (i := 30) rfl) rfl
theorem mp_31 : Cond.selects RX10 yX10_opens yX10_opens ∈ BW := bw_p (List.mem_of_getElem? (i := 31) rfl) rfl
theorem mp_32 : Cond.selects RX10 yX10_isNear yX10_isNear ∈ BW := bw_p (List.mem_of_getElem? (i := 32) rfl) rfl
theorem mp_33 : Cond.selects RX10 yX10_passes yX10_passes ∈ BW := bw_p (List.mem_of_getElem? (i := 33) rfl) rfl
theorem mp_34 : Cond.selects RX10 yX10_hasIt yX10_hasIt ∈ BW := bw_p (List.mem_of_getElem? (i := 34) rfl) rfl
theorem mp_35 : Cond.selects RX10 yX10_isMissing yX10_isMissing ∈ BW := bw_p (List.mem_of_getElem? (i := 35) rfl) rfl
theorem mp_36 : Cond.selects RX10 yX10_isRanged yX10_isRanged ∈ BW := bw_p (List.mem_of_getElem? (i := 36) rfl) rfl
theorem mp_37 : Cond.selects RX10 yX10_passedBy yX10_passedBy ∈ BW := bw_p (List.mem_of_getElem? (i := 37) rfl) rfl
theorem mp_38 : Cond.selects RX10 yX10_placeOf yX10_placeOf ∈ BW := bw_p (List.mem_of_getElem? (i := 38) rfl) rfl
theorem mp_39 : Cond.selects RX10 yX10_orders yX10_orders ∈ BW := bw_p (List.mem_of_getElem? (i := 39) rfl) rfl
theorem mp_40 : Cond.selects RX10 yX10_isAhead yX10_isAhead ∈ BW := bw_p (List.mem_of_getElem? (i := 40) rfl) rfl
theorem mp_41 : Cond.selects RX10 yX10_shownOf yX10_shownOf ∈ BW := bw_p (List.mem_of_getElem? (i := 41) rfl) rfl
theorem mp_42 : Cond.selects RX10 yX10_counts yX10_counts ∈ BW := bw_p (List.mem_of_getElem? (i := 42) rfl) rfl
theorem mp_43 : Cond.selects RX10 yX10_lifted yX10_lifted ∈ BW := bw_p (List.mem_of_getElem? (i := 43) rfl) rfl
theorem mp_44 : Cond.selects RX10 yX10_hitsBy yX10_hitsBy ∈ BW := bw_p (List.mem_of_getElem? (i := 44) rfl) rfl
theorem mp_45 : Cond.selects RX10 yX10_ownOf yX10_ownOf ∈ BW := bw_p (List.mem_of_getElem? (i := 45) rfl) rfl
theorem mp_46 : Cond.selects RX10 yX10_isLeaf yX10_isLeaf ∈ BW := bw_p (List.mem_of_getElem? (i := 46) rfl) rfl
theorem mp_47 : Cond.selects RX10 yX10_isCut yX10_isCut ∈ BW := bw_p (List.mem_of_getElem? (i := 47) rfl) rfl
theorem mp_48 : Cond.selects RX10 yX10_binsOf yX10_binsOf ∈ BW := bw_p (List.mem_of_getElem? (i := 48) rfl) rfl
theorem mp_49 : Cond.selects RX10 yX10_numbersOf yX10_numbersOf ∈ BW := bw_p (List.mem_of_getElem? (i := 49) rfl) rfl
theorem mp_50 : Cond.selects RX10 yX10_rowsBy yX10_rowsBy ∈ BW := bw_p (List.mem_of_getElem? (i := 50) rfl) rfl
theorem mp_51 : Cond.selects RX10 yX10_tells yX10_tells ∈ BW := bw_p (List.mem_of_getElem? (i := 51) rfl) rfl
theorem mp_52 : Cond.selects RX10 yX10_aheadOf yX10_aheadOf ∈ BW := bw_p (List.mem_of_getElem? (i := 52) rfl) rfl
theorem mp_53 : Cond.selects RX10 yX10_isCertain yX10_isCertain ∈ BW := bw_p (List.mem_of_getElem? (i := 53) rfl) rfl
theorem mp_54 : Cond.selects RX10 yX10_bestBelow yX10_bestBelow ∈ BW := bw_p (List.mem_of_getElem? (i := 54) rfl) rfl
theorem mp_55 : Cond.selects RX10 yX10_coverers yX10_coverers ∈ BW := bw_p (List.mem_of_getElem? (i := 55) rfl) rfl
theorem mp_56 : Cond.selects RX10 yX10_bestCover yX10_bestCover ∈ BW := bw_p (List.mem_of_getElem? (i := 56) rfl) rfl
theorem mp_57 : Cond.selects RX10 yX10_isCovered yX10_isCovered ∈ BW := bw_p (List.mem_of_getElem? (i := 57) rfl) rfl
theorem mp_58 : Cond.selects RX10 yX10_alikeOf yX10_alikeOf ∈ BW := bw_p (List.mem_of_getElem? (i := 58) rfl) rfl
theorem mp_59 : Cond.selects RX10 yX10_numberedAt yX10_numberedAt ∈ BW := bw_p (List.mem_of_getElem? (i := 59) rfl) rfl
theorem inlX0 : ∀ w ∈ u_ws RX0 TX0 4, w ∈ BW := by
  intro w hw
  obtain ⟨k, hk, rfl⟩ := List.mem_map.mp hw
  exact match k, List.mem_range.mp hk with | 0, _ => mw_1_154 | 1, _ => mw_1_156 | 2, _ => mw_1_158 | 3, _ => mw_1_160 | j + 4, h => absurd h (by omega)
theorem inlX1 : ∀ w ∈ u_ws RX1 TX1 5, w ∈ BW := by
  intro w hw
  obtain ⟨k, hk, rfl⟩ := List.mem_map.mp hw
  exact match k, List.mem_range.mp hk with | 0, _ => mw_1_236 | 1, _ => mw_1_238 | 2, _ => mw_2_0 | 3, _ => mw_2_2 | 4, _ => mw_2_4 | j + 5, h => absurd h (by omega)
theorem inlX2 : ∀ w ∈ u_ws RX2 TX2 6, w ∈ BW := by
  intro w hw
  obtain ⟨k, hk, rfl⟩ := List.mem_map.mp hw
  exact match k, List.mem_range.mp hk with | 0, _ => mw_1_47 | 1, _ => mw_1_49 | 2, _ => mw_1_51 | 3, _ => mw_1_53 | 4, _ => mw_1_55 | 5, _ => mw_1_57 | j + 6, h => absurd h (by omega)
theorem inlX3 : ∀ w ∈ u_ws RX3 TX3 3, w ∈ BW := by
  intro w hw
  obtain ⟨k, hk, rfl⟩ := List.mem_map.mp hw
  exact match k, List.mem_range.mp hk with | 0, _ => mw_1_80 | 1, _ => mw_1_82 | 2, _ => mw_1_84 | j + 3, h => absurd h (by omega)
theorem inlX4 : ∀ w ∈ u_ws RX4 TX4 2, w ∈ BW := by
  intro w hw
  obtain ⟨k, hk, rfl⟩ := List.mem_map.mp hw
  exact match k, List.mem_range.mp hk with | 0, _ => mw_1_216 | 1, _ => mw_1_218 | j + 2, h => absurd h (by omega)
theorem inlX5 : ∀ w ∈ u_ws RX5 TX5 5, w ∈ BW := by
  intro w hw
  obtain ⟨k, hk, rfl⟩ := List.mem_map.mp hw
  exact match k, List.mem_range.mp hk with | 0, _ => mw_1_131 | 1, _ => mw_1_133 | 2, _ => mw_1_135 | 3, _ => mw_1_137 | 4, _ => mw_1_139 | j + 5, h => absurd h (by omega)
theorem inlX6 : ∀ w ∈ u_ws RX6 TX6 3, w ∈ BW := by
  intro w hw
  obtain ⟨k, hk, rfl⟩ := List.mem_map.mp hw
  exact match k, List.mem_range.mp hk with | 0, _ => mw_1_94 | 1, _ => mw_1_96 | 2, _ => mw_1_98 | j + 3, h => absurd h (by omega)
theorem inlX7 : ∀ w ∈ u_ws RX7 TX7 5, w ∈ BW := by
  intro w hw
  obtain ⟨k, hk, rfl⟩ := List.mem_map.mp hw
  exact match k, List.mem_range.mp hk with | 0, _ => mw_1_170 | 1, _ => mw_1_172 | 2, _ => mw_1_174 | 3, _ => mw_1_176 | 4, _ => mw_1_178 | j + 5, h => absurd h (by omega)
theorem inlX8 : ∀ w ∈ u_ws RX8 TX8 4, w ∈ BW := by
  intro w hw
  obtain ⟨k, hk, rfl⟩ := List.mem_map.mp hw
  exact match k, List.mem_range.mp hk with | 0, _ => mw_1_195 | 1, _ => mw_1_197 | 2, _ => mw_1_199 | 3, _ => mw_1_201 | j + 4, h => absurd h (by omega)
theorem inlX9 : ∀ w ∈ u_ws RX9 TX9 8, w ∈ BW := by
  intro w hw
  obtain ⟨k, hk, rfl⟩ := List.mem_map.mp hw
  exact match k, List.mem_range.mp hk with | 0, _ => mw_2_15 | 1, _ => mw_2_17 | 2, _ => mw_2_19 | 3, _ => mw_2_21 | 4, _ => mw_2_23 | 5, _ => mw_2_25 | 6, _ => mw_2_27 | 7, _ => mw_2_29 | j + 8, h => absurd h (by omega)
theorem inlX10 : ∀ w ∈ u_ws RX10 TX10 22, w ∈ BW := by
  intro w hw
  obtain ⟨k, hk, rfl⟩ := List.mem_map.mp hw
  exact match k, List.mem_range.mp hk with | 0, _ => mw_4_159 | 1, _ => mw_4_161 | 2, _ => mw_4_163 | 3, _ => mw_4_165 | 4, _ => mw_4_167 | 5, _ => mw_4_169 | 6, _ => mw_4_171 | 7, _ => mw_4_173 | 8, _ => mw_4_175 | 9, _ => mw_4_177 | 10, _ => mw_4_179 | 11, _ => mw_4_181 | 12, _ => mw_4_183 | 13, _ => mw_4_185 | 14, _ => mw_4_187 | 15, _ => mw_4_189 | 16, _ => mw_4_191 | 17, _ => mw_4_193 | 18, _ => mw_4_195 | 19, _ => mw_4_197 | 20, _ => mw_4_199 | 21, _ => mw_4_201 | j + 22, h => absurd h (by omega)
