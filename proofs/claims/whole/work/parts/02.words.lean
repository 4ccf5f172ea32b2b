def wsG : List Cond := lw_tbl.filter goodWord
theorem wg_mem {w : Cond} (h : w ∈ tables_1) (g : goodWord w = true) : w ∈ wsG := List.mem_filter.mpr ⟨List.mem_append_right _ h, g⟩
theorem wg_sel {w : Cond} (h : w ∈ k2_sels lw_privs) (g : goodWord w = true) : w ∈ wsG := List.mem_filter.mpr ⟨List.mem_append_left _ h, g⟩
theorem wg_in : ∀ w ∈ wsG, w ∈ lw_tbl := fun _ h => (List.mem_filter.mp h).1
theorem wg_good {w : Cond} (h : w ∈ wsG) : (w.onTables && w.keeps) = true ∨ ∃ ty, w = .arrayClass ty := good_of_word (List.mem_filter.mp h).2
theorem wg1 {w : Cond} (h : w ∈ tables_1_1) (g : goodWord w = true) : w ∈ wsG := wg_mem (List.mem_append_left _ h) g
theorem wg2 {w : Cond} (h : w ∈ tables_1_2) (g : goodWord w = true) : w ∈ wsG := wg_mem (List.mem_append_right _ (List.mem_append_left _ h)) g
theorem wg3 {w : Cond} (h : w ∈ tables_1_3) (g : goodWord w = true) : w ∈ wsG := wg_mem (List.mem_append_right _ (List.mem_append_right _ (List.mem_append_left _ h))) g
theorem wg4 {w : Cond} (h : w ∈ tables_1_4) (g : goodWord w = true) : w ∈ wsG := wg_mem (List.mem_append_right _ (List.mem_append_right _ (List.mem_append_right _ (List.mem_append_left _ h)))) g
theorem wg5 {w : Cond} (h : w ∈ tables_1_5) (g : goodWord w = true) : w ∈ wsG := wg_mem (List.mem_append_right _ (List.mem_append_right _ (List.mem_append_right _ (List.mem_append_right _ (List.mem_append_left _ h))))) g
theorem wg6 {w : Cond} (h : w ∈ tables_1_6) (g : goodWord w = true) : w ∈ wsG := wg_mem (List.mem_append_right _ (List.mem_append_right _ (List.mem_append_right _ (List.mem_append_right _ (List.mem_append_right _ h))))) g
theorem q1_0 : (Cond.initialized "SignalsSightedLaw") ∈ wsG := wg1 (List.mem_of_getElem? (i := 0) rfl) rfl
theorem q1_1 : (Cond.initialized "SignalsSighted") ∈ wsG := wg1 (List.mem_of_getElem? (i := 1) rfl) rfl
theorem q1_2 : (Cond.initialized "SignalsSighted$Line") ∈ wsG := wg1 (List.mem_of_getElem? (i := 2) rfl) rfl
theorem q1_3 : (Cond.initialized "SignalsSighted$Places") ∈ wsG := wg1 (List.mem_of_getElem? (i := 3) rfl) rfl
theorem q1_4 : (Cond.initialized "SignalsSighted$Train") ∈ wsG := wg1 (List.mem_of_getElem? (i := 4) rfl) rfl
theorem q1_5 : (Cond.initialized "SignalsSighted$Letters") ∈ wsG := wg1 (List.mem_of_getElem? (i := 5) rfl) rfl
theorem q1_6 : (Cond.initialized "SignalsSighted$Moves") ∈ wsG := wg1 (List.mem_of_getElem? (i := 6) rfl) rfl
theorem q1_7 : (Cond.initialized "SignalsSighted$Shelf") ∈ wsG := wg1 (List.mem_of_getElem? (i := 7) rfl) rfl
theorem q1_8 : (Cond.initialized "SignalsSightedModel") ∈ wsG := wg1 (List.mem_of_getElem? (i := 8) rfl) rfl
theorem q1_9 : (Cond.initialized "java/lang/String") ∈ wsG := wg1 (List.mem_of_getElem? (i := 9) rfl) rfl
theorem q1_10 : (Cond.initialized "java/lang/StringLatin1") ∈ wsG := wg1 (List.mem_of_getElem? (i := 10) rfl) rfl
theorem q1_11 : (Cond.initialized "jdk/internal/util/Preconditions") ∈ wsG := wg1 (List.mem_of_getElem? (i := 11) rfl) rfl
theorem q1_12 : (Cond.initialized "java/lang/StringUTF16") ∈ wsG := wg1 (List.mem_of_getElem? (i := 12) rfl) rfl
theorem q1_13 : (Cond.initialized "java/lang/System") ∈ wsG := wg1 (List.mem_of_getElem? (i := 13) rfl) rfl
theorem q1_14 : (Cond.initialized "java/lang/Math") ∈ wsG := wg1 (List.mem_of_getElem? (i := 14) rfl) rfl
theorem q1_15 : (Cond.initialized "java/lang/Integer") ∈ wsG := wg1 (List.mem_of_getElem? (i := 15) rfl) rfl
theorem q1_16 : (Cond.classLink "SignalsSightedLaw" (7) "SignalsSighted") ∈ wsG := wg1 (List.mem_of_getElem? (i := 16) rfl) rfl
theorem q1_17 : (Cond.instantiable "SignalsSighted" (9)) ∈ wsG := wg1 (List.mem_of_getElem? (i := 17) rfl) rfl
theorem q1_18 : (Cond.methodLink "SignalsSightedLaw" (9) yX6_init) ∈ wsG := wg1 (List.mem_of_getElem? (i := 18) rfl) rfl
theorem q1_19 : (Cond.instanceMethod yX6_init) ∈ wsG := wg1 (List.mem_of_getElem? (i := 19) rfl) rfl
theorem q1_20 : (Cond.code yX6_init prog_1_method_1_code (2) none) ∈ wsG := wg1 (List.mem_of_getElem? (i := 20) rfl) rfl
theorem q1_21 : (Cond.methodLink "SignalsSighted" (1) objectInit) ∈ wsG := wg1 (List.mem_of_getElem? (i := 21) rfl) rfl
theorem q1_22 : (Cond.instanceMethod objectInit) ∈ wsG := wg1 (List.mem_of_getElem? (i := 22) rfl) rfl
theorem q1_23 : (Cond.code objectInit object_method_1_code (1) none) ∈ wsG := wg1 (List.mem_of_getElem? (i := 23) rfl) rfl
theorem q1_24 : (Cond.classLink "SignalsSighted" (7) "SignalsSighted$Line") ∈ wsG := wg1 (List.mem_of_getElem? (i := 24) rfl) rfl
theorem q1_25 : (Cond.instantiable "SignalsSighted$Line" (13)) ∈ wsG := wg1 (List.mem_of_getElem? (i := 25) rfl) rfl
theorem q1_26 : (Cond.methodLink "SignalsSighted" (9) yX1_init) ∈ wsG := wg1 (List.mem_of_getElem? (i := 26) rfl) rfl
theorem q1_27 : (Cond.instanceMethod yX1_init) ∈ wsG := wg1 (List.mem_of_getElem? (i := 27) rfl) rfl
theorem q1_28 : (Cond.code yX1_init prog_3_method_1_code (2) none) ∈ wsG := wg1 (List.mem_of_getElem? (i := 28) rfl) rfl
theorem q1_29 : (Cond.methodLink "SignalsSighted$Line" (3) objectInit) ∈ wsG := wg1 (List.mem_of_getElem? (i := 29) rfl) rfl
theorem q1_30 : (Cond.classLink "SignalsSighted$Line" (43) "SignalsSighted$Train") ∈ wsG := wg1 (List.mem_of_getElem? (i := 30) rfl) rfl
theorem q1_32 : (Cond.classLink "SignalsSighted$Line" (52) "SignalsSighted$Places") ∈ wsG := wg1 (List.mem_of_getElem? (i := 32) rfl) rfl
theorem q1_33 : (Cond.instantiable "SignalsSighted$Places" (4)) ∈ wsG := wg1 (List.mem_of_getElem? (i := 33) rfl) rfl
theorem q1_35 : (Cond.instanceMethod yX3_init) ∈ wsG := wg1 (List.mem_of_getElem? (i := 35) rfl) rfl
theorem q1_36 : (Cond.code yX3_init prog_5_method_1_code (1) none) ∈ wsG := wg1 (List.mem_of_getElem? (i := 36) rfl) rfl
theorem q1_37 : (Cond.methodLink "SignalsSighted$Places" (3) objectInit) ∈ wsG := wg1 (List.mem_of_getElem? (i := 37) rfl) rfl
theorem q1_38 : (Cond.fieldLink "SignalsSighted$Places" (9) "SignalsSighted$Places" "size" "I") ∈ wsG := wg1 (List.mem_of_getElem? (i := 38) rfl) rfl
theorem q1_39 : (Cond.fieldLink "SignalsSighted" (321) "SignalsSighted$Places" "size" "I") ∈ wsG := wg1 (List.mem_of_getElem? (i := 39) rfl) rfl
theorem q1_40 : (Cond.fieldLink "SignalsSighted$Places" (15) "SignalsSighted$Places" "where" "[I") ∈ wsG := wg1 (List.mem_of_getElem? (i := 40) rfl) rfl
theorem q1_41 : (Cond.fieldLink "SignalsSighted" (267) "SignalsSighted$Places" "where" "[I") ∈ wsG := wg1 (List.mem_of_getElem? (i := 41) rfl) rfl
theorem q1_42 : (Cond.fieldLink "SignalsSighted$Places" (19) "SignalsSighted$Places" "lengths" "[I") ∈ wsG := wg1 (List.mem_of_getElem? (i := 42) rfl) rfl
theorem q1_43 : (Cond.fieldLink "SignalsSighted" (261) "SignalsSighted$Places" "lengths" "[I") ∈ wsG := wg1 (List.mem_of_getElem? (i := 43) rfl) rfl
theorem q1_44 : (Cond.fieldLink "SignalsSighted$Places" (22) "SignalsSighted$Places" "names" "[C") ∈ wsG := wg1 (List.mem_of_getElem? (i := 44) rfl) rfl
theorem q1_45 : (Cond.lays "SignalsSighted$Places" "SignalsSighted$Places" "size" "I") ∈ wsG := wg1 (List.mem_of_getElem? (i := 45) rfl) rfl
theorem q1_47 : (Cond.laysFinal "SignalsSighted$Places" "SignalsSighted$Places" "where" "[I") ∈ wsG := wg1 (List.mem_of_getElem? (i := 47) rfl) rfl
theorem q1_49 : (Cond.laysFinal "SignalsSighted$Places" "SignalsSighted$Places" "lengths" "[I") ∈ wsG := wg1 (List.mem_of_getElem? (i := 49) rfl) rfl
theorem q1_51 : (Cond.laysFinal "SignalsSighted$Places" "SignalsSighted$Places" "names" "[C") ∈ wsG := wg1 (List.mem_of_getElem? (i := 51) rfl) rfl
theorem q1_54 : (Cond.arrayClass .int) ∈ wsG := wg1 (List.mem_of_getElem? (i := 54) rfl) rfl
theorem q1_55 : (Cond.arrayClass .char) ∈ wsG := wg1 (List.mem_of_getElem? (i := 55) rfl) rfl
theorem q1_56 : (Cond.instantiable "SignalsSighted$Train" (4)) ∈ wsG := wg1 (List.mem_of_getElem? (i := 56) rfl) rfl
theorem q1_58 : (Cond.instanceMethod yX5_init) ∈ wsG := wg1 (List.mem_of_getElem? (i := 58) rfl) rfl
theorem q1_59 : (Cond.code yX5_init prog_7_method_1_code (1) none) ∈ wsG := wg1 (List.mem_of_getElem? (i := 59) rfl) rfl
theorem q1_60 : (Cond.methodLink "SignalsSighted$Train" (3) objectInit) ∈ wsG := wg1 (List.mem_of_getElem? (i := 60) rfl) rfl
theorem q1_61 : (Cond.fieldLink "SignalsSighted$Train" (9) "SignalsSighted$Train" "kind" "I") ∈ wsG := wg1 (List.mem_of_getElem? (i := 61) rfl) rfl
theorem q1_62 : (Cond.fieldLink "SignalsSighted" (136) "SignalsSighted$Train" "kind" "I") ∈ wsG := wg1 (List.mem_of_getElem? (i := 62) rfl) rfl
theorem q1_63 : (Cond.fieldLink "SignalsSighted$Line" (94) "SignalsSighted$Train" "kind" "I") ∈ wsG := wg1 (List.mem_of_getElem? (i := 63) rfl) rfl
theorem q1_64 : (Cond.fieldLink "SignalsSighted$Train" (15) "SignalsSighted$Train" "figure" "I") ∈ wsG := wg1 (List.mem_of_getElem? (i := 64) rfl) rfl
theorem q1_65 : (Cond.fieldLink "SignalsSighted" (139) "SignalsSighted$Train" "figure" "I") ∈ wsG := wg1 (List.mem_of_getElem? (i := 65) rfl) rfl
theorem q1_66 : (Cond.fieldLink "SignalsSighted$Line" (97) "SignalsSighted$Train" "figure" "I") ∈ wsG := wg1 (List.mem_of_getElem? (i := 66) rfl) rfl
theorem q1_67 : (Cond.fieldLink "SignalsSighted$Train" (18) "SignalsSighted$Train" "slow" "I") ∈ wsG := wg1 (List.mem_of_getElem? (i := 67) rfl) rfl
theorem q1_68 : (Cond.fieldLink "SignalsSighted" (142) "SignalsSighted$Train" "slow" "I") ∈ wsG := wg1 (List.mem_of_getElem? (i := 68) rfl) rfl
theorem q1_69 : (Cond.fieldLink "SignalsSighted$Line" (100) "SignalsSighted$Train" "slow" "I") ∈ wsG := wg1 (List.mem_of_getElem? (i := 69) rfl) rfl
theorem q1_70 : (Cond.fieldLink "SignalsSighted$Train" (21) "SignalsSighted$Train" "way" "I") ∈ wsG := wg1 (List.mem_of_getElem? (i := 70) rfl) rfl
theorem q1_71 : (Cond.fieldLink "SignalsSighted" (145) "SignalsSighted$Train" "way" "I") ∈ wsG := wg1 (List.mem_of_getElem? (i := 71) rfl) rfl
theorem q1_72 : (Cond.fieldLink "SignalsSighted$Line" (103) "SignalsSighted$Train" "way" "I") ∈ wsG := wg1 (List.mem_of_getElem? (i := 72) rfl) rfl
theorem q1_73 : (Cond.lays "SignalsSighted$Train" "SignalsSighted$Train" "kind" "I") ∈ wsG := wg1 (List.mem_of_getElem? (i := 73) rfl) rfl
theorem q1_75 : (Cond.lays "SignalsSighted$Train" "SignalsSighted$Train" "figure" "I") ∈ wsG := wg1 (List.mem_of_getElem? (i := 75) rfl) rfl
theorem q1_77 : (Cond.lays "SignalsSighted$Train" "SignalsSighted$Train" "slow" "I") ∈ wsG := wg1 (List.mem_of_getElem? (i := 77) rfl) rfl
theorem q1_79 : (Cond.lays "SignalsSighted$Train" "SignalsSighted$Train" "way" "I") ∈ wsG := wg1 (List.mem_of_getElem? (i := 79) rfl) rfl
theorem q1_82 : (Cond.fieldLink "SignalsSighted$Line" (9) "SignalsSighted$Line" "cells" "I") ∈ wsG := wg1 (List.mem_of_getElem? (i := 82) rfl) rfl
theorem q1_83 : (Cond.fieldLink "SignalsSighted$Moves" (47) "SignalsSighted$Line" "cells" "I") ∈ wsG := wg1 (List.mem_of_getElem? (i := 83) rfl) rfl
theorem q1_84 : (Cond.fieldLink "SignalsSighted" (230) "SignalsSighted$Line" "cells" "I") ∈ wsG := wg1 (List.mem_of_getElem? (i := 84) rfl) rfl
theorem q1_85 : (Cond.fieldLink "SignalsSighted$Line" (15) "SignalsSighted$Line" "ground" "[I") ∈ wsG := wg1 (List.mem_of_getElem? (i := 85) rfl) rfl
theorem q1_86 : (Cond.fieldLink "SignalsSighted" (154) "SignalsSighted$Line" "ground" "[I") ∈ wsG := wg1 (List.mem_of_getElem? (i := 86) rfl) rfl
theorem q1_87 : (Cond.fieldLink "SignalsSighted$Line" (19) "SignalsSighted$Line" "bridgeCount" "I") ∈ wsG := wg1 (List.mem_of_getElem? (i := 87) rfl) rfl
theorem q1_88 : (Cond.fieldLink "SignalsSighted" (94) "SignalsSighted$Line" "bridgeCount" "I") ∈ wsG := wg1 (List.mem_of_getElem? (i := 88) rfl) rfl
theorem q1_89 : (Cond.fieldLink "SignalsSighted$Line" (22) "SignalsSighted$Line" "bridgeCell" "[I") ∈ wsG := wg1 (List.mem_of_getElem? (i := 89) rfl) rfl
theorem q1_90 : (Cond.fieldLink "SignalsSighted" (111) "SignalsSighted$Line" "bridgeCell" "[I") ∈ wsG := wg1 (List.mem_of_getElem? (i := 90) rfl) rfl
theorem q1_91 : (Cond.fieldLink "SignalsSighted$Line" (25) "SignalsSighted$Line" "low" "[I") ∈ wsG := wg1 (List.mem_of_getElem? (i := 91) rfl) rfl
theorem q1_92 : (Cond.fieldLink "SignalsSighted" (114) "SignalsSighted$Line" "low" "[I") ∈ wsG := wg1 (List.mem_of_getElem? (i := 92) rfl) rfl
theorem q1_93 : (Cond.fieldLink "SignalsSighted$Line" (28) "SignalsSighted$Line" "high" "[I") ∈ wsG := wg1 (List.mem_of_getElem? (i := 93) rfl) rfl
theorem q1_94 : (Cond.fieldLink "SignalsSighted" (117) "SignalsSighted$Line" "high" "[I") ∈ wsG := wg1 (List.mem_of_getElem? (i := 94) rfl) rfl
theorem q1_95 : (Cond.fieldLink "SignalsSighted$Line" (31) "SignalsSighted$Line" "postCount" "I") ∈ wsG := wg1 (List.mem_of_getElem? (i := 95) rfl) rfl
theorem q1_96 : (Cond.fieldLink "SignalsSighted$Moves" (38) "SignalsSighted$Line" "postCount" "I") ∈ wsG := wg1 (List.mem_of_getElem? (i := 96) rfl) rfl
theorem q1_97 : (Cond.fieldLink "SignalsSighted" (201) "SignalsSighted$Line" "postCount" "I") ∈ wsG := wg1 (List.mem_of_getElem? (i := 97) rfl) rfl
theorem q1_98 : (Cond.fieldLink "SignalsSighted$Line" (34) "SignalsSighted$Line" "postCell" "[I") ∈ wsG := wg1 (List.mem_of_getElem? (i := 98) rfl) rfl
theorem q1_99 : (Cond.fieldLink "SignalsSighted$Moves" (44) "SignalsSighted$Line" "postCell" "[I") ∈ wsG := wg1 (List.mem_of_getElem? (i := 99) rfl) rfl
theorem q1_100 : (Cond.fieldLink "SignalsSighted" (123) "SignalsSighted$Line" "postCell" "[I") ∈ wsG := wg1 (List.mem_of_getElem? (i := 100) rfl) rfl
theorem q1_101 : (Cond.fieldLink "SignalsSighted$Line" (37) "SignalsSighted$Line" "tall" "[I") ∈ wsG := wg1 (List.mem_of_getElem? (i := 101) rfl) rfl
theorem q1_102 : (Cond.fieldLink "SignalsSighted$Moves" (50) "SignalsSighted$Line" "tall" "[I") ∈ wsG := wg1 (List.mem_of_getElem? (i := 102) rfl) rfl
theorem q1_103 : (Cond.fieldLink "SignalsSighted" (126) "SignalsSighted$Line" "tall" "[I") ∈ wsG := wg1 (List.mem_of_getElem? (i := 103) rfl) rfl
theorem q1_104 : (Cond.fieldLink "SignalsSighted$Line" (40) "SignalsSighted$Line" "trainCount" "I") ∈ wsG := wg1 (List.mem_of_getElem? (i := 104) rfl) rfl
theorem q1_105 : (Cond.fieldLink "SignalsSighted" (204) "SignalsSighted$Line" "trainCount" "I") ∈ wsG := wg1 (List.mem_of_getElem? (i := 105) rfl) rfl
theorem q1_106 : (Cond.fieldLink "SignalsSighted$Line" (45) "SignalsSighted$Line" "trains" "[LSignalsSighted$Train;") ∈ wsG := wg1 (List.mem_of_getElem? (i := 106) rfl) rfl
theorem q1_107 : (Cond.fieldLink "SignalsSighted" (132) "SignalsSighted$Line" "trains" "[LSignalsSighted$Train;") ∈ wsG := wg1 (List.mem_of_getElem? (i := 107) rfl) rfl
theorem q1_108 : (Cond.fieldLink "SignalsSighted$Line" (49) "SignalsSighted$Line" "need" "I") ∈ wsG := wg1 (List.mem_of_getElem? (i := 108) rfl) rfl
theorem q1_109 : (Cond.fieldLink "SignalsSighted" (211) "SignalsSighted$Line" "need" "I") ∈ wsG := wg1 (List.mem_of_getElem? (i := 109) rfl) rfl
theorem q1_110 : (Cond.fieldLink "SignalsSighted$Line" (55) "SignalsSighted$Line" "places" "LSignalsSighted$Places;") ∈ wsG := wg1 (List.mem_of_getElem? (i := 110) rfl) rfl
theorem q1_111 : (Cond.fieldLink "SignalsSighted$Letters" (126) "SignalsSighted$Line" "places" "LSignalsSighted$Places;") ∈ wsG := wg1 (List.mem_of_getElem? (i := 111) rfl) rfl
theorem q1_112 : (Cond.fieldLink "SignalsSighted" (252) "SignalsSighted$Line" "places" "LSignalsSighted$Places;") ∈ wsG := wg1 (List.mem_of_getElem? (i := 112) rfl) rfl
theorem q1_113 : (Cond.lays "SignalsSighted$Line" "SignalsSighted$Line" "cells" "I") ∈ wsG := wg1 (List.mem_of_getElem? (i := 113) rfl) rfl
theorem q1_115 : (Cond.laysFinal "SignalsSighted$Line" "SignalsSighted$Line" "ground" "[I") ∈ wsG := wg1 (List.mem_of_getElem? (i := 115) rfl) rfl
theorem q1_117 : (Cond.lays "SignalsSighted$Line" "SignalsSighted$Line" "bridgeCount" "I") ∈ wsG := wg1 (List.mem_of_getElem? (i := 117) rfl) rfl
theorem q1_119 : (Cond.laysFinal "SignalsSighted$Line" "SignalsSighted$Line" "bridgeCell" "[I") ∈ wsG := wg1 (List.mem_of_getElem? (i := 119) rfl) rfl
theorem q1_121 : (Cond.laysFinal "SignalsSighted$Line" "SignalsSighted$Line" "low" "[I") ∈ wsG := wg1 (List.mem_of_getElem? (i := 121) rfl) rfl
theorem q1_123 : (Cond.laysFinal "SignalsSighted$Line" "SignalsSighted$Line" "high" "[I") ∈ wsG := wg1 (List.mem_of_getElem? (i := 123) rfl) rfl
theorem q1_125 : (Cond.lays "SignalsSighted$Line" "SignalsSighted$Line" "postCount" "I") ∈ wsG := wg1 (List.mem_of_getElem? (i := 125) rfl) rfl
theorem q1_127 : (Cond.laysFinal "SignalsSighted$Line" "SignalsSighted$Line" "postCell" "[I") ∈ wsG := wg1 (List.mem_of_getElem? (i := 127) rfl) rfl
theorem q1_129 : (Cond.laysFinal "SignalsSighted$Line" "SignalsSighted$Line" "tall" "[I") ∈ wsG := wg1 (List.mem_of_getElem? (i := 129) rfl) rfl
theorem q1_131 : (Cond.lays "SignalsSighted$Line" "SignalsSighted$Line" "trainCount" "I") ∈ wsG := wg1 (List.mem_of_getElem? (i := 131) rfl) rfl
theorem q1_133 : (Cond.laysFinal "SignalsSighted$Line" "SignalsSighted$Line" "trains" "[LSignalsSighted$Train;") ∈ wsG := wg1 (List.mem_of_getElem? (i := 133) rfl) rfl
theorem q1_135 : (Cond.lays "SignalsSighted$Line" "SignalsSighted$Line" "need" "I") ∈ wsG := wg1 (List.mem_of_getElem? (i := 135) rfl) rfl
theorem q1_137 : (Cond.laysFinal "SignalsSighted$Line" "SignalsSighted$Line" "places" "LSignalsSighted$Places;") ∈ wsG := wg1 (List.mem_of_getElem? (i := 137) rfl) rfl
theorem q1_140 : (Cond.classLink "SignalsSighted" (26) "SignalsSighted$Letters") ∈ wsG := wg1 (List.mem_of_getElem? (i := 140) rfl) rfl
theorem q1_141 : (Cond.instantiable "SignalsSighted$Letters" (7)) ∈ wsG := wg1 (List.mem_of_getElem? (i := 141) rfl) rfl
theorem q1_143 : (Cond.instanceMethod yX0_init) ∈ wsG := wg1 (List.mem_of_getElem? (i := 143) rfl) rfl
theorem q1_144 : (Cond.code yX0_init prog_2_method_1_code (1) none) ∈ wsG := wg1 (List.mem_of_getElem? (i := 144) rfl) rfl
theorem q1_145 : (Cond.methodLink "SignalsSighted$Letters" (3) objectInit) ∈ wsG := wg1 (List.mem_of_getElem? (i := 145) rfl) rfl
theorem q1_146 : (Cond.fieldLink "SignalsSighted$Letters" (9) "SignalsSighted$Letters" "size" "I") ∈ wsG := wg1 (List.mem_of_getElem? (i := 146) rfl) rfl
theorem q1_147 : (Cond.fieldLink "SignalsSighted" (322) "SignalsSighted$Letters" "size" "I") ∈ wsG := wg1 (List.mem_of_getElem? (i := 147) rfl) rfl
theorem q1_148 : (Cond.fieldLink "SignalsSighted$Letters" (15) "SignalsSighted$Letters" "at" "I") ∈ wsG := wg1 (List.mem_of_getElem? (i := 148) rfl) rfl
theorem q1_149 : (Cond.fieldLink "SignalsSighted" (333) "SignalsSighted$Letters" "at" "I") ∈ wsG := wg1 (List.mem_of_getElem? (i := 149) rfl) rfl
theorem q1_150 : (Cond.fieldLink "SignalsSighted$Letters" (18) "SignalsSighted$Letters" "signs" "[C") ∈ wsG := wg1 (List.mem_of_getElem? (i := 150) rfl) rfl
theorem q1_151 : (Cond.fieldLink "SignalsSighted$Letters" (22) "SignalsSighted$Letters" "word" "I") ∈ wsG := wg1 (List.mem_of_getElem? (i := 151) rfl) rfl
theorem q1_152 : (Cond.fieldLink "SignalsSighted$Letters" (25) "SignalsSighted$Letters" "nameBegin" "I") ∈ wsG := wg1 (List.mem_of_getElem? (i := 152) rfl) rfl
theorem q1_153 : (Cond.fieldLink "SignalsSighted$Letters" (28) "SignalsSighted$Letters" "nameLength" "I") ∈ wsG := wg1 (List.mem_of_getElem? (i := 153) rfl) rfl
theorem q1_154 : (Cond.fieldLink "SignalsSighted$Letters" (31) "SignalsSighted$Letters" "numbers" "[I") ∈ wsG := wg1 (List.mem_of_getElem? (i := 154) rfl) rfl
theorem q1_155 : (Cond.lays "SignalsSighted$Letters" "SignalsSighted$Letters" "size" "I") ∈ wsG := wg1 (List.mem_of_getElem? (i := 155) rfl) rfl
theorem q1_157 : (Cond.lays "SignalsSighted$Letters" "SignalsSighted$Letters" "at" "I") ∈ wsG := wg1 (List.mem_of_getElem? (i := 157) rfl) rfl
theorem q1_159 : (Cond.laysFinal "SignalsSighted$Letters" "SignalsSighted$Letters" "signs" "[C") ∈ wsG := wg1 (List.mem_of_getElem? (i := 159) rfl) rfl
theorem q1_161 : (Cond.lays "SignalsSighted$Letters" "SignalsSighted$Letters" "word" "I") ∈ wsG := wg1 (List.mem_of_getElem? (i := 161) rfl) rfl
theorem q1_163 : (Cond.lays "SignalsSighted$Letters" "SignalsSighted$Letters" "nameBegin" "I") ∈ wsG := wg1 (List.mem_of_getElem? (i := 163) rfl) rfl
theorem q1_165 : (Cond.lays "SignalsSighted$Letters" "SignalsSighted$Letters" "nameLength" "I") ∈ wsG := wg1 (List.mem_of_getElem? (i := 165) rfl) rfl
theorem q1_167 : (Cond.laysFinal "SignalsSighted$Letters" "SignalsSighted$Letters" "numbers" "[I") ∈ wsG := wg1 (List.mem_of_getElem? (i := 167) rfl) rfl
theorem q1_170 : (Cond.classLink "SignalsSighted" (33) "SignalsSighted$Shelf") ∈ wsG := wg1 (List.mem_of_getElem? (i := 170) rfl) rfl
theorem q1_172 : (Cond.classLink "SignalsSighted" (39) "SignalsSighted$Moves") ∈ wsG := wg1 (List.mem_of_getElem? (i := 172) rfl) rfl
theorem q1_173 : (Cond.instantiable "SignalsSighted$Moves" (4)) ∈ wsG := wg1 (List.mem_of_getElem? (i := 173) rfl) rfl
theorem q1_175 : (Cond.instanceMethod yX2_init) ∈ wsG := wg1 (List.mem_of_getElem? (i := 175) rfl) rfl
theorem q1_176 : (Cond.code yX2_init prog_4_method_1_code (1) none) ∈ wsG := wg1 (List.mem_of_getElem? (i := 176) rfl) rfl
theorem q1_177 : (Cond.methodLink "SignalsSighted$Moves" (3) objectInit) ∈ wsG := wg1 (List.mem_of_getElem? (i := 177) rfl) rfl
theorem q1_178 : (Cond.fieldLink "SignalsSighted$Moves" (9) "SignalsSighted$Moves" "good" "[Z") ∈ wsG := wg1 (List.mem_of_getElem? (i := 178) rfl) rfl
theorem q1_179 : (Cond.fieldLink "SignalsSighted$Moves" (15) "SignalsSighted$Moves" "order" "[I") ∈ wsG := wg1 (List.mem_of_getElem? (i := 179) rfl) rfl
theorem q1_180 : (Cond.fieldLink "SignalsSighted$Moves" (19) "SignalsSighted$Moves" "chosen" "[I") ∈ wsG := wg1 (List.mem_of_getElem? (i := 180) rfl) rfl
theorem q1_181 : (Cond.fieldLink "SignalsSighted$Moves" (22) "SignalsSighted$Moves" "reach" "[I") ∈ wsG := wg1 (List.mem_of_getElem? (i := 181) rfl) rfl
theorem q1_182 : (Cond.laysFinal "SignalsSighted$Moves" "SignalsSighted$Moves" "good" "[Z") ∈ wsG := wg1 (List.mem_of_getElem? (i := 182) rfl) rfl
theorem q1_184 : (Cond.laysFinal "SignalsSighted$Moves" "SignalsSighted$Moves" "order" "[I") ∈ wsG := wg1 (List.mem_of_getElem? (i := 184) rfl) rfl
theorem q1_186 : (Cond.laysFinal "SignalsSighted$Moves" "SignalsSighted$Moves" "chosen" "[I") ∈ wsG := wg1 (List.mem_of_getElem? (i := 186) rfl) rfl
theorem q1_188 : (Cond.laysFinal "SignalsSighted$Moves" "SignalsSighted$Moves" "reach" "[I") ∈ wsG := wg1 (List.mem_of_getElem? (i := 188) rfl) rfl
theorem q1_191 : (Cond.arrayClass .boolean) ∈ wsG := wg1 (List.mem_of_getElem? (i := 191) rfl) rfl
theorem q1_192 : (Cond.classLink "SignalsSighted" (46) "SignalsSighted$Train") ∈ wsG := wg1 (List.mem_of_getElem? (i := 192) rfl) rfl
theorem q1_194 : (Cond.instantiable "SignalsSighted$Shelf" (4)) ∈ wsG := wg1 (List.mem_of_getElem? (i := 194) rfl) rfl
theorem q1_196 : (Cond.instanceMethod yX4_init) ∈ wsG := wg1 (List.mem_of_getElem? (i := 196) rfl) rfl
theorem q1_197 : (Cond.code yX4_init prog_6_method_1_code (1) none) ∈ wsG := wg1 (List.mem_of_getElem? (i := 197) rfl) rfl
theorem q1_198 : (Cond.methodLink "SignalsSighted$Shelf" (3) objectInit) ∈ wsG := wg1 (List.mem_of_getElem? (i := 198) rfl) rfl
theorem q1_199 : (Cond.classLink "SignalsSighted$Shelf" (22) "SignalsSighted$Train") ∈ wsG := wg1 (List.mem_of_getElem? (i := 199) rfl) rfl
theorem q1_201 : (Cond.fieldLink "SignalsSighted$Shelf" (11) "SignalsSighted$Shelf" "sort" "I") ∈ wsG := wg1 (List.mem_of_getElem? (i := 201) rfl) rfl
theorem q1_202 : (Cond.fieldLink "SignalsSighted" (293) "SignalsSighted$Shelf" "sort" "I") ∈ wsG := wg1 (List.mem_of_getElem? (i := 202) rfl) rfl
theorem q1_203 : (Cond.fieldLink "SignalsSighted$Shelf" (15) "SignalsSighted$Shelf" "size" "I") ∈ wsG := wg1 (List.mem_of_getElem? (i := 203) rfl) rfl
theorem q1_204 : (Cond.fieldLink "SignalsSighted" (312) "SignalsSighted$Shelf" "size" "I") ∈ wsG := wg1 (List.mem_of_getElem? (i := 204) rfl) rfl
theorem q1_205 : (Cond.fieldLink "SignalsSighted$Shelf" (18) "SignalsSighted$Shelf" "row" "[J") ∈ wsG := wg1 (List.mem_of_getElem? (i := 205) rfl) rfl
theorem q1_206 : (Cond.fieldLink "SignalsSighted" (289) "SignalsSighted$Shelf" "row" "[J") ∈ wsG := wg1 (List.mem_of_getElem? (i := 206) rfl) rfl
theorem q1_207 : (Cond.fieldLink "SignalsSighted$Shelf" (25) "SignalsSighted$Shelf" "train" "LSignalsSighted$Train;") ∈ wsG := wg1 (List.mem_of_getElem? (i := 207) rfl) rfl
theorem q1_208 : (Cond.fieldLink "SignalsSighted" (296) "SignalsSighted$Shelf" "train" "LSignalsSighted$Train;") ∈ wsG := wg1 (List.mem_of_getElem? (i := 208) rfl) rfl
theorem q1_209 : (Cond.lays "SignalsSighted$Shelf" "SignalsSighted$Shelf" "sort" "I") ∈ wsG := wg1 (List.mem_of_getElem? (i := 209) rfl) rfl
theorem q1_211 : (Cond.lays "SignalsSighted$Shelf" "SignalsSighted$Shelf" "size" "I") ∈ wsG := wg1 (List.mem_of_getElem? (i := 211) rfl) rfl
theorem q1_213 : (Cond.laysFinal "SignalsSighted$Shelf" "SignalsSighted$Shelf" "row" "[J") ∈ wsG := wg1 (List.mem_of_getElem? (i := 213) rfl) rfl
theorem q1_215 : (Cond.laysFinal "SignalsSighted$Shelf" "SignalsSighted$Shelf" "train" "LSignalsSighted$Train;") ∈ wsG := wg1 (List.mem_of_getElem? (i := 215) rfl) rfl
theorem q1_218 : (Cond.arrayClass .long) ∈ wsG := wg1 (List.mem_of_getElem? (i := 218) rfl) rfl
theorem q1_219 : (Cond.fieldLink "SignalsSighted" (10) "SignalsSighted" "line" "LSignalsSighted$Line;") ∈ wsG := wg1 (List.mem_of_getElem? (i := 219) rfl) rfl
theorem q1_220 : (Cond.fieldLink "SignalsSighted" (16) "SignalsSighted" "kept" "LSignalsSighted$Line;") ∈ wsG := wg1 (List.mem_of_getElem? (i := 220) rfl) rfl
theorem q1_221 : (Cond.fieldLink "SignalsSighted" (19) "SignalsSighted" "trial" "LSignalsSighted$Line;") ∈ wsG := wg1 (List.mem_of_getElem? (i := 221) rfl) rfl
theorem q1_222 : (Cond.fieldLink "SignalsSighted" (22) "SignalsSighted" "imageTaken" "Z") ∈ wsG := wg1 (List.mem_of_getElem? (i := 222) rfl) rfl
theorem q1_223 : (Cond.fieldLink "SignalsSighted" (29) "SignalsSighted" "letters" "LSignalsSighted$Letters;") ∈ wsG := wg1 (List.mem_of_getElem? (i := 223) rfl) rfl
theorem q1_224 : (Cond.fieldLink "SignalsSighted" (35) "SignalsSighted" "shelves" "[LSignalsSighted$Shelf;") ∈ wsG := wg1 (List.mem_of_getElem? (i := 224) rfl) rfl
theorem q1_225 : (Cond.fieldLink "SignalsSighted" (42) "SignalsSighted" "moves" "LSignalsSighted$Moves;") ∈ wsG := wg1 (List.mem_of_getElem? (i := 225) rfl) rfl
theorem q1_226 : (Cond.fieldLink "SignalsSighted" (49) "SignalsSighted" "guess" "LSignalsSighted$Train;") ∈ wsG := wg1 (List.mem_of_getElem? (i := 226) rfl) rfl
theorem q1_227 : (Cond.fieldLink "SignalsSighted" (53) "SignalsSighted" "refusals" "[I") ∈ wsG := wg1 (List.mem_of_getElem? (i := 227) rfl) rfl
theorem q1_228 : (Cond.laysFinal "SignalsSighted" "SignalsSighted" "line" "LSignalsSighted$Line;") ∈ wsG := wg1 (List.mem_of_getElem? (i := 228) rfl) rfl
theorem q1_230 : (Cond.laysFinal "SignalsSighted" "SignalsSighted" "kept" "LSignalsSighted$Line;") ∈ wsG := wg1 (List.mem_of_getElem? (i := 230) rfl) rfl
theorem q1_232 : (Cond.laysFinal "SignalsSighted" "SignalsSighted" "trial" "LSignalsSighted$Line;") ∈ wsG := wg1 (List.mem_of_getElem? (i := 232) rfl) rfl
theorem q1_234 : (Cond.lays "SignalsSighted" "SignalsSighted" "imageTaken" "Z") ∈ wsG := wg1 (List.mem_of_getElem? (i := 234) rfl) rfl
theorem q1_236 : (Cond.laysFinal "SignalsSighted" "SignalsSighted" "letters" "LSignalsSighted$Letters;") ∈ wsG := wg1 (List.mem_of_getElem? (i := 236) rfl) rfl
theorem q1_238 : (Cond.laysFinal "SignalsSighted" "SignalsSighted" "shelves" "[LSignalsSighted$Shelf;") ∈ wsG := wg1 (List.mem_of_getElem? (i := 238) rfl) rfl
theorem q2_0 : (Cond.laysFinal "SignalsSighted" "SignalsSighted" "moves" "LSignalsSighted$Moves;") ∈ wsG := wg2 (List.mem_of_getElem? (i := 0) rfl) rfl
theorem q2_2 : (Cond.laysFinal "SignalsSighted" "SignalsSighted" "guess" "LSignalsSighted$Train;") ∈ wsG := wg2 (List.mem_of_getElem? (i := 2) rfl) rfl
theorem q2_4 : (Cond.laysFinal "SignalsSighted" "SignalsSighted" "refusals" "[I") ∈ wsG := wg2 (List.mem_of_getElem? (i := 4) rfl) rfl
theorem q2_7 : (Cond.methodLink "SignalsSightedLaw" (13) yX6_letter) ∈ wsG := wg2 (List.mem_of_getElem? (i := 7) rfl) rfl
theorem q2_8 : (Cond.instanceMethod yX6_letter) ∈ wsG := wg2 (List.mem_of_getElem? (i := 8) rfl) rfl
theorem q2_9 : (Cond.selects "SignalsSighted" yX6_letter yX6_letter) ∈ wsG := wg2 (List.mem_of_getElem? (i := 9) rfl) rfl
theorem q2_10 : (Cond.code yX6_letter prog_1_method_2_code (2) (Option.some .int)) ∈ wsG := wg2 (List.mem_of_getElem? (i := 10) rfl) rfl
theorem q2_11 : (Cond.methodLink "SignalsSighted" (58) yX0_add) ∈ wsG := wg2 (List.mem_of_getElem? (i := 11) rfl) rfl
theorem q2_12 : (Cond.instanceMethod yX0_add) ∈ wsG := wg2 (List.mem_of_getElem? (i := 12) rfl) rfl
theorem q2_13 : (Cond.selects "SignalsSighted$Letters" yX0_add yX0_add) ∈ wsG := wg2 (List.mem_of_getElem? (i := 13) rfl) rfl
theorem q2_14 : (Cond.code yX0_add prog_2_method_2_code (2) (Option.some .int)) ∈ wsG := wg2 (List.mem_of_getElem? (i := 14) rfl) rfl
theorem q2_15 : (Cond.methodLink "SignalsSighted" (62) yX6_counted) ∈ wsG := wg2 (List.mem_of_getElem? (i := 15) rfl) rfl
theorem q2_17 : (Cond.instanceMethod yX6_counted) ∈ wsG := wg2 (List.mem_of_getElem? (i := 17) rfl) rfl
theorem q2_18 : (Cond.code yX6_counted prog_1_method_50_code (2) (Option.some .int)) ∈ wsG := wg2 (List.mem_of_getElem? (i := 18) rfl) rfl
theorem q2_19 : (Cond.methodLink "SignalsSighted" (87) yX6_refused) ∈ wsG := wg2 (List.mem_of_getElem? (i := 19) rfl) rfl
theorem q2_21 : (Cond.instanceMethod yX6_refused) ∈ wsG := wg2 (List.mem_of_getElem? (i := 21) rfl) rfl
theorem q2_22 : (Cond.code yX6_refused prog_1_method_48_code (2) (Option.some .int)) ∈ wsG := wg2 (List.mem_of_getElem? (i := 22) rfl) rfl
theorem q2_23 : (Cond.methodLink "SignalsSightedLaw" (18) yX6_tells) ∈ wsG := wg2 (List.mem_of_getElem? (i := 23) rfl) rfl
theorem q2_24 : (Cond.instanceMethod yX6_tells) ∈ wsG := wg2 (List.mem_of_getElem? (i := 24) rfl) rfl
theorem q2_25 : (Cond.selects "SignalsSighted" yX6_tells yX6_tells) ∈ wsG := wg2 (List.mem_of_getElem? (i := 25) rfl) rfl
theorem q2_26 : (Cond.code yX6_tells prog_1_method_3_code (2) (Option.some .int)) ∈ wsG := wg2 (List.mem_of_getElem? (i := 26) rfl) rfl
theorem q2_27 : (Cond.methodLink "SignalsSighted" (65) yX6_hearStatements) ∈ wsG := wg2 (List.mem_of_getElem? (i := 27) rfl) rfl
theorem q2_29 : (Cond.instanceMethod yX6_hearStatements) ∈ wsG := wg2 (List.mem_of_getElem? (i := 29) rfl) rfl
theorem q2_30 : (Cond.code yX6_hearStatements prog_1_method_53_code (5) (Option.some .int)) ∈ wsG := wg2 (List.mem_of_getElem? (i := 30) rfl) rfl
theorem q2_31 : (Cond.methodLink "SignalsSighted" (323) yX0_faultOfForm) ∈ wsG := wg2 (List.mem_of_getElem? (i := 31) rfl) rfl
theorem q2_32 : (Cond.instanceMethod yX0_faultOfForm) ∈ wsG := wg2 (List.mem_of_getElem? (i := 32) rfl) rfl
theorem q2_33 : (Cond.selects "SignalsSighted$Letters" yX0_faultOfForm yX0_faultOfForm) ∈ wsG := wg2 (List.mem_of_getElem? (i := 33) rfl) rfl
theorem q2_34 : (Cond.code yX0_faultOfForm prog_2_method_6_code (2) (Option.some .int)) ∈ wsG := wg2 (List.mem_of_getElem? (i := 34) rfl) rfl
theorem q2_35 : (Cond.methodLink "SignalsSighted$Letters" (35) yX0_hasMore) ∈ wsG := wg2 (List.mem_of_getElem? (i := 35) rfl) rfl
theorem q2_36 : (Cond.instanceMethod yX0_hasMore) ∈ wsG := wg2 (List.mem_of_getElem? (i := 36) rfl) rfl
theorem q2_37 : (Cond.selects "SignalsSighted$Letters" yX0_hasMore yX0_hasMore) ∈ wsG := wg2 (List.mem_of_getElem? (i := 37) rfl) rfl
theorem q2_38 : (Cond.code yX0_hasMore prog_2_method_5_code (1) (Option.some .boolean)) ∈ wsG := wg2 (List.mem_of_getElem? (i := 38) rfl) rfl
theorem q2_39 : (Cond.methodLink "SignalsSighted$Letters" (39) yX0_readStatement) ∈ wsG := wg2 (List.mem_of_getElem? (i := 39) rfl) rfl
theorem q2_40 : (Cond.instanceMethod yX0_readStatement) ∈ wsG := wg2 (List.mem_of_getElem? (i := 40) rfl) rfl
theorem q2_41 : (Cond.selects "SignalsSighted$Letters" yX0_readStatement yX0_readStatement) ∈ wsG := wg2 (List.mem_of_getElem? (i := 41) rfl) rfl
theorem q2_42 : (Cond.code yX0_readStatement prog_2_method_7_code (2) (Option.some .boolean)) ∈ wsG := wg2 (List.mem_of_getElem? (i := 42) rfl) rfl
theorem q2_43 : (Cond.methodLink "SignalsSighted$Letters" (42) yX0_readWord) ∈ wsG := wg2 (List.mem_of_getElem? (i := 43) rfl) rfl
theorem q2_45 : (Cond.instanceMethod yX0_readWord) ∈ wsG := wg2 (List.mem_of_getElem? (i := 45) rfl) rfl
theorem q2_46 : (Cond.code yX0_readWord prog_2_method_8_code (5) (Option.some .boolean)) ∈ wsG := wg2 (List.mem_of_getElem? (i := 46) rfl) rfl
theorem q2_47 : (Cond.methodLink "SignalsSighted$Letters" (59) yX0_beginsWord) ∈ wsG := wg2 (List.mem_of_getElem? (i := 47) rfl) rfl
theorem q2_49 : (Cond.instanceMethod yX0_beginsWord) ∈ wsG := wg2 (List.mem_of_getElem? (i := 49) rfl) rfl
theorem q2_50 : (Cond.code yX0_beginsWord prog_2_method_9_code (6) (Option.some .boolean)) ∈ wsG := wg2 (List.mem_of_getElem? (i := 50) rfl) rfl
theorem q2_51 : (Cond.methodLink "SignalsSighted$Letters" (63) yX0_textOf) ∈ wsG := wg2 (List.mem_of_getElem? (i := 51) rfl) rfl
theorem q2_52 : (Cond.static yX0_textOf) ∈ wsG := wg2 (List.mem_of_getElem? (i := 52) rfl) rfl
theorem q2_53 : (Cond.code yX0_textOf prog_2_method_10_code (1) (Option.some (.object "java/lang/String"))) ∈ wsG := wg2 (List.mem_of_getElem? (i := 53) rfl) rfl
theorem q2_61 : (Cond.methodLink "SignalsSighted$Letters" (67) yJ0_length_8abf5) ∈ wsG := wg2 (List.mem_of_getElem? (i := 61) rfl) rfl
theorem q2_62 : (Cond.instanceMethod yJ0_length_8abf5) ∈ wsG := wg2 (List.mem_of_getElem? (i := 62) rfl) rfl
theorem q2_63 : (Cond.selects "java/lang/String" yJ0_length_8abf5 yJ0_length_8abf5) ∈ wsG := wg2 (List.mem_of_getElem? (i := 63) rfl) rfl
theorem q2_64 : (Cond.code yJ0_length_8abf5 prog_12_method_54_code (1) (Option.some .int)) ∈ wsG := wg2 (List.mem_of_getElem? (i := 64) rfl) rfl
theorem q2_65 : (Cond.methodLink "java/lang/String" (335) yJ0_coder_7d493) ∈ wsG := wg2 (List.mem_of_getElem? (i := 65) rfl) rfl
theorem q2_66 : (Cond.instanceMethod yJ0_coder_7d493) ∈ wsG := wg2 (List.mem_of_getElem? (i := 66) rfl) rfl
theorem q2_67 : (Cond.selects "java/lang/String" yJ0_coder_7d493 yJ0_coder_7d493) ∈ wsG := wg2 (List.mem_of_getElem? (i := 67) rfl) rfl
theorem q2_68 : (Cond.code yJ0_coder_7d493 prog_12_method_152_code (1) (Option.some .byte)) ∈ wsG := wg2 (List.mem_of_getElem? (i := 68) rfl) rfl
theorem q2_69 : (Cond.fieldLink "java/lang/String" (38) "java/lang/String" "COMPACT_STRINGS" "Z") ∈ wsG := wg2 (List.mem_of_getElem? (i := 69) rfl) rfl
theorem q2_71 : (Cond.methodLink "SignalsSighted$Letters" (73) yJ0_charAt_5068e) ∈ wsG := wg2 (List.mem_of_getElem? (i := 71) rfl) rfl
theorem q2_72 : (Cond.instanceMethod yJ0_charAt_5068e) ∈ wsG := wg2 (List.mem_of_getElem? (i := 72) rfl) rfl
theorem q2_73 : (Cond.selects "java/lang/String" yJ0_charAt_5068e yJ0_charAt_5068e) ∈ wsG := wg2 (List.mem_of_getElem? (i := 73) rfl) rfl
theorem q2_74 : (Cond.code yJ0_charAt_5068e prog_12_method_56_code (2) (Option.some .char)) ∈ wsG := wg2 (List.mem_of_getElem? (i := 74) rfl) rfl
theorem q2_75 : (Cond.methodLink "java/lang/String" (492) yJ0_isLatin1_aae02) ∈ wsG := wg2 (List.mem_of_getElem? (i := 75) rfl) rfl
theorem q2_76 : (Cond.instanceMethod yJ0_isLatin1_aae02) ∈ wsG := wg2 (List.mem_of_getElem? (i := 76) rfl) rfl
theorem q2_77 : (Cond.selects "java/lang/String" yJ0_isLatin1_aae02 yJ0_isLatin1_aae02) ∈ wsG := wg2 (List.mem_of_getElem? (i := 77) rfl) rfl
theorem q2_78 : (Cond.code yJ0_isLatin1_aae02 prog_12_method_154_code (1) (Option.some .boolean)) ∈ wsG := wg2 (List.mem_of_getElem? (i := 78) rfl) rfl
theorem q2_79 : (Cond.methodLink "java/lang/String" (495) yJ1_charAt_3b067) ∈ wsG := wg2 (List.mem_of_getElem? (i := 79) rfl) rfl
theorem q2_80 : (Cond.static yJ1_charAt_3b067) ∈ wsG := wg2 (List.mem_of_getElem? (i := 80) rfl) rfl
theorem q2_81 : (Cond.code yJ1_charAt_3b067 prog_13_method_2_code (2) (Option.some .char)) ∈ wsG := wg2 (List.mem_of_getElem? (i := 81) rfl) rfl
theorem q2_82 : (Cond.methodLink "java/lang/StringLatin1" (9) yJ0_checkIndex_df160) ∈ wsG := wg2 (List.mem_of_getElem? (i := 82) rfl) rfl
theorem q2_83 : (Cond.static yJ0_checkIndex_df160) ∈ wsG := wg2 (List.mem_of_getElem? (i := 83) rfl) rfl
theorem q2_84 : (Cond.code yJ0_checkIndex_df160 prog_12_method_155_code (2) none) ∈ wsG := wg2 (List.mem_of_getElem? (i := 84) rfl) rfl
theorem q2_85 : (Cond.fieldLink "java/lang/String" (1053) "jdk/internal/util/Preconditions" "SIOOBE_FORMATTER" "Ljava/util/function/BiFunction;") ∈ wsG := wg2 (List.mem_of_getElem? (i := 85) rfl) rfl
theorem q2_87 : (Cond.methodLink "java/lang/String" (1059) yJ3_checkIndex_8e157) ∈ wsG := wg2 (List.mem_of_getElem? (i := 87) rfl) rfl
theorem q2_88 : (Cond.static yJ3_checkIndex_8e157) ∈ wsG := wg2 (List.mem_of_getElem? (i := 88) rfl) rfl
theorem q2_89 : (Cond.code yJ3_checkIndex_8e157 prog_16_method_11_code (3) (Option.some .int)) ∈ wsG := wg2 (List.mem_of_getElem? (i := 89) rfl) rfl
theorem q2_90 : (Cond.methodLink "java/lang/String" (498) yJ2_charAt_3b067) ∈ wsG := wg2 (List.mem_of_getElem? (i := 90) rfl) rfl
theorem q2_91 : (Cond.static yJ2_charAt_3b067) ∈ wsG := wg2 (List.mem_of_getElem? (i := 91) rfl) rfl
theorem q2_92 : (Cond.code yJ2_charAt_3b067 prog_14_method_83_code (2) (Option.some .char)) ∈ wsG := wg2 (List.mem_of_getElem? (i := 92) rfl) rfl
theorem q2_93 : (Cond.methodLink "java/lang/StringUTF16" (67) yJ2_checkIndex_2214a) ∈ wsG := wg2 (List.mem_of_getElem? (i := 93) rfl) rfl
theorem q2_94 : (Cond.static yJ2_checkIndex_2214a) ∈ wsG := wg2 (List.mem_of_getElem? (i := 94) rfl) rfl
theorem q2_95 : (Cond.code yJ2_checkIndex_2214a prog_14_method_91_code (2) none) ∈ wsG := wg2 (List.mem_of_getElem? (i := 95) rfl) rfl
theorem q2_96 : (Cond.methodLink "java/lang/StringUTF16" (48) yJ2_length_9d52b) ∈ wsG := wg2 (List.mem_of_getElem? (i := 96) rfl) rfl
theorem q2_97 : (Cond.static yJ2_length_9d52b) ∈ wsG := wg2 (List.mem_of_getElem? (i := 97) rfl) rfl
theorem q2_98 : (Cond.code yJ2_length_9d52b prog_14_method_6_code (1) (Option.some .int)) ∈ wsG := wg2 (List.mem_of_getElem? (i := 98) rfl) rfl
theorem q2_99 : (Cond.methodLink "java/lang/StringUTF16" (414) yJ0_checkIndex_df160) ∈ wsG := wg2 (List.mem_of_getElem? (i := 99) rfl) rfl
theorem q2_100 : (Cond.methodLink "java/lang/StringUTF16" (71) yJ2_getChar_3b067) ∈ wsG := wg2 (List.mem_of_getElem? (i := 100) rfl) rfl
theorem q2_101 : (Cond.static yJ2_getChar_3b067) ∈ wsG := wg2 (List.mem_of_getElem? (i := 101) rfl) rfl
theorem q2_102 : (Cond.code yJ2_getChar_3b067 prog_14_method_5_code (2) (Option.some .char)) ∈ wsG := wg2 (List.mem_of_getElem? (i := 102) rfl) rfl
theorem q2_103 : (Cond.fieldLink "java/lang/StringUTF16" (44) "java/lang/StringUTF16" "$assertionsDisabled" "Z") ∈ wsG := wg2 (List.mem_of_getElem? (i := 103) rfl) rfl
theorem q2_105 : (Cond.fieldLink "java/lang/StringUTF16" (59) "java/lang/StringUTF16" "HI_BYTE_SHIFT" "I") ∈ wsG := wg2 (List.mem_of_getElem? (i := 105) rfl) rfl
theorem q2_107 : (Cond.fieldLink "java/lang/StringUTF16" (63) "java/lang/StringUTF16" "LO_BYTE_SHIFT" "I") ∈ wsG := wg2 (List.mem_of_getElem? (i := 107) rfl) rfl
theorem q2_109 : (Cond.methodLink "SignalsSighted$Letters" (45) yX0_readName) ∈ wsG := wg2 (List.mem_of_getElem? (i := 109) rfl) rfl
theorem q2_111 : (Cond.instanceMethod yX0_readName) ∈ wsG := wg2 (List.mem_of_getElem? (i := 111) rfl) rfl
theorem q2_112 : (Cond.code yX0_readName prog_2_method_11_code (2) (Option.some .boolean)) ∈ wsG := wg2 (List.mem_of_getElem? (i := 112) rfl) rfl
theorem q2_113 : (Cond.methodLink "SignalsSighted$Letters" (55) yX0_readSign) ∈ wsG := wg2 (List.mem_of_getElem? (i := 113) rfl) rfl
theorem q2_115 : (Cond.instanceMethod yX0_readSign) ∈ wsG := wg2 (List.mem_of_getElem? (i := 115) rfl) rfl
theorem q2_116 : (Cond.code yX0_readSign prog_2_method_13_code (2) (Option.some .boolean)) ∈ wsG := wg2 (List.mem_of_getElem? (i := 116) rfl) rfl
theorem q2_117 : (Cond.methodLink "SignalsSighted$Letters" (91) yX0_isBetween) ∈ wsG := wg2 (List.mem_of_getElem? (i := 117) rfl) rfl
theorem q2_119 : (Cond.instanceMethod yX0_isBetween) ∈ wsG := wg2 (List.mem_of_getElem? (i := 119) rfl) rfl
theorem q2_120 : (Cond.code yX0_isBetween prog_2_method_14_code (3) (Option.some .boolean)) ∈ wsG := wg2 (List.mem_of_getElem? (i := 120) rfl) rfl
theorem q2_121 : (Cond.fieldLink "SignalsSighted$Letters" (48) "SignalsSighted$Letters" "NUMBERS_OF" "[I") ∈ wsG := wg2 (List.mem_of_getElem? (i := 121) rfl) rfl
theorem q2_123 : (Cond.methodLink "SignalsSighted$Letters" (51) yX0_readNumber) ∈ wsG := wg2 (List.mem_of_getElem? (i := 123) rfl) rfl
theorem q2_125 : (Cond.instanceMethod yX0_readNumber) ∈ wsG := wg2 (List.mem_of_getElem? (i := 125) rfl) rfl
theorem q2_126 : (Cond.code yX0_readNumber prog_2_method_12_code (3) (Option.some .boolean)) ∈ wsG := wg2 (List.mem_of_getElem? (i := 126) rfl) rfl
theorem q2_127 : (Cond.methodLink "SignalsSighted" (315) yX1_copyFrom) ∈ wsG := wg2 (List.mem_of_getElem? (i := 127) rfl) rfl
theorem q2_128 : (Cond.instanceMethod yX1_copyFrom) ∈ wsG := wg2 (List.mem_of_getElem? (i := 128) rfl) rfl
theorem q2_129 : (Cond.selects "SignalsSighted$Line" yX1_copyFrom yX1_copyFrom) ∈ wsG := wg2 (List.mem_of_getElem? (i := 129) rfl) rfl
theorem q2_130 : (Cond.code yX1_copyFrom prog_3_method_2_code (3) none) ∈ wsG := wg2 (List.mem_of_getElem? (i := 130) rfl) rfl
theorem q2_131 : (Cond.methodLink "SignalsSighted$Line" (60) arraycopyName) ∈ wsG := wg2 (List.mem_of_getElem? (i := 131) rfl) rfl
theorem q2_132 : (Cond.static arraycopyName) ∈ wsG := wg2 (List.mem_of_getElem? (i := 132) rfl) rfl
theorem q2_133 : (Cond.native arraycopyName) ∈ wsG := wg2 (List.mem_of_getElem? (i := 133) rfl) rfl
theorem q2_134 : (Cond.methodLink "SignalsSighted$Line" (66) yX5_copyFrom) ∈ wsG := wg2 (List.mem_of_getElem? (i := 134) rfl) rfl
theorem q2_135 : (Cond.instanceMethod yX5_copyFrom) ∈ wsG := wg2 (List.mem_of_getElem? (i := 135) rfl) rfl
theorem q2_136 : (Cond.selects "SignalsSighted$Train" yX5_copyFrom yX5_copyFrom) ∈ wsG := wg2 (List.mem_of_getElem? (i := 136) rfl) rfl
theorem q2_137 : (Cond.code yX5_copyFrom prog_7_method_2_code (2) none) ∈ wsG := wg2 (List.mem_of_getElem? (i := 137) rfl) rfl
theorem q2_138 : (Cond.methodLink "SignalsSighted$Line" (70) yX3_copyFrom) ∈ wsG := wg2 (List.mem_of_getElem? (i := 138) rfl) rfl
theorem q2_139 : (Cond.instanceMethod yX3_copyFrom) ∈ wsG := wg2 (List.mem_of_getElem? (i := 139) rfl) rfl
theorem q2_140 : (Cond.selects "SignalsSighted$Places" yX3_copyFrom yX3_copyFrom) ∈ wsG := wg2 (List.mem_of_getElem? (i := 140) rfl) rfl
theorem q2_141 : (Cond.code yX3_copyFrom prog_5_method_4_code (2) none) ∈ wsG := wg2 (List.mem_of_getElem? (i := 141) rfl) rfl
theorem q2_142 : (Cond.methodLink "SignalsSighted$Places" (26) arraycopyName) ∈ wsG := wg2 (List.mem_of_getElem? (i := 142) rfl) rfl
theorem q2_143 : (Cond.methodLink "SignalsSighted" (326) yX0_rewind) ∈ wsG := wg2 (List.mem_of_getElem? (i := 143) rfl) rfl
theorem q2_144 : (Cond.instanceMethod yX0_rewind) ∈ wsG := wg2 (List.mem_of_getElem? (i := 144) rfl) rfl
theorem q2_145 : (Cond.selects "SignalsSighted$Letters" yX0_rewind yX0_rewind) ∈ wsG := wg2 (List.mem_of_getElem? (i := 145) rfl) rfl
theorem q2_146 : (Cond.code yX0_rewind prog_2_method_4_code (1) none) ∈ wsG := wg2 (List.mem_of_getElem? (i := 146) rfl) rfl
theorem q2_147 : (Cond.methodLink "SignalsSighted" (329) yX0_hasMore) ∈ wsG := wg2 (List.mem_of_getElem? (i := 147) rfl) rfl
theorem q2_148 : (Cond.methodLink "SignalsSighted" (336) yX0_readStatement) ∈ wsG := wg2 (List.mem_of_getElem? (i := 148) rfl) rfl
theorem q2_149 : (Cond.methodLink "SignalsSighted" (339) yX0_sayTo) ∈ wsG := wg2 (List.mem_of_getElem? (i := 149) rfl) rfl
theorem q2_150 : (Cond.instanceMethod yX0_sayTo) ∈ wsG := wg2 (List.mem_of_getElem? (i := 150) rfl) rfl
theorem q2_151 : (Cond.selects "SignalsSighted$Letters" yX0_sayTo yX0_sayTo) ∈ wsG := wg2 (List.mem_of_getElem? (i := 151) rfl) rfl
theorem q2_152 : (Cond.code yX0_sayTo prog_2_method_15_code (2) (Option.some .int)) ∈ wsG := wg2 (List.mem_of_getElem? (i := 152) rfl) rfl
theorem q2_153 : (Cond.methodLink "SignalsSighted$Letters" (95) yX1_setGround) ∈ wsG := wg2 (List.mem_of_getElem? (i := 153) rfl) rfl
theorem q2_154 : (Cond.instanceMethod yX1_setGround) ∈ wsG := wg2 (List.mem_of_getElem? (i := 154) rfl) rfl
theorem q2_155 : (Cond.selects "SignalsSighted$Line" yX1_setGround yX1_setGround) ∈ wsG := wg2 (List.mem_of_getElem? (i := 155) rfl) rfl
theorem q2_156 : (Cond.code yX1_setGround prog_3_method_9_code (4) (Option.some .int)) ∈ wsG := wg2 (List.mem_of_getElem? (i := 156) rfl) rfl
theorem q2_157 : (Cond.methodLink "SignalsSighted$Line" (83) yX1_hasCell) ∈ wsG := wg2 (List.mem_of_getElem? (i := 157) rfl) rfl
theorem q2_158 : (Cond.instanceMethod yX1_hasCell) ∈ wsG := wg2 (List.mem_of_getElem? (i := 158) rfl) rfl
theorem q2_159 : (Cond.selects "SignalsSighted$Line" yX1_hasCell yX1_hasCell) ∈ wsG := wg2 (List.mem_of_getElem? (i := 159) rfl) rfl
theorem q2_160 : (Cond.code yX1_hasCell prog_3_method_3_code (2) (Option.some .boolean)) ∈ wsG := wg2 (List.mem_of_getElem? (i := 160) rfl) rfl
theorem q2_161 : (Cond.methodLink "SignalsSighted$Letters" (101) yX1_addBridge) ∈ wsG := wg2 (List.mem_of_getElem? (i := 161) rfl) rfl
theorem q2_162 : (Cond.instanceMethod yX1_addBridge) ∈ wsG := wg2 (List.mem_of_getElem? (i := 162) rfl) rfl
theorem q2_163 : (Cond.selects "SignalsSighted$Line" yX1_addBridge yX1_addBridge) ∈ wsG := wg2 (List.mem_of_getElem? (i := 163) rfl) rfl
theorem q2_164 : (Cond.code yX1_addBridge prog_3_method_10_code (4) (Option.some .int)) ∈ wsG := wg2 (List.mem_of_getElem? (i := 164) rfl) rfl
theorem q2_165 : (Cond.methodLink "SignalsSighted$Letters" (105) yX1_addPost) ∈ wsG := wg2 (List.mem_of_getElem? (i := 165) rfl) rfl
theorem q2_166 : (Cond.instanceMethod yX1_addPost) ∈ wsG := wg2 (List.mem_of_getElem? (i := 166) rfl) rfl
theorem q2_167 : (Cond.selects "SignalsSighted$Line" yX1_addPost yX1_addPost) ∈ wsG := wg2 (List.mem_of_getElem? (i := 167) rfl) rfl
theorem q2_168 : (Cond.code yX1_addPost prog_3_method_12_code (3) (Option.some .int)) ∈ wsG := wg2 (List.mem_of_getElem? (i := 168) rfl) rfl
theorem q2_169 : (Cond.methodLink "SignalsSighted$Line" (87) yX1_postAt) ∈ wsG := wg2 (List.mem_of_getElem? (i := 169) rfl) rfl
theorem q2_171 : (Cond.instanceMethod yX1_postAt) ∈ wsG := wg2 (List.mem_of_getElem? (i := 171) rfl) rfl
theorem q2_172 : (Cond.code yX1_postAt prog_3_method_14_code (3) (Option.some .int)) ∈ wsG := wg2 (List.mem_of_getElem? (i := 172) rfl) rfl
theorem q2_173 : (Cond.methodLink "SignalsSighted$Letters" (108) yX1_addTrain) ∈ wsG := wg2 (List.mem_of_getElem? (i := 173) rfl) rfl
theorem q2_174 : (Cond.instanceMethod yX1_addTrain) ∈ wsG := wg2 (List.mem_of_getElem? (i := 174) rfl) rfl
theorem q2_175 : (Cond.selects "SignalsSighted$Line" yX1_addTrain yX1_addTrain) ∈ wsG := wg2 (List.mem_of_getElem? (i := 175) rfl) rfl
theorem q2_176 : (Cond.code yX1_addTrain prog_3_method_16_code (6) (Option.some .int)) ∈ wsG := wg2 (List.mem_of_getElem? (i := 176) rfl) rfl
theorem q2_177 : (Cond.methodLink "SignalsSighted$Letters" (112) yX1_setNeed) ∈ wsG := wg2 (List.mem_of_getElem? (i := 177) rfl) rfl
theorem q2_178 : (Cond.instanceMethod yX1_setNeed) ∈ wsG := wg2 (List.mem_of_getElem? (i := 178) rfl) rfl
theorem q2_179 : (Cond.selects "SignalsSighted$Line" yX1_setNeed yX1_setNeed) ∈ wsG := wg2 (List.mem_of_getElem? (i := 179) rfl) rfl
theorem q2_180 : (Cond.code yX1_setNeed prog_3_method_17_code (3) (Option.some .int)) ∈ wsG := wg2 (List.mem_of_getElem? (i := 180) rfl) rfl
theorem q2_181 : (Cond.methodLink "SignalsSighted$Letters" (116) yX1_resize) ∈ wsG := wg2 (List.mem_of_getElem? (i := 181) rfl) rfl
theorem q2_182 : (Cond.instanceMethod yX1_resize) ∈ wsG := wg2 (List.mem_of_getElem? (i := 182) rfl) rfl
theorem q2_183 : (Cond.selects "SignalsSighted$Line" yX1_resize yX1_resize) ∈ wsG := wg2 (List.mem_of_getElem? (i := 183) rfl) rfl
theorem q2_184 : (Cond.code yX1_resize prog_3_method_8_code (4) (Option.some .int)) ∈ wsG := wg2 (List.mem_of_getElem? (i := 184) rfl) rfl
theorem q2_185 : (Cond.methodLink "SignalsSighted$Line" (73) yX1_removeBridge) ∈ wsG := wg2 (List.mem_of_getElem? (i := 185) rfl) rfl
theorem q2_186 : (Cond.instanceMethod yX1_removeBridge) ∈ wsG := wg2 (List.mem_of_getElem? (i := 186) rfl) rfl
theorem q2_187 : (Cond.selects "SignalsSighted$Line" yX1_removeBridge yX1_removeBridge) ∈ wsG := wg2 (List.mem_of_getElem? (i := 187) rfl) rfl
theorem q2_188 : (Cond.code yX1_removeBridge prog_3_method_11_code (3) none) ∈ wsG := wg2 (List.mem_of_getElem? (i := 188) rfl) rfl
theorem q2_189 : (Cond.methodLink "SignalsSighted$Line" (77) yX1_removePost) ∈ wsG := wg2 (List.mem_of_getElem? (i := 189) rfl) rfl
theorem q2_191 : (Cond.instanceMethod yX1_removePost) ∈ wsG := wg2 (List.mem_of_getElem? (i := 191) rfl) rfl
theorem q2_192 : (Cond.code yX1_removePost prog_3_method_15_code (3) none) ∈ wsG := wg2 (List.mem_of_getElem? (i := 192) rfl) rfl
theorem q2_193 : (Cond.methodLink "SignalsSighted$Line" (80) yX3_dropFrom) ∈ wsG := wg2 (List.mem_of_getElem? (i := 193) rfl) rfl
theorem q2_194 : (Cond.instanceMethod yX3_dropFrom) ∈ wsG := wg2 (List.mem_of_getElem? (i := 194) rfl) rfl
theorem q2_195 : (Cond.selects "SignalsSighted$Places" yX3_dropFrom yX3_dropFrom) ∈ wsG := wg2 (List.mem_of_getElem? (i := 195) rfl) rfl
theorem q2_196 : (Cond.code yX3_dropFrom prog_5_method_8_code (4) none) ∈ wsG := wg2 (List.mem_of_getElem? (i := 196) rfl) rfl
theorem q2_197 : (Cond.methodLink "SignalsSighted$Letters" (119) yX0_sayPlace) ∈ wsG := wg2 (List.mem_of_getElem? (i := 197) rfl) rfl
theorem q2_199 : (Cond.instanceMethod yX0_sayPlace) ∈ wsG := wg2 (List.mem_of_getElem? (i := 199) rfl) rfl
theorem q2_200 : (Cond.code yX0_sayPlace prog_2_method_16_code (2) (Option.some .int)) ∈ wsG := wg2 (List.mem_of_getElem? (i := 200) rfl) rfl
theorem q2_201 : (Cond.methodLink "SignalsSighted$Letters" (123) yX1_hasCell) ∈ wsG := wg2 (List.mem_of_getElem? (i := 201) rfl) rfl
theorem q2_202 : (Cond.methodLink "SignalsSighted$Letters" (130) yX3_tell) ∈ wsG := wg2 (List.mem_of_getElem? (i := 202) rfl) rfl
theorem q2_203 : (Cond.instanceMethod yX3_tell) ∈ wsG := wg2 (List.mem_of_getElem? (i := 203) rfl) rfl
theorem q2_204 : (Cond.selects "SignalsSighted$Places" yX3_tell yX3_tell) ∈ wsG := wg2 (List.mem_of_getElem? (i := 204) rfl) rfl
theorem q2_205 : (Cond.code yX3_tell prog_5_method_5_code (6) (Option.some .int)) ∈ wsG := wg2 (List.mem_of_getElem? (i := 205) rfl) rfl
theorem q2_206 : (Cond.methodLink "SignalsSighted$Places" (32) yX3_find) ∈ wsG := wg2 (List.mem_of_getElem? (i := 206) rfl) rfl
theorem q2_208 : (Cond.instanceMethod yX3_find) ∈ wsG := wg2 (List.mem_of_getElem? (i := 208) rfl) rfl
theorem q2_209 : (Cond.code yX3_find prog_5_method_6_code (5) (Option.some .int)) ∈ wsG := wg2 (List.mem_of_getElem? (i := 209) rfl) rfl
theorem q2_210 : (Cond.methodLink "SignalsSighted$Places" (36) yX3_isNamed) ∈ wsG := wg2 (List.mem_of_getElem? (i := 210) rfl) rfl
theorem q2_212 : (Cond.instanceMethod yX3_isNamed) ∈ wsG := wg2 (List.mem_of_getElem? (i := 212) rfl) rfl
theorem q2_213 : (Cond.code yX3_isNamed prog_5_method_7_code (6) (Option.some .boolean)) ∈ wsG := wg2 (List.mem_of_getElem? (i := 213) rfl) rfl
theorem q2_214 : (Cond.methodLink "SignalsSighted" (69) yX0_clear) ∈ wsG := wg2 (List.mem_of_getElem? (i := 214) rfl) rfl
theorem q2_215 : (Cond.instanceMethod yX0_clear) ∈ wsG := wg2 (List.mem_of_getElem? (i := 215) rfl) rfl
theorem q2_216 : (Cond.selects "SignalsSighted$Letters" yX0_clear yX0_clear) ∈ wsG := wg2 (List.mem_of_getElem? (i := 216) rfl) rfl
theorem q2_217 : (Cond.code yX0_clear prog_2_method_3_code (1) none) ∈ wsG := wg2 (List.mem_of_getElem? (i := 217) rfl) rfl
theorem q2_218 : (Cond.arrayClass .byte) ∈ wsG := wg2 (List.mem_of_getElem? (i := 218) rfl) rfl
theorem q2_219 : (Cond.methodLink "SignalsSightedLaw" (23) yX6_cells) ∈ wsG := wg2 (List.mem_of_getElem? (i := 219) rfl) rfl
theorem q2_220 : (Cond.instanceMethod yX6_cells) ∈ wsG := wg2 (List.mem_of_getElem? (i := 220) rfl) rfl
theorem q2_221 : (Cond.selects "SignalsSighted" yX6_cells yX6_cells) ∈ wsG := wg2 (List.mem_of_getElem? (i := 221) rfl) rfl
theorem q2_222 : (Cond.code yX6_cells prog_1_method_4_code (2) (Option.some .int)) ∈ wsG := wg2 (List.mem_of_getElem? (i := 222) rfl) rfl
theorem q2_223 : (Cond.methodLink "SignalsSighted" (72) yX1_resize) ∈ wsG := wg2 (List.mem_of_getElem? (i := 223) rfl) rfl
theorem q2_224 : (Cond.methodLink "SignalsSightedLaw" (27) yX6_ground) ∈ wsG := wg2 (List.mem_of_getElem? (i := 224) rfl) rfl
theorem q2_225 : (Cond.instanceMethod yX6_ground) ∈ wsG := wg2 (List.mem_of_getElem? (i := 225) rfl) rfl
theorem q2_226 : (Cond.selects "SignalsSighted" yX6_ground yX6_ground) ∈ wsG := wg2 (List.mem_of_getElem? (i := 226) rfl) rfl
theorem q2_227 : (Cond.code yX6_ground prog_1_method_5_code (3) (Option.some .int)) ∈ wsG := wg2 (List.mem_of_getElem? (i := 227) rfl) rfl
theorem q2_228 : (Cond.methodLink "SignalsSighted" (75) yX1_setGround) ∈ wsG := wg2 (List.mem_of_getElem? (i := 228) rfl) rfl
theorem q2_229 : (Cond.methodLink "SignalsSightedLaw" (32) yX6_bridge) ∈ wsG := wg2 (List.mem_of_getElem? (i := 229) rfl) rfl
theorem q2_230 : (Cond.instanceMethod yX6_bridge) ∈ wsG := wg2 (List.mem_of_getElem? (i := 230) rfl) rfl
theorem q2_231 : (Cond.selects "SignalsSighted" yX6_bridge yX6_bridge) ∈ wsG := wg2 (List.mem_of_getElem? (i := 231) rfl) rfl
theorem q2_232 : (Cond.code yX6_bridge prog_1_method_6_code (4) (Option.some .int)) ∈ wsG := wg2 (List.mem_of_getElem? (i := 232) rfl) rfl
theorem q2_233 : (Cond.methodLink "SignalsSighted" (79) yX1_addBridge) ∈ wsG := wg2 (List.mem_of_getElem? (i := 233) rfl) rfl
theorem q2_234 : (Cond.methodLink "SignalsSightedLaw" (37) yX6_fells) ∈ wsG := wg2 (List.mem_of_getElem? (i := 234) rfl) rfl
theorem q2_235 : (Cond.instanceMethod yX6_fells) ∈ wsG := wg2 (List.mem_of_getElem? (i := 235) rfl) rfl
theorem q2_236 : (Cond.selects "SignalsSighted" yX6_fells yX6_fells) ∈ wsG := wg2 (List.mem_of_getElem? (i := 236) rfl) rfl
theorem q2_237 : (Cond.code yX6_fells prog_1_method_7_code (2) (Option.some .int)) ∈ wsG := wg2 (List.mem_of_getElem? (i := 237) rfl) rfl
theorem q2_238 : (Cond.methodLink "SignalsSighted" (83) yX1_hasBridge) ∈ wsG := wg2 (List.mem_of_getElem? (i := 238) rfl) rfl
theorem q2_239 : (Cond.instanceMethod yX1_hasBridge) ∈ wsG := wg2 (List.mem_of_getElem? (i := 239) rfl) rfl
theorem q3_0 : (Cond.selects "SignalsSighted$Line" yX1_hasBridge yX1_hasBridge) ∈ wsG := wg3 (List.mem_of_getElem? (i := 0) rfl) rfl
theorem q3_1 : (Cond.code yX1_hasBridge prog_3_method_4_code (2) (Option.some .boolean)) ∈ wsG := wg3 (List.mem_of_getElem? (i := 1) rfl) rfl
theorem q3_2 : (Cond.methodLink "SignalsSighted" (90) yX1_removeBridge) ∈ wsG := wg3 (List.mem_of_getElem? (i := 2) rfl) rfl
theorem q3_3 : (Cond.methodLink "SignalsSightedLaw" (41) yX6_post) ∈ wsG := wg3 (List.mem_of_getElem? (i := 3) rfl) rfl
theorem q3_4 : (Cond.instanceMethod yX6_post) ∈ wsG := wg3 (List.mem_of_getElem? (i := 4) rfl) rfl
theorem q3_5 : (Cond.selects "SignalsSighted" yX6_post yX6_post) ∈ wsG := wg3 (List.mem_of_getElem? (i := 5) rfl) rfl
theorem q3_6 : (Cond.code yX6_post prog_1_method_8_code (3) (Option.some .int)) ∈ wsG := wg3 (List.mem_of_getElem? (i := 6) rfl) rfl
theorem q3_7 : (Cond.methodLink "SignalsSighted" (98) yX1_addPost) ∈ wsG := wg3 (List.mem_of_getElem? (i := 7) rfl) rfl
theorem q3_8 : (Cond.methodLink "SignalsSightedLaw" (45) yX6_sets) ∈ wsG := wg3 (List.mem_of_getElem? (i := 8) rfl) rfl
theorem q3_9 : (Cond.instanceMethod yX6_sets) ∈ wsG := wg3 (List.mem_of_getElem? (i := 9) rfl) rfl
theorem q3_10 : (Cond.selects "SignalsSighted" yX6_sets yX6_sets) ∈ wsG := wg3 (List.mem_of_getElem? (i := 10) rfl) rfl
theorem q3_11 : (Cond.code yX6_sets prog_1_method_9_code (4) (Option.some .int)) ∈ wsG := wg3 (List.mem_of_getElem? (i := 11) rfl) rfl
theorem q3_12 : (Cond.methodLink "SignalsSighted" (101) yX1_setPost) ∈ wsG := wg3 (List.mem_of_getElem? (i := 12) rfl) rfl
theorem q3_13 : (Cond.instanceMethod yX1_setPost) ∈ wsG := wg3 (List.mem_of_getElem? (i := 13) rfl) rfl
theorem q3_14 : (Cond.selects "SignalsSighted$Line" yX1_setPost yX1_setPost) ∈ wsG := wg3 (List.mem_of_getElem? (i := 14) rfl) rfl
theorem q3_15 : (Cond.code yX1_setPost prog_3_method_13_code (6) (Option.some .int)) ∈ wsG := wg3 (List.mem_of_getElem? (i := 15) rfl) rfl
theorem q3_16 : (Cond.methodLink "SignalsSighted$Line" (91) yX1_hasPost) ∈ wsG := wg3 (List.mem_of_getElem? (i := 16) rfl) rfl
theorem q3_17 : (Cond.instanceMethod yX1_hasPost) ∈ wsG := wg3 (List.mem_of_getElem? (i := 17) rfl) rfl
theorem q3_18 : (Cond.selects "SignalsSighted$Line" yX1_hasPost yX1_hasPost) ∈ wsG := wg3 (List.mem_of_getElem? (i := 18) rfl) rfl
theorem q3_19 : (Cond.code yX1_hasPost prog_3_method_5_code (2) (Option.some .boolean)) ∈ wsG := wg3 (List.mem_of_getElem? (i := 19) rfl) rfl
theorem q3_20 : (Cond.methodLink "SignalsSightedLaw" (49) yX6_train) ∈ wsG := wg3 (List.mem_of_getElem? (i := 20) rfl) rfl
theorem q3_21 : (Cond.instanceMethod yX6_train) ∈ wsG := wg3 (List.mem_of_getElem? (i := 21) rfl) rfl
theorem q3_22 : (Cond.selects "SignalsSighted" yX6_train yX6_train) ∈ wsG := wg3 (List.mem_of_getElem? (i := 22) rfl) rfl
theorem q3_23 : (Cond.code yX6_train prog_1_method_10_code (5) (Option.some .int)) ∈ wsG := wg3 (List.mem_of_getElem? (i := 23) rfl) rfl
theorem q3_24 : (Cond.methodLink "SignalsSighted" (104) yX1_addTrain) ∈ wsG := wg3 (List.mem_of_getElem? (i := 24) rfl) rfl
theorem q3_25 : (Cond.methodLink "SignalsSightedLaw" (54) yX6_need) ∈ wsG := wg3 (List.mem_of_getElem? (i := 25) rfl) rfl
theorem q3_26 : (Cond.instanceMethod yX6_need) ∈ wsG := wg3 (List.mem_of_getElem? (i := 26) rfl) rfl
theorem q3_27 : (Cond.selects "SignalsSighted" yX6_need yX6_need) ∈ wsG := wg3 (List.mem_of_getElem? (i := 27) rfl) rfl
theorem q3_28 : (Cond.code yX6_need prog_1_method_11_code (2) (Option.some .int)) ∈ wsG := wg3 (List.mem_of_getElem? (i := 28) rfl) rfl
theorem q3_29 : (Cond.methodLink "SignalsSighted" (108) yX1_setNeed) ∈ wsG := wg3 (List.mem_of_getElem? (i := 29) rfl) rfl
theorem q3_30 : (Cond.methodLink "SignalsSightedLaw" (58) yX6_ofBridge) ∈ wsG := wg3 (List.mem_of_getElem? (i := 30) rfl) rfl
theorem q3_31 : (Cond.instanceMethod yX6_ofBridge) ∈ wsG := wg3 (List.mem_of_getElem? (i := 31) rfl) rfl
theorem q3_32 : (Cond.selects "SignalsSighted" yX6_ofBridge yX6_ofBridge) ∈ wsG := wg3 (List.mem_of_getElem? (i := 32) rfl) rfl
theorem q3_33 : (Cond.code yX6_ofBridge prog_1_method_12_code (3) (Option.some .int)) ∈ wsG := wg3 (List.mem_of_getElem? (i := 33) rfl) rfl
theorem q3_34 : (Cond.methodLink "SignalsSightedLaw" (62) yX6_ofPost) ∈ wsG := wg3 (List.mem_of_getElem? (i := 34) rfl) rfl
theorem q3_35 : (Cond.instanceMethod yX6_ofPost) ∈ wsG := wg3 (List.mem_of_getElem? (i := 35) rfl) rfl
theorem q3_36 : (Cond.selects "SignalsSighted" yX6_ofPost yX6_ofPost) ∈ wsG := wg3 (List.mem_of_getElem? (i := 36) rfl) rfl
theorem q3_37 : (Cond.code yX6_ofPost prog_1_method_13_code (3) (Option.some .int)) ∈ wsG := wg3 (List.mem_of_getElem? (i := 37) rfl) rfl
theorem q3_38 : (Cond.methodLink "SignalsSighted" (120) yX1_hasPost) ∈ wsG := wg3 (List.mem_of_getElem? (i := 38) rfl) rfl
theorem q3_39 : (Cond.methodLink "SignalsSightedLaw" (66) yX6_ofTrain) ∈ wsG := wg3 (List.mem_of_getElem? (i := 39) rfl) rfl
theorem q3_40 : (Cond.instanceMethod yX6_ofTrain) ∈ wsG := wg3 (List.mem_of_getElem? (i := 40) rfl) rfl
theorem q3_41 : (Cond.selects "SignalsSighted" yX6_ofTrain yX6_ofTrain) ∈ wsG := wg3 (List.mem_of_getElem? (i := 41) rfl) rfl
theorem q3_42 : (Cond.code yX6_ofTrain prog_1_method_14_code (4) (Option.some .int)) ∈ wsG := wg3 (List.mem_of_getElem? (i := 42) rfl) rfl
theorem q3_43 : (Cond.methodLink "SignalsSighted" (129) yX1_hasTrain) ∈ wsG := wg3 (List.mem_of_getElem? (i := 43) rfl) rfl
theorem q3_44 : (Cond.instanceMethod yX1_hasTrain) ∈ wsG := wg3 (List.mem_of_getElem? (i := 44) rfl) rfl
theorem q3_45 : (Cond.selects "SignalsSighted$Line" yX1_hasTrain yX1_hasTrain) ∈ wsG := wg3 (List.mem_of_getElem? (i := 45) rfl) rfl
theorem q3_46 : (Cond.code yX1_hasTrain prog_3_method_6_code (2) (Option.some .boolean)) ∈ wsG := wg3 (List.mem_of_getElem? (i := 46) rfl) rfl
theorem q3_47 : (Cond.methodLink "SignalsSighted" (148) yX5_eye) ∈ wsG := wg3 (List.mem_of_getElem? (i := 47) rfl) rfl
theorem q3_48 : (Cond.instanceMethod yX5_eye) ∈ wsG := wg3 (List.mem_of_getElem? (i := 48) rfl) rfl
theorem q3_49 : (Cond.selects "SignalsSighted$Train" yX5_eye yX5_eye) ∈ wsG := wg3 (List.mem_of_getElem? (i := 49) rfl) rfl
theorem q3_50 : (Cond.code yX5_eye prog_7_method_3_code (1) (Option.some .int)) ∈ wsG := wg3 (List.mem_of_getElem? (i := 50) rfl) rfl
theorem q3_51 : (Cond.methodLink "SignalsSightedLaw" (70) yX6_height) ∈ wsG := wg3 (List.mem_of_getElem? (i := 51) rfl) rfl
theorem q3_52 : (Cond.instanceMethod yX6_height) ∈ wsG := wg3 (List.mem_of_getElem? (i := 52) rfl) rfl
theorem q3_53 : (Cond.selects "SignalsSighted" yX6_height yX6_height) ∈ wsG := wg3 (List.mem_of_getElem? (i := 53) rfl) rfl
theorem q3_54 : (Cond.code yX6_height prog_1_method_15_code (2) (Option.some .int)) ∈ wsG := wg3 (List.mem_of_getElem? (i := 54) rfl) rfl
theorem q3_55 : (Cond.methodLink "SignalsSighted" (151) yX1_hasCell) ∈ wsG := wg3 (List.mem_of_getElem? (i := 55) rfl) rfl
theorem q3_56 : (Cond.methodLink "SignalsSightedLaw" (74) yX6_time) ∈ wsG := wg3 (List.mem_of_getElem? (i := 56) rfl) rfl
theorem q3_57 : (Cond.instanceMethod yX6_time) ∈ wsG := wg3 (List.mem_of_getElem? (i := 57) rfl) rfl
theorem q3_58 : (Cond.selects "SignalsSighted" yX6_time yX6_time) ∈ wsG := wg3 (List.mem_of_getElem? (i := 58) rfl) rfl
theorem q3_59 : (Cond.code yX6_time prog_1_method_16_code (3) (Option.some .int)) ∈ wsG := wg3 (List.mem_of_getElem? (i := 59) rfl) rfl
theorem q3_60 : (Cond.methodLink "SignalsSighted" (157) yX1_allBridges) ∈ wsG := wg3 (List.mem_of_getElem? (i := 60) rfl) rfl
theorem q3_61 : (Cond.instanceMethod yX1_allBridges) ∈ wsG := wg3 (List.mem_of_getElem? (i := 61) rfl) rfl
theorem q3_62 : (Cond.selects "SignalsSighted$Line" yX1_allBridges yX1_allBridges) ∈ wsG := wg3 (List.mem_of_getElem? (i := 62) rfl) rfl
theorem q3_63 : (Cond.code yX1_allBridges prog_3_method_7_code (1) (Option.some .int)) ∈ wsG := wg3 (List.mem_of_getElem? (i := 63) rfl) rfl
theorem q3_64 : (Cond.methodLink "SignalsSighted" (160) yX1_timeIn) ∈ wsG := wg3 (List.mem_of_getElem? (i := 64) rfl) rfl
theorem q3_65 : (Cond.instanceMethod yX1_timeIn) ∈ wsG := wg3 (List.mem_of_getElem? (i := 65) rfl) rfl
theorem q3_66 : (Cond.selects "SignalsSighted$Line" yX1_timeIn yX1_timeIn) ∈ wsG := wg3 (List.mem_of_getElem? (i := 66) rfl) rfl
theorem q3_67 : (Cond.code yX1_timeIn prog_3_method_19_code (6) (Option.some .int)) ∈ wsG := wg3 (List.mem_of_getElem? (i := 67) rfl) rfl
theorem q3_68 : (Cond.methodLink "SignalsSighted$Line" (109) yX5_step) ∈ wsG := wg3 (List.mem_of_getElem? (i := 68) rfl) rfl
theorem q3_69 : (Cond.instanceMethod yX5_step) ∈ wsG := wg3 (List.mem_of_getElem? (i := 69) rfl) rfl
theorem q3_70 : (Cond.selects "SignalsSighted$Train" yX5_step yX5_step) ∈ wsG := wg3 (List.mem_of_getElem? (i := 70) rfl) rfl
theorem q3_71 : (Cond.code yX5_step prog_7_method_5_code (1) (Option.some .int)) ∈ wsG := wg3 (List.mem_of_getElem? (i := 71) rfl) rfl
theorem q3_72 : (Cond.methodLink "SignalsSighted$Line" (113) yJ9_max_7cf53) ∈ wsG := wg3 (List.mem_of_getElem? (i := 72) rfl) rfl
theorem q3_73 : (Cond.static yJ9_max_7cf53) ∈ wsG := wg3 (List.mem_of_getElem? (i := 73) rfl) rfl
theorem q3_74 : (Cond.code yJ9_max_7cf53 prog_11_method_65_code (2) (Option.some .int)) ∈ wsG := wg3 (List.mem_of_getElem? (i := 74) rfl) rfl
theorem q3_75 : (Cond.methodLink "SignalsSighted$Line" (119) yX1_isBridged) ∈ wsG := wg3 (List.mem_of_getElem? (i := 75) rfl) rfl
theorem q3_77 : (Cond.instanceMethod yX1_isBridged) ∈ wsG := wg3 (List.mem_of_getElem? (i := 77) rfl) rfl
theorem q3_78 : (Cond.code yX1_isBridged prog_3_method_20_code (4) (Option.some .boolean)) ∈ wsG := wg3 (List.mem_of_getElem? (i := 78) rfl) rfl
theorem q3_79 : (Cond.methodLink "SignalsSighted$Line" (123) yX5_timeFor) ∈ wsG := wg3 (List.mem_of_getElem? (i := 79) rfl) rfl
theorem q3_80 : (Cond.instanceMethod yX5_timeFor) ∈ wsG := wg3 (List.mem_of_getElem? (i := 80) rfl) rfl
theorem q3_81 : (Cond.selects "SignalsSighted$Train" yX5_timeFor yX5_timeFor) ∈ wsG := wg3 (List.mem_of_getElem? (i := 81) rfl) rfl
theorem q3_82 : (Cond.code yX5_timeFor prog_7_method_4_code (4) (Option.some .int)) ∈ wsG := wg3 (List.mem_of_getElem? (i := 82) rfl) rfl
theorem q3_83 : (Cond.methodLink "SignalsSighted$Train" (24) yJ9_max_7cf53) ∈ wsG := wg3 (List.mem_of_getElem? (i := 83) rfl) rfl
theorem q3_84 : (Cond.methodLink "SignalsSightedLaw" (78) yX6_sight) ∈ wsG := wg3 (List.mem_of_getElem? (i := 84) rfl) rfl
theorem q3_85 : (Cond.instanceMethod yX6_sight) ∈ wsG := wg3 (List.mem_of_getElem? (i := 85) rfl) rfl
theorem q3_86 : (Cond.selects "SignalsSighted" yX6_sight yX6_sight) ∈ wsG := wg3 (List.mem_of_getElem? (i := 86) rfl) rfl
theorem q3_87 : (Cond.code yX6_sight prog_1_method_17_code (5) (Option.some .int)) ∈ wsG := wg3 (List.mem_of_getElem? (i := 87) rfl) rfl
theorem q3_88 : (Cond.methodLink "SignalsSighted" (164) yX1_isClear) ∈ wsG := wg3 (List.mem_of_getElem? (i := 88) rfl) rfl
theorem q3_89 : (Cond.instanceMethod yX1_isClear) ∈ wsG := wg3 (List.mem_of_getElem? (i := 89) rfl) rfl
theorem q3_90 : (Cond.selects "SignalsSighted$Line" yX1_isClear yX1_isClear) ∈ wsG := wg3 (List.mem_of_getElem? (i := 90) rfl) rfl
theorem q3_91 : (Cond.code yX1_isClear prog_3_method_21_code (14) (Option.some .boolean)) ∈ wsG := wg3 (List.mem_of_getElem? (i := 91) rfl) rfl
theorem q3_92 : (Cond.methodLink "SignalsSighted$Line" (127) yJ9_min_7cf53) ∈ wsG := wg3 (List.mem_of_getElem? (i := 92) rfl) rfl
theorem q3_93 : (Cond.static yJ9_min_7cf53) ∈ wsG := wg3 (List.mem_of_getElem? (i := 93) rfl) rfl
theorem q3_94 : (Cond.code yJ9_min_7cf53 prog_11_method_69_code (2) (Option.some .int)) ∈ wsG := wg3 (List.mem_of_getElem? (i := 94) rfl) rfl
theorem q3_95 : (Cond.methodLink "SignalsSighted" (168) yX6_oneIf) ∈ wsG := wg3 (List.mem_of_getElem? (i := 95) rfl) rfl
theorem q3_96 : (Cond.static yX6_oneIf) ∈ wsG := wg3 (List.mem_of_getElem? (i := 96) rfl) rfl
theorem q3_97 : (Cond.code yX6_oneIf prog_1_method_51_code (1) (Option.some .int)) ∈ wsG := wg3 (List.mem_of_getElem? (i := 97) rfl) rfl
theorem q3_98 : (Cond.methodLink "SignalsSightedLaw" (82) yX6_sees) ∈ wsG := wg3 (List.mem_of_getElem? (i := 98) rfl) rfl
theorem q3_99 : (Cond.instanceMethod yX6_sees) ∈ wsG := wg3 (List.mem_of_getElem? (i := 99) rfl) rfl
theorem q3_100 : (Cond.selects "SignalsSighted" yX6_sees yX6_sees) ∈ wsG := wg3 (List.mem_of_getElem? (i := 100) rfl) rfl
theorem q3_101 : (Cond.code yX6_sees prog_1_method_18_code (4) (Option.some .int)) ∈ wsG := wg3 (List.mem_of_getElem? (i := 101) rfl) rfl
theorem q3_102 : (Cond.methodLink "SignalsSighted" (172) yX1_seesPost) ∈ wsG := wg3 (List.mem_of_getElem? (i := 102) rfl) rfl
theorem q3_103 : (Cond.instanceMethod yX1_seesPost) ∈ wsG := wg3 (List.mem_of_getElem? (i := 103) rfl) rfl
theorem q3_104 : (Cond.selects "SignalsSighted$Line" yX1_seesPost yX1_seesPost) ∈ wsG := wg3 (List.mem_of_getElem? (i := 104) rfl) rfl
theorem q3_105 : (Cond.code yX1_seesPost prog_3_method_22_code (7) (Option.some .boolean)) ∈ wsG := wg3 (List.mem_of_getElem? (i := 105) rfl) rfl
theorem q3_106 : (Cond.methodLink "SignalsSighted$Line" (130) yX5_eye) ∈ wsG := wg3 (List.mem_of_getElem? (i := 106) rfl) rfl
theorem q3_107 : (Cond.methodLink "SignalsSighted$Line" (133) yX1_isClear) ∈ wsG := wg3 (List.mem_of_getElem? (i := 107) rfl) rfl
theorem q3_108 : (Cond.methodLink "SignalsSightedLaw" (86) yX6_first) ∈ wsG := wg3 (List.mem_of_getElem? (i := 108) rfl) rfl
theorem q3_109 : (Cond.instanceMethod yX6_first) ∈ wsG := wg3 (List.mem_of_getElem? (i := 109) rfl) rfl
theorem q3_110 : (Cond.selects "SignalsSighted" yX6_first yX6_first) ∈ wsG := wg3 (List.mem_of_getElem? (i := 110) rfl) rfl
theorem q3_111 : (Cond.code yX6_first prog_1_method_19_code (3) (Option.some .int)) ∈ wsG := wg3 (List.mem_of_getElem? (i := 111) rfl) rfl
theorem q3_112 : (Cond.methodLink "SignalsSighted" (176) yX1_firstCell) ∈ wsG := wg3 (List.mem_of_getElem? (i := 112) rfl) rfl
theorem q3_113 : (Cond.instanceMethod yX1_firstCell) ∈ wsG := wg3 (List.mem_of_getElem? (i := 113) rfl) rfl
theorem q3_114 : (Cond.selects "SignalsSighted$Line" yX1_firstCell yX1_firstCell) ∈ wsG := wg3 (List.mem_of_getElem? (i := 114) rfl) rfl
theorem q3_115 : (Cond.code yX1_firstCell prog_3_method_23_code (8) (Option.some .int)) ∈ wsG := wg3 (List.mem_of_getElem? (i := 115) rfl) rfl
theorem q3_116 : (Cond.methodLink "SignalsSightedLaw" (90) yX6_warned) ∈ wsG := wg3 (List.mem_of_getElem? (i := 116) rfl) rfl
theorem q3_117 : (Cond.instanceMethod yX6_warned) ∈ wsG := wg3 (List.mem_of_getElem? (i := 117) rfl) rfl
theorem q3_118 : (Cond.selects "SignalsSighted" yX6_warned yX6_warned) ∈ wsG := wg3 (List.mem_of_getElem? (i := 118) rfl) rfl
theorem q3_119 : (Cond.code yX6_warned prog_1_method_20_code (3) (Option.some .int)) ∈ wsG := wg3 (List.mem_of_getElem? (i := 119) rfl) rfl
theorem q3_120 : (Cond.methodLink "SignalsSighted" (180) yX1_warningOf) ∈ wsG := wg3 (List.mem_of_getElem? (i := 120) rfl) rfl
theorem q3_121 : (Cond.instanceMethod yX1_warningOf) ∈ wsG := wg3 (List.mem_of_getElem? (i := 121) rfl) rfl
theorem q3_122 : (Cond.selects "SignalsSighted$Line" yX1_warningOf yX1_warningOf) ∈ wsG := wg3 (List.mem_of_getElem? (i := 122) rfl) rfl
theorem q3_123 : (Cond.code yX1_warningOf prog_3_method_24_code (4) (Option.some .int)) ∈ wsG := wg3 (List.mem_of_getElem? (i := 123) rfl) rfl
theorem q3_124 : (Cond.methodLink "SignalsSighted$Line" (137) yX1_warningFor) ∈ wsG := wg3 (List.mem_of_getElem? (i := 124) rfl) rfl
theorem q3_126 : (Cond.instanceMethod yX1_warningFor) ∈ wsG := wg3 (List.mem_of_getElem? (i := 126) rfl) rfl
theorem q3_127 : (Cond.code yX1_warningFor prog_3_method_25_code (8) (Option.some .int)) ∈ wsG := wg3 (List.mem_of_getElem? (i := 127) rfl) rfl
theorem q3_128 : (Cond.methodLink "SignalsSighted$Line" (141) yX1_timeIn) ∈ wsG := wg3 (List.mem_of_getElem? (i := 128) rfl) rfl
theorem q3_129 : (Cond.methodLink "SignalsSightedLaw" (94) yX6_safe) ∈ wsG := wg3 (List.mem_of_getElem? (i := 129) rfl) rfl
theorem q3_130 : (Cond.instanceMethod yX6_safe) ∈ wsG := wg3 (List.mem_of_getElem? (i := 130) rfl) rfl
theorem q3_131 : (Cond.selects "SignalsSighted" yX6_safe yX6_safe) ∈ wsG := wg3 (List.mem_of_getElem? (i := 131) rfl) rfl
theorem q3_132 : (Cond.code yX6_safe prog_1_method_21_code (1) (Option.some .int)) ∈ wsG := wg3 (List.mem_of_getElem? (i := 132) rfl) rfl
theorem q3_133 : (Cond.methodLink "SignalsSighted" (183) yX1_isSafe) ∈ wsG := wg3 (List.mem_of_getElem? (i := 133) rfl) rfl
theorem q3_134 : (Cond.instanceMethod yX1_isSafe) ∈ wsG := wg3 (List.mem_of_getElem? (i := 134) rfl) rfl
theorem q3_135 : (Cond.selects "SignalsSighted$Line" yX1_isSafe yX1_isSafe) ∈ wsG := wg3 (List.mem_of_getElem? (i := 135) rfl) rfl
theorem q3_136 : (Cond.code yX1_isSafe prog_3_method_28_code (4) (Option.some .boolean)) ∈ wsG := wg3 (List.mem_of_getElem? (i := 136) rfl) rfl
theorem q3_137 : (Cond.methodLink "SignalsSighted$Line" (148) yX1_warningOf) ∈ wsG := wg3 (List.mem_of_getElem? (i := 137) rfl) rfl
theorem q3_138 : (Cond.methodLink "SignalsSightedLaw" (98) yX6_moved) ∈ wsG := wg3 (List.mem_of_getElem? (i := 138) rfl) rfl
theorem q3_139 : (Cond.instanceMethod yX6_moved) ∈ wsG := wg3 (List.mem_of_getElem? (i := 139) rfl) rfl
theorem q3_140 : (Cond.selects "SignalsSighted" yX6_moved yX6_moved) ∈ wsG := wg3 (List.mem_of_getElem? (i := 140) rfl) rfl
theorem q3_141 : (Cond.code yX6_moved prog_1_method_22_code (2) (Option.some .int)) ∈ wsG := wg3 (List.mem_of_getElem? (i := 141) rfl) rfl
theorem q3_142 : (Cond.methodLink "SignalsSighted" (186) yX2_answer) ∈ wsG := wg3 (List.mem_of_getElem? (i := 142) rfl) rfl
theorem q3_143 : (Cond.instanceMethod yX2_answer) ∈ wsG := wg3 (List.mem_of_getElem? (i := 143) rfl) rfl
theorem q3_144 : (Cond.selects "SignalsSighted$Moves" yX2_answer yX2_answer) ∈ wsG := wg3 (List.mem_of_getElem? (i := 144) rfl) rfl
theorem q3_145 : (Cond.code yX2_answer prog_4_method_2_code (5) (Option.some .int)) ∈ wsG := wg3 (List.mem_of_getElem? (i := 145) rfl) rfl
theorem q3_146 : (Cond.methodLink "SignalsSighted$Moves" (25) yX2_prepare) ∈ wsG := wg3 (List.mem_of_getElem? (i := 146) rfl) rfl
theorem q3_148 : (Cond.instanceMethod yX2_prepare) ∈ wsG := wg3 (List.mem_of_getElem? (i := 148) rfl) rfl
theorem q3_149 : (Cond.code yX2_prepare prog_4_method_3_code (5) none) ∈ wsG := wg3 (List.mem_of_getElem? (i := 149) rfl) rfl
theorem q3_150 : (Cond.methodLink "SignalsSighted$Moves" (53) yX1_keepsAll) ∈ wsG := wg3 (List.mem_of_getElem? (i := 150) rfl) rfl
theorem q3_151 : (Cond.instanceMethod yX1_keepsAll) ∈ wsG := wg3 (List.mem_of_getElem? (i := 151) rfl) rfl
theorem q3_152 : (Cond.selects "SignalsSighted$Line" yX1_keepsAll yX1_keepsAll) ∈ wsG := wg3 (List.mem_of_getElem? (i := 152) rfl) rfl
theorem q3_153 : (Cond.code yX1_keepsAll prog_3_method_26_code (4) (Option.some .boolean)) ∈ wsG := wg3 (List.mem_of_getElem? (i := 153) rfl) rfl
theorem q3_154 : (Cond.methodLink "SignalsSighted$Line" (145) yX1_allBridges) ∈ wsG := wg3 (List.mem_of_getElem? (i := 154) rfl) rfl
theorem q3_155 : (Cond.methodLink "SignalsSighted$Moves" (29) yX2_leastSum) ∈ wsG := wg3 (List.mem_of_getElem? (i := 155) rfl) rfl
theorem q3_157 : (Cond.instanceMethod yX2_leastSum) ∈ wsG := wg3 (List.mem_of_getElem? (i := 157) rfl) rfl
theorem q3_158 : (Cond.code yX2_leastSum prog_4_method_5_code (7) (Option.some .int)) ∈ wsG := wg3 (List.mem_of_getElem? (i := 158) rfl) rfl
theorem q3_159 : (Cond.constant "SignalsSighted$Moves" (33) (1000000)) ∈ wsG := wg3 (List.mem_of_getElem? (i := 159) rfl) rfl
theorem q3_160 : (Cond.methodLink "SignalsSighted$Moves" (57) yX2_mayStand) ∈ wsG := wg3 (List.mem_of_getElem? (i := 160) rfl) rfl
theorem q3_162 : (Cond.instanceMethod yX2_mayStand) ∈ wsG := wg3 (List.mem_of_getElem? (i := 162) rfl) rfl
theorem q3_163 : (Cond.code yX2_mayStand prog_4_method_6_code (3) (Option.some .boolean)) ∈ wsG := wg3 (List.mem_of_getElem? (i := 163) rfl) rfl
theorem q3_164 : (Cond.methodLink "SignalsSighted$Moves" (60) yJ9_abs_0f7a4) ∈ wsG := wg3 (List.mem_of_getElem? (i := 164) rfl) rfl
theorem q3_165 : (Cond.static yJ9_abs_0f7a4) ∈ wsG := wg3 (List.mem_of_getElem? (i := 165) rfl) rfl
theorem q3_166 : (Cond.code yJ9_abs_0f7a4 prog_11_method_59_code (1) (Option.some .int)) ∈ wsG := wg3 (List.mem_of_getElem? (i := 166) rfl) rfl
theorem q3_167 : (Cond.methodLink "SignalsSighted$Moves" (66) yJ9_min_7cf53) ∈ wsG := wg3 (List.mem_of_getElem? (i := 167) rfl) rfl
theorem q3_168 : (Cond.methodLink "SignalsSighted$Moves" (34) yX2_firstCellBy) ∈ wsG := wg3 (List.mem_of_getElem? (i := 168) rfl) rfl
theorem q3_170 : (Cond.instanceMethod yX2_firstCellBy) ∈ wsG := wg3 (List.mem_of_getElem? (i := 170) rfl) rfl
theorem q3_171 : (Cond.code yX2_firstCellBy prog_4_method_4_code (5) (Option.some .int)) ∈ wsG := wg3 (List.mem_of_getElem? (i := 171) rfl) rfl
theorem q3_172 : (Cond.methodLink "SignalsSightedLaw" (102) yX6_raised) ∈ wsG := wg3 (List.mem_of_getElem? (i := 172) rfl) rfl
theorem q3_173 : (Cond.instanceMethod yX6_raised) ∈ wsG := wg3 (List.mem_of_getElem? (i := 173) rfl) rfl
theorem q3_174 : (Cond.selects "SignalsSighted" yX6_raised yX6_raised) ∈ wsG := wg3 (List.mem_of_getElem? (i := 174) rfl) rfl
theorem q3_175 : (Cond.code yX6_raised prog_1_method_23_code (3) (Option.some .int)) ∈ wsG := wg3 (List.mem_of_getElem? (i := 175) rfl) rfl
theorem q3_176 : (Cond.methodLink "SignalsSighted" (190) yX1_keepsAll) ∈ wsG := wg3 (List.mem_of_getElem? (i := 176) rfl) rfl
theorem q3_177 : (Cond.methodLink "SignalsSightedLaw" (106) yX6_freed) ∈ wsG := wg3 (List.mem_of_getElem? (i := 177) rfl) rfl
theorem q3_178 : (Cond.instanceMethod yX6_freed) ∈ wsG := wg3 (List.mem_of_getElem? (i := 178) rfl) rfl
theorem q3_179 : (Cond.selects "SignalsSighted" yX6_freed yX6_freed) ∈ wsG := wg3 (List.mem_of_getElem? (i := 179) rfl) rfl
theorem q3_180 : (Cond.code yX6_freed prog_1_method_24_code (3) (Option.some .long)) ∈ wsG := wg3 (List.mem_of_getElem? (i := 180) rfl) rfl
theorem q3_181 : (Cond.methodLink "SignalsSighted" (194) yX6_refusedLong) ∈ wsG := wg3 (List.mem_of_getElem? (i := 181) rfl) rfl
theorem q3_183 : (Cond.instanceMethod yX6_refusedLong) ∈ wsG := wg3 (List.mem_of_getElem? (i := 183) rfl) rfl
theorem q3_184 : (Cond.code yX6_refusedLong prog_1_method_49_code (2) (Option.some .long)) ∈ wsG := wg3 (List.mem_of_getElem? (i := 184) rfl) rfl
theorem q3_185 : (Cond.constantLong "SignalsSighted" (287) (4000000000000000000)) ∈ wsG := wg3 (List.mem_of_getElem? (i := 185) rfl) rfl
theorem q3_186 : (Cond.methodLink "SignalsSighted" (198) yX1_keptPairs) ∈ wsG := wg3 (List.mem_of_getElem? (i := 186) rfl) rfl
theorem q3_187 : (Cond.instanceMethod yX1_keptPairs) ∈ wsG := wg3 (List.mem_of_getElem? (i := 187) rfl) rfl
theorem q3_188 : (Cond.selects "SignalsSighted$Line" yX1_keptPairs yX1_keptPairs) ∈ wsG := wg3 (List.mem_of_getElem? (i := 188) rfl) rfl
theorem q3_189 : (Cond.code yX1_keptPairs prog_3_method_27_code (5) (Option.some .int)) ∈ wsG := wg3 (List.mem_of_getElem? (i := 189) rfl) rfl
theorem q3_190 : (Cond.methodLink "SignalsSightedLaw" (111) yX6_worst) ∈ wsG := wg3 (List.mem_of_getElem? (i := 190) rfl) rfl
theorem q3_191 : (Cond.instanceMethod yX6_worst) ∈ wsG := wg3 (List.mem_of_getElem? (i := 191) rfl) rfl
theorem q3_192 : (Cond.selects "SignalsSighted" yX6_worst yX6_worst) ∈ wsG := wg3 (List.mem_of_getElem? (i := 192) rfl) rfl
theorem q3_193 : (Cond.code yX6_worst prog_1_method_25_code (6) (Option.some .int)) ∈ wsG := wg3 (List.mem_of_getElem? (i := 193) rfl) rfl
theorem q3_194 : (Cond.methodLink "SignalsSightedLaw" (115) yX6_slowest) ∈ wsG := wg3 (List.mem_of_getElem? (i := 194) rfl) rfl
theorem q3_195 : (Cond.instanceMethod yX6_slowest) ∈ wsG := wg3 (List.mem_of_getElem? (i := 195) rfl) rfl
theorem q3_196 : (Cond.selects "SignalsSighted" yX6_slowest yX6_slowest) ∈ wsG := wg3 (List.mem_of_getElem? (i := 196) rfl) rfl
theorem q3_197 : (Cond.code yX6_slowest prog_1_method_26_code (4) (Option.some .int)) ∈ wsG := wg3 (List.mem_of_getElem? (i := 197) rfl) rfl
theorem q3_198 : (Cond.methodLink "SignalsSighted" (207) yX5_copyFrom) ∈ wsG := wg3 (List.mem_of_getElem? (i := 198) rfl) rfl
theorem q3_199 : (Cond.methodLink "SignalsSightedLaw" (119) yX6_atOnce) ∈ wsG := wg3 (List.mem_of_getElem? (i := 199) rfl) rfl
theorem q3_200 : (Cond.instanceMethod yX6_atOnce) ∈ wsG := wg3 (List.mem_of_getElem? (i := 200) rfl) rfl
theorem q3_201 : (Cond.selects "SignalsSighted" yX6_atOnce yX6_atOnce) ∈ wsG := wg3 (List.mem_of_getElem? (i := 201) rfl) rfl
theorem q3_202 : (Cond.code yX6_atOnce prog_1_method_27_code (3) (Option.some .int)) ∈ wsG := wg3 (List.mem_of_getElem? (i := 202) rfl) rfl
theorem q3_203 : (Cond.methodLink "SignalsSighted" (214) yX1_postsSeen) ∈ wsG := wg3 (List.mem_of_getElem? (i := 203) rfl) rfl
theorem q3_204 : (Cond.instanceMethod yX1_postsSeen) ∈ wsG := wg3 (List.mem_of_getElem? (i := 204) rfl) rfl
theorem q3_205 : (Cond.selects "SignalsSighted$Line" yX1_postsSeen yX1_postsSeen) ∈ wsG := wg3 (List.mem_of_getElem? (i := 205) rfl) rfl
theorem q3_206 : (Cond.code yX1_postsSeen prog_3_method_30_code (5) (Option.some .int)) ∈ wsG := wg3 (List.mem_of_getElem? (i := 206) rfl) rfl
theorem q3_207 : (Cond.methodLink "SignalsSighted$Line" (151) yX1_seesPost) ∈ wsG := wg3 (List.mem_of_getElem? (i := 207) rfl) rfl
theorem q3_208 : (Cond.methodLink "SignalsSightedLaw" (123) yX6_most) ∈ wsG := wg3 (List.mem_of_getElem? (i := 208) rfl) rfl
theorem q3_209 : (Cond.instanceMethod yX6_most) ∈ wsG := wg3 (List.mem_of_getElem? (i := 209) rfl) rfl
theorem q3_210 : (Cond.selects "SignalsSighted" yX6_most yX6_most) ∈ wsG := wg3 (List.mem_of_getElem? (i := 210) rfl) rfl
theorem q3_211 : (Cond.code yX6_most prog_1_method_28_code (3) (Option.some .int)) ∈ wsG := wg3 (List.mem_of_getElem? (i := 211) rfl) rfl
theorem q3_212 : (Cond.methodLink "SignalsSighted" (218) yX1_cellOfMost) ∈ wsG := wg3 (List.mem_of_getElem? (i := 212) rfl) rfl
theorem q3_213 : (Cond.instanceMethod yX1_cellOfMost) ∈ wsG := wg3 (List.mem_of_getElem? (i := 213) rfl) rfl
theorem q3_214 : (Cond.selects "SignalsSighted$Line" yX1_cellOfMost yX1_cellOfMost) ∈ wsG := wg3 (List.mem_of_getElem? (i := 214) rfl) rfl
theorem q3_215 : (Cond.code yX1_cellOfMost prog_3_method_31_code (6) (Option.some .int)) ∈ wsG := wg3 (List.mem_of_getElem? (i := 215) rfl) rfl
theorem q3_216 : (Cond.methodLink "SignalsSighted$Line" (155) yX1_postsSeen) ∈ wsG := wg3 (List.mem_of_getElem? (i := 216) rfl) rfl
theorem q3_217 : (Cond.methodLink "SignalsSighted" (222) yX1_blindCells) ∈ wsG := wg3 (List.mem_of_getElem? (i := 217) rfl) rfl
theorem q3_218 : (Cond.instanceMethod yX1_blindCells) ∈ wsG := wg3 (List.mem_of_getElem? (i := 218) rfl) rfl
theorem q3_219 : (Cond.selects "SignalsSighted$Line" yX1_blindCells yX1_blindCells) ∈ wsG := wg3 (List.mem_of_getElem? (i := 219) rfl) rfl
theorem q3_220 : (Cond.code yX1_blindCells prog_3_method_32_code (4) (Option.some .int)) ∈ wsG := wg3 (List.mem_of_getElem? (i := 220) rfl) rfl
theorem q3_221 : (Cond.methodLink "SignalsSightedLaw" (127) yX6_nearest) ∈ wsG := wg3 (List.mem_of_getElem? (i := 221) rfl) rfl
theorem q3_222 : (Cond.instanceMethod yX6_nearest) ∈ wsG := wg3 (List.mem_of_getElem? (i := 222) rfl) rfl
theorem q3_223 : (Cond.selects "SignalsSighted" yX6_nearest yX6_nearest) ∈ wsG := wg3 (List.mem_of_getElem? (i := 223) rfl) rfl
theorem q3_224 : (Cond.code yX6_nearest prog_1_method_29_code (7) (Option.some .int)) ∈ wsG := wg3 (List.mem_of_getElem? (i := 224) rfl) rfl
theorem q3_225 : (Cond.methodLink "SignalsSighted" (225) yJ9_abs_0f7a4) ∈ wsG := wg3 (List.mem_of_getElem? (i := 225) rfl) rfl
theorem q3_226 : (Cond.methodLink "SignalsSightedLaw" (131) yX6_shadow) ∈ wsG := wg3 (List.mem_of_getElem? (i := 226) rfl) rfl
theorem q3_227 : (Cond.instanceMethod yX6_shadow) ∈ wsG := wg3 (List.mem_of_getElem? (i := 227) rfl) rfl
theorem q3_228 : (Cond.selects "SignalsSighted" yX6_shadow yX6_shadow) ∈ wsG := wg3 (List.mem_of_getElem? (i := 228) rfl) rfl
theorem q3_229 : (Cond.code yX6_shadow prog_1_method_30_code (8) (Option.some .int)) ∈ wsG := wg3 (List.mem_of_getElem? (i := 229) rfl) rfl
theorem q3_230 : (Cond.methodLink "SignalsSightedLaw" (135) yX6_alike) ∈ wsG := wg3 (List.mem_of_getElem? (i := 230) rfl) rfl
theorem q3_231 : (Cond.instanceMethod yX6_alike) ∈ wsG := wg3 (List.mem_of_getElem? (i := 231) rfl) rfl
theorem q3_232 : (Cond.selects "SignalsSighted" yX6_alike yX6_alike) ∈ wsG := wg3 (List.mem_of_getElem? (i := 232) rfl) rfl
theorem q3_233 : (Cond.code yX6_alike prog_1_method_31_code (3) (Option.some .int)) ∈ wsG := wg3 (List.mem_of_getElem? (i := 233) rfl) rfl
theorem q3_234 : (Cond.methodLink "SignalsSighted" (233) yX1_unlikeStretches) ∈ wsG := wg3 (List.mem_of_getElem? (i := 234) rfl) rfl
theorem q3_235 : (Cond.instanceMethod yX1_unlikeStretches) ∈ wsG := wg3 (List.mem_of_getElem? (i := 235) rfl) rfl
theorem q3_236 : (Cond.selects "SignalsSighted$Line" yX1_unlikeStretches yX1_unlikeStretches) ∈ wsG := wg3 (List.mem_of_getElem? (i := 236) rfl) rfl
theorem q3_237 : (Cond.code yX1_unlikeStretches prog_3_method_33_code (4) (Option.some .int)) ∈ wsG := wg3 (List.mem_of_getElem? (i := 237) rfl) rfl
theorem q3_238 : (Cond.methodLink "SignalsSighted$Line" (159) yX1_isRepeated) ∈ wsG := wg3 (List.mem_of_getElem? (i := 238) rfl) rfl
theorem q4_0 : (Cond.instanceMethod yX1_isRepeated) ∈ wsG := wg4 (List.mem_of_getElem? (i := 0) rfl) rfl
theorem q4_1 : (Cond.code yX1_isRepeated prog_3_method_35_code (6) (Option.some .boolean)) ∈ wsG := wg4 (List.mem_of_getElem? (i := 1) rfl) rfl
theorem q4_2 : (Cond.methodLink "SignalsSighted$Line" (163) yX1_areAlike) ∈ wsG := wg4 (List.mem_of_getElem? (i := 2) rfl) rfl
theorem q4_4 : (Cond.instanceMethod yX1_areAlike) ∈ wsG := wg4 (List.mem_of_getElem? (i := 4) rfl) rfl
theorem q4_5 : (Cond.code yX1_areAlike prog_3_method_36_code (7) (Option.some .boolean)) ∈ wsG := wg4 (List.mem_of_getElem? (i := 5) rfl) rfl
theorem q4_6 : (Cond.methodLink "SignalsSighted" (236) yX1_firstRepeated) ∈ wsG := wg4 (List.mem_of_getElem? (i := 6) rfl) rfl
theorem q4_7 : (Cond.instanceMethod yX1_firstRepeated) ∈ wsG := wg4 (List.mem_of_getElem? (i := 7) rfl) rfl
theorem q4_8 : (Cond.selects "SignalsSighted$Line" yX1_firstRepeated yX1_firstRepeated) ∈ wsG := wg4 (List.mem_of_getElem? (i := 8) rfl) rfl
theorem q4_9 : (Cond.code yX1_firstRepeated prog_3_method_34_code (3) (Option.some .int)) ∈ wsG := wg4 (List.mem_of_getElem? (i := 9) rfl) rfl
theorem q4_10 : (Cond.methodLink "SignalsSightedLaw" (139) yX6_steepest) ∈ wsG := wg4 (List.mem_of_getElem? (i := 10) rfl) rfl
theorem q4_11 : (Cond.instanceMethod yX6_steepest) ∈ wsG := wg4 (List.mem_of_getElem? (i := 11) rfl) rfl
theorem q4_12 : (Cond.selects "SignalsSighted" yX6_steepest yX6_steepest) ∈ wsG := wg4 (List.mem_of_getElem? (i := 12) rfl) rfl
theorem q4_13 : (Cond.code yX6_steepest prog_1_method_32_code (6) (Option.some .int)) ∈ wsG := wg4 (List.mem_of_getElem? (i := 13) rfl) rfl
theorem q4_14 : (Cond.methodLink "SignalsSightedLaw" (143) yX6_down) ∈ wsG := wg4 (List.mem_of_getElem? (i := 14) rfl) rfl
theorem q4_15 : (Cond.instanceMethod yX6_down) ∈ wsG := wg4 (List.mem_of_getElem? (i := 15) rfl) rfl
theorem q4_16 : (Cond.selects "SignalsSighted" yX6_down yX6_down) ∈ wsG := wg4 (List.mem_of_getElem? (i := 16) rfl) rfl
theorem q4_17 : (Cond.code yX6_down prog_1_method_33_code (3) (Option.some .long)) ∈ wsG := wg4 (List.mem_of_getElem? (i := 17) rfl) rfl
theorem q4_18 : (Cond.methodLink "SignalsSighted" (239) yX6_safeWays) ∈ wsG := wg4 (List.mem_of_getElem? (i := 18) rfl) rfl
theorem q4_20 : (Cond.instanceMethod yX6_safeWays) ∈ wsG := wg4 (List.mem_of_getElem? (i := 20) rfl) rfl
theorem q4_21 : (Cond.code yX6_safeWays prog_1_method_54_code (5) (Option.some .int)) ∈ wsG := wg4 (List.mem_of_getElem? (i := 21) rfl) rfl
theorem q4_22 : (Cond.methodLink "SignalsSighted" (343) yJ6_bitCount_0f7a4) ∈ wsG := wg4 (List.mem_of_getElem? (i := 22) rfl) rfl
theorem q4_23 : (Cond.static yJ6_bitCount_0f7a4) ∈ wsG := wg4 (List.mem_of_getElem? (i := 23) rfl) rfl
theorem q4_24 : (Cond.code yJ6_bitCount_0f7a4 prog_10_method_49_code (1) (Option.some .int)) ∈ wsG := wg4 (List.mem_of_getElem? (i := 24) rfl) rfl
theorem q4_25 : (Cond.constant "java/lang/Integer" (265) (1431655765)) ∈ wsG := wg4 (List.mem_of_getElem? (i := 25) rfl) rfl
theorem q4_26 : (Cond.constant "java/lang/Integer" (266) (858993459)) ∈ wsG := wg4 (List.mem_of_getElem? (i := 26) rfl) rfl
theorem q4_27 : (Cond.constant "java/lang/Integer" (267) (252645135)) ∈ wsG := wg4 (List.mem_of_getElem? (i := 27) rfl) rfl
theorem q4_28 : (Cond.methodLink "SignalsSighted" (242) yX6_power) ∈ wsG := wg4 (List.mem_of_getElem? (i := 28) rfl) rfl
theorem q4_29 : (Cond.static yX6_power) ∈ wsG := wg4 (List.mem_of_getElem? (i := 29) rfl) rfl
theorem q4_30 : (Cond.code yX6_power prog_1_method_55_code (4) (Option.some .int)) ∈ wsG := wg4 (List.mem_of_getElem? (i := 30) rfl) rfl
theorem q4_31 : (Cond.methodLink "SignalsSighted" (245) yX6_partOf) ∈ wsG := wg4 (List.mem_of_getElem? (i := 31) rfl) rfl
theorem q4_32 : (Cond.static yX6_partOf) ∈ wsG := wg4 (List.mem_of_getElem? (i := 32) rfl) rfl
theorem q4_33 : (Cond.code yX6_partOf prog_1_method_56_code (4) (Option.some .long)) ∈ wsG := wg4 (List.mem_of_getElem? (i := 33) rfl) rfl
theorem q4_34 : (Cond.methodLink "SignalsSighted" (348) yX6_commonDivisor) ∈ wsG := wg4 (List.mem_of_getElem? (i := 34) rfl) rfl
theorem q4_35 : (Cond.static yX6_commonDivisor) ∈ wsG := wg4 (List.mem_of_getElem? (i := 35) rfl) rfl
theorem q4_36 : (Cond.code yX6_commonDivisor prog_1_method_57_code (6) (Option.some .int)) ∈ wsG := wg4 (List.mem_of_getElem? (i := 36) rfl) rfl
theorem q4_37 : (Cond.methodLink "SignalsSightedLaw" (148) yX6_mean) ∈ wsG := wg4 (List.mem_of_getElem? (i := 37) rfl) rfl
theorem q4_38 : (Cond.instanceMethod yX6_mean) ∈ wsG := wg4 (List.mem_of_getElem? (i := 38) rfl) rfl
theorem q4_39 : (Cond.selects "SignalsSighted" yX6_mean yX6_mean) ∈ wsG := wg4 (List.mem_of_getElem? (i := 39) rfl) rfl
theorem q4_40 : (Cond.code yX6_mean prog_1_method_34_code (2) (Option.some .long)) ∈ wsG := wg4 (List.mem_of_getElem? (i := 40) rfl) rfl
theorem q4_41 : (Cond.methodLink "SignalsSighted" (249) yX1_allWarnings) ∈ wsG := wg4 (List.mem_of_getElem? (i := 41) rfl) rfl
theorem q4_42 : (Cond.instanceMethod yX1_allWarnings) ∈ wsG := wg4 (List.mem_of_getElem? (i := 42) rfl) rfl
theorem q4_43 : (Cond.selects "SignalsSighted$Line" yX1_allWarnings yX1_allWarnings) ∈ wsG := wg4 (List.mem_of_getElem? (i := 43) rfl) rfl
theorem q4_44 : (Cond.code yX1_allWarnings prog_3_method_29_code (4) (Option.some .int)) ∈ wsG := wg4 (List.mem_of_getElem? (i := 44) rfl) rfl
theorem q4_45 : (Cond.methodLink "SignalsSightedLaw" (152) yX6_name) ∈ wsG := wg4 (List.mem_of_getElem? (i := 45) rfl) rfl
theorem q4_46 : (Cond.instanceMethod yX6_name) ∈ wsG := wg4 (List.mem_of_getElem? (i := 46) rfl) rfl
theorem q4_47 : (Cond.selects "SignalsSighted" yX6_name yX6_name) ∈ wsG := wg4 (List.mem_of_getElem? (i := 47) rfl) rfl
theorem q4_48 : (Cond.code yX6_name prog_1_method_35_code (3) (Option.some .int)) ∈ wsG := wg4 (List.mem_of_getElem? (i := 48) rfl) rfl
theorem q4_49 : (Cond.methodLink "SignalsSighted" (256) yX3_has) ∈ wsG := wg4 (List.mem_of_getElem? (i := 49) rfl) rfl
theorem q4_50 : (Cond.instanceMethod yX3_has) ∈ wsG := wg4 (List.mem_of_getElem? (i := 50) rfl) rfl
theorem q4_51 : (Cond.selects "SignalsSighted$Places" yX3_has yX3_has) ∈ wsG := wg4 (List.mem_of_getElem? (i := 51) rfl) rfl
theorem q4_52 : (Cond.code yX3_has prog_5_method_2_code (2) (Option.some .boolean)) ∈ wsG := wg4 (List.mem_of_getElem? (i := 52) rfl) rfl
theorem q4_53 : (Cond.methodLink "SignalsSighted" (264) yX3_letterOf) ∈ wsG := wg4 (List.mem_of_getElem? (i := 53) rfl) rfl
theorem q4_54 : (Cond.instanceMethod yX3_letterOf) ∈ wsG := wg4 (List.mem_of_getElem? (i := 54) rfl) rfl
theorem q4_55 : (Cond.selects "SignalsSighted$Places" yX3_letterOf yX3_letterOf) ∈ wsG := wg4 (List.mem_of_getElem? (i := 55) rfl) rfl
theorem q4_56 : (Cond.code yX3_letterOf prog_5_method_3_code (3) (Option.some .int)) ∈ wsG := wg4 (List.mem_of_getElem? (i := 56) rfl) rfl
theorem q4_57 : (Cond.methodLink "SignalsSightedLaw" (156) yX6_placeAt) ∈ wsG := wg4 (List.mem_of_getElem? (i := 57) rfl) rfl
theorem q4_58 : (Cond.instanceMethod yX6_placeAt) ∈ wsG := wg4 (List.mem_of_getElem? (i := 58) rfl) rfl
theorem q4_59 : (Cond.selects "SignalsSighted" yX6_placeAt yX6_placeAt) ∈ wsG := wg4 (List.mem_of_getElem? (i := 59) rfl) rfl
theorem q4_60 : (Cond.code yX6_placeAt prog_1_method_36_code (2) (Option.some .int)) ∈ wsG := wg4 (List.mem_of_getElem? (i := 60) rfl) rfl
theorem q4_61 : (Cond.methodLink "SignalsSightedLaw" (160) yX6_shelf) ∈ wsG := wg4 (List.mem_of_getElem? (i := 61) rfl) rfl
theorem q4_62 : (Cond.instanceMethod yX6_shelf) ∈ wsG := wg4 (List.mem_of_getElem? (i := 62) rfl) rfl
theorem q4_63 : (Cond.selects "SignalsSighted" yX6_shelf yX6_shelf) ∈ wsG := wg4 (List.mem_of_getElem? (i := 63) rfl) rfl
theorem q4_64 : (Cond.code yX6_shelf prog_1_method_37_code (4) (Option.some .int)) ∈ wsG := wg4 (List.mem_of_getElem? (i := 64) rfl) rfl
theorem q4_65 : (Cond.methodLink "SignalsSighted" (270) yX6_hasShelf) ∈ wsG := wg4 (List.mem_of_getElem? (i := 65) rfl) rfl
theorem q4_66 : (Cond.static yX6_hasShelf) ∈ wsG := wg4 (List.mem_of_getElem? (i := 66) rfl) rfl
theorem q4_67 : (Cond.code yX6_hasShelf prog_1_method_52_code (1) (Option.some .boolean)) ∈ wsG := wg4 (List.mem_of_getElem? (i := 67) rfl) rfl
theorem q4_68 : (Cond.methodLink "SignalsSighted" (273) yX4_becomeRow) ∈ wsG := wg4 (List.mem_of_getElem? (i := 68) rfl) rfl
theorem q4_69 : (Cond.instanceMethod yX4_becomeRow) ∈ wsG := wg4 (List.mem_of_getElem? (i := 69) rfl) rfl
theorem q4_70 : (Cond.selects "SignalsSighted$Shelf" yX4_becomeRow yX4_becomeRow) ∈ wsG := wg4 (List.mem_of_getElem? (i := 70) rfl) rfl
theorem q4_71 : (Cond.code yX4_becomeRow prog_6_method_2_code (4) none) ∈ wsG := wg4 (List.mem_of_getElem? (i := 71) rfl) rfl
theorem q4_72 : (Cond.methodLink "SignalsSightedLaw" (164) yX6_lay) ∈ wsG := wg4 (List.mem_of_getElem? (i := 72) rfl) rfl
theorem q4_73 : (Cond.instanceMethod yX6_lay) ∈ wsG := wg4 (List.mem_of_getElem? (i := 73) rfl) rfl
theorem q4_74 : (Cond.selects "SignalsSighted" yX6_lay yX6_lay) ∈ wsG := wg4 (List.mem_of_getElem? (i := 74) rfl) rfl
theorem q4_75 : (Cond.code yX6_lay prog_1_method_38_code (3) (Option.some .int)) ∈ wsG := wg4 (List.mem_of_getElem? (i := 75) rfl) rfl
theorem q4_76 : (Cond.methodLink "SignalsSighted" (277) yX4_takeTrain) ∈ wsG := wg4 (List.mem_of_getElem? (i := 76) rfl) rfl
theorem q4_77 : (Cond.instanceMethod yX4_takeTrain) ∈ wsG := wg4 (List.mem_of_getElem? (i := 77) rfl) rfl
theorem q4_78 : (Cond.selects "SignalsSighted$Shelf" yX4_takeTrain yX4_takeTrain) ∈ wsG := wg4 (List.mem_of_getElem? (i := 78) rfl) rfl
theorem q4_79 : (Cond.code yX4_takeTrain prog_6_method_3_code (2) none) ∈ wsG := wg4 (List.mem_of_getElem? (i := 79) rfl) rfl
theorem q4_80 : (Cond.methodLink "SignalsSighted$Shelf" (29) yX5_copyFrom) ∈ wsG := wg4 (List.mem_of_getElem? (i := 80) rfl) rfl
theorem q4_81 : (Cond.methodLink "SignalsSightedLaw" (170) yX6_put) ∈ wsG := wg4 (List.mem_of_getElem? (i := 81) rfl) rfl
theorem q4_82 : (Cond.instanceMethod yX6_put) ∈ wsG := wg4 (List.mem_of_getElem? (i := 82) rfl) rfl
theorem q4_83 : (Cond.selects "SignalsSighted" yX6_put yX6_put) ∈ wsG := wg4 (List.mem_of_getElem? (i := 83) rfl) rfl
theorem q4_84 : (Cond.code yX6_put prog_1_method_39_code (6) (Option.some .int)) ∈ wsG := wg4 (List.mem_of_getElem? (i := 84) rfl) rfl
theorem q4_85 : (Cond.methodLink "SignalsSighted" (280) yX4_faultOfPlace) ∈ wsG := wg4 (List.mem_of_getElem? (i := 85) rfl) rfl
theorem q4_86 : (Cond.instanceMethod yX4_faultOfPlace) ∈ wsG := wg4 (List.mem_of_getElem? (i := 86) rfl) rfl
theorem q4_87 : (Cond.selects "SignalsSighted$Shelf" yX4_faultOfPlace yX4_faultOfPlace) ∈ wsG := wg4 (List.mem_of_getElem? (i := 87) rfl) rfl
theorem q4_88 : (Cond.code yX4_faultOfPlace prog_6_method_5_code (2) (Option.some .int)) ∈ wsG := wg4 (List.mem_of_getElem? (i := 88) rfl) rfl
theorem q4_89 : (Cond.methodLink "SignalsSighted" (283) yX4_write) ∈ wsG := wg4 (List.mem_of_getElem? (i := 89) rfl) rfl
theorem q4_90 : (Cond.instanceMethod yX4_write) ∈ wsG := wg4 (List.mem_of_getElem? (i := 90) rfl) rfl
theorem q4_91 : (Cond.selects "SignalsSighted$Shelf" yX4_write yX4_write) ∈ wsG := wg4 (List.mem_of_getElem? (i := 91) rfl) rfl
theorem q4_92 : (Cond.code yX4_write prog_6_method_6_code (4) none) ∈ wsG := wg4 (List.mem_of_getElem? (i := 92) rfl) rfl
theorem q4_93 : (Cond.methodLink "SignalsSightedLaw" (175) yX6_look) ∈ wsG := wg4 (List.mem_of_getElem? (i := 93) rfl) rfl
theorem q4_94 : (Cond.instanceMethod yX6_look) ∈ wsG := wg4 (List.mem_of_getElem? (i := 94) rfl) rfl
theorem q4_95 : (Cond.selects "SignalsSighted" yX6_look yX6_look) ∈ wsG := wg4 (List.mem_of_getElem? (i := 95) rfl) rfl
theorem q4_96 : (Cond.code yX6_look prog_1_method_40_code (4) (Option.some .long)) ∈ wsG := wg4 (List.mem_of_getElem? (i := 96) rfl) rfl
theorem q4_97 : (Cond.methodLink "SignalsSightedLaw" (179) yX6_taken) ∈ wsG := wg4 (List.mem_of_getElem? (i := 97) rfl) rfl
theorem q4_98 : (Cond.instanceMethod yX6_taken) ∈ wsG := wg4 (List.mem_of_getElem? (i := 98) rfl) rfl
theorem q4_99 : (Cond.selects "SignalsSighted" yX6_taken yX6_taken) ∈ wsG := wg4 (List.mem_of_getElem? (i := 99) rfl) rfl
theorem q4_100 : (Cond.code yX6_taken prog_1_method_41_code (4) (Option.some .int)) ∈ wsG := wg4 (List.mem_of_getElem? (i := 100) rfl) rfl
theorem q4_101 : (Cond.methodLink "SignalsSighted" (299) yX5_isOf) ∈ wsG := wg4 (List.mem_of_getElem? (i := 101) rfl) rfl
theorem q4_102 : (Cond.instanceMethod yX5_isOf) ∈ wsG := wg4 (List.mem_of_getElem? (i := 102) rfl) rfl
theorem q4_103 : (Cond.selects "SignalsSighted$Train" yX5_isOf yX5_isOf) ∈ wsG := wg4 (List.mem_of_getElem? (i := 103) rfl) rfl
theorem q4_104 : (Cond.code yX5_isOf prog_7_method_6_code (4) (Option.some .boolean)) ∈ wsG := wg4 (List.mem_of_getElem? (i := 104) rfl) rfl
theorem q4_105 : (Cond.fieldLink "SignalsSighted$Train" (30) "SignalsSighted$Train" "KIND_ABOVE" "[I") ∈ wsG := wg4 (List.mem_of_getElem? (i := 105) rfl) rfl
theorem q4_107 : (Cond.methodLink "SignalsSightedLaw" (183) yX6_whatIs) ∈ wsG := wg4 (List.mem_of_getElem? (i := 107) rfl) rfl
theorem q4_108 : (Cond.instanceMethod yX6_whatIs) ∈ wsG := wg4 (List.mem_of_getElem? (i := 108) rfl) rfl
theorem q4_109 : (Cond.selects "SignalsSighted" yX6_whatIs yX6_whatIs) ∈ wsG := wg4 (List.mem_of_getElem? (i := 109) rfl) rfl
theorem q4_110 : (Cond.code yX6_whatIs prog_1_method_42_code (5) (Option.some .int)) ∈ wsG := wg4 (List.mem_of_getElem? (i := 110) rfl) rfl
theorem q4_111 : (Cond.methodLink "SignalsSighted" (302) yX4_faultOfSort) ∈ wsG := wg4 (List.mem_of_getElem? (i := 111) rfl) rfl
theorem q4_112 : (Cond.instanceMethod yX4_faultOfSort) ∈ wsG := wg4 (List.mem_of_getElem? (i := 112) rfl) rfl
theorem q4_113 : (Cond.selects "SignalsSighted$Shelf" yX4_faultOfSort yX4_faultOfSort) ∈ wsG := wg4 (List.mem_of_getElem? (i := 113) rfl) rfl
theorem q4_114 : (Cond.code yX4_faultOfSort prog_6_method_4_code (2) (Option.some .int)) ∈ wsG := wg4 (List.mem_of_getElem? (i := 114) rfl) rfl
theorem q4_115 : (Cond.methodLink "SignalsSighted" (305) yX6_kindsThatFit) ∈ wsG := wg4 (List.mem_of_getElem? (i := 115) rfl) rfl
theorem q4_117 : (Cond.instanceMethod yX6_kindsThatFit) ∈ wsG := wg4 (List.mem_of_getElem? (i := 117) rfl) rfl
theorem q4_118 : (Cond.code yX6_kindsThatFit prog_1_method_58_code (4) (Option.some .int)) ∈ wsG := wg4 (List.mem_of_getElem? (i := 118) rfl) rfl
theorem q4_119 : (Cond.methodLink "SignalsSighted" (351) yX6_timesFit) ∈ wsG := wg4 (List.mem_of_getElem? (i := 119) rfl) rfl
theorem q4_121 : (Cond.instanceMethod yX6_timesFit) ∈ wsG := wg4 (List.mem_of_getElem? (i := 121) rfl) rfl
theorem q4_122 : (Cond.code yX6_timesFit prog_1_method_60_code (3) (Option.some .boolean)) ∈ wsG := wg4 (List.mem_of_getElem? (i := 122) rfl) rfl
theorem q4_123 : (Cond.methodLink "SignalsSighted" (309) yX6_figuresThatFit) ∈ wsG := wg4 (List.mem_of_getElem? (i := 123) rfl) rfl
theorem q4_125 : (Cond.instanceMethod yX6_figuresThatFit) ∈ wsG := wg4 (List.mem_of_getElem? (i := 125) rfl) rfl
theorem q4_126 : (Cond.code yX6_figuresThatFit prog_1_method_59_code (4) (Option.some .int)) ∈ wsG := wg4 (List.mem_of_getElem? (i := 126) rfl) rfl
theorem q4_127 : (Cond.methodLink "SignalsSightedLaw" (187) yX6_judge) ∈ wsG := wg4 (List.mem_of_getElem? (i := 127) rfl) rfl
theorem q4_128 : (Cond.instanceMethod yX6_judge) ∈ wsG := wg4 (List.mem_of_getElem? (i := 128) rfl) rfl
theorem q4_129 : (Cond.selects "SignalsSighted" yX6_judge yX6_judge) ∈ wsG := wg4 (List.mem_of_getElem? (i := 129) rfl) rfl
theorem q4_130 : (Cond.code yX6_judge prog_1_method_43_code (6) (Option.some .int)) ∈ wsG := wg4 (List.mem_of_getElem? (i := 130) rfl) rfl
theorem q4_131 : (Cond.methodLink "SignalsSightedLaw" (191) yX6_lots) ∈ wsG := wg4 (List.mem_of_getElem? (i := 131) rfl) rfl
theorem q4_132 : (Cond.instanceMethod yX6_lots) ∈ wsG := wg4 (List.mem_of_getElem? (i := 132) rfl) rfl
theorem q4_133 : (Cond.selects "SignalsSighted" yX6_lots yX6_lots) ∈ wsG := wg4 (List.mem_of_getElem? (i := 133) rfl) rfl
theorem q4_134 : (Cond.code yX6_lots prog_1_method_44_code (7) (Option.some .int)) ∈ wsG := wg4 (List.mem_of_getElem? (i := 134) rfl) rfl
theorem q4_135 : (Cond.methodLink "SignalsSighted" (318) yX1_drawGround) ∈ wsG := wg4 (List.mem_of_getElem? (i := 135) rfl) rfl
theorem q4_136 : (Cond.instanceMethod yX1_drawGround) ∈ wsG := wg4 (List.mem_of_getElem? (i := 136) rfl) rfl
theorem q4_137 : (Cond.selects "SignalsSighted$Line" yX1_drawGround yX1_drawGround) ∈ wsG := wg4 (List.mem_of_getElem? (i := 137) rfl) rfl
theorem q4_138 : (Cond.code yX1_drawGround prog_3_method_18_code (4) (Option.some .int)) ∈ wsG := wg4 (List.mem_of_getElem? (i := 138) rfl) rfl
theorem q4_139 : (Cond.constant "SignalsSighted$Line" (106) (1664525)) ∈ wsG := wg4 (List.mem_of_getElem? (i := 139) rfl) rfl
theorem q4_140 : (Cond.constant "SignalsSighted$Line" (107) (1013904223)) ∈ wsG := wg4 (List.mem_of_getElem? (i := 140) rfl) rfl
theorem q4_141 : (Cond.constant "SignalsSighted$Line" (108) (2147483647)) ∈ wsG := wg4 (List.mem_of_getElem? (i := 141) rfl) rfl
theorem q4_142 : (Cond.methodLink "SignalsSightedLaw" (195) yX6_image) ∈ wsG := wg4 (List.mem_of_getElem? (i := 142) rfl) rfl
theorem q4_143 : (Cond.instanceMethod yX6_image) ∈ wsG := wg4 (List.mem_of_getElem? (i := 143) rfl) rfl
theorem q4_144 : (Cond.selects "SignalsSighted" yX6_image yX6_image) ∈ wsG := wg4 (List.mem_of_getElem? (i := 144) rfl) rfl
theorem q4_145 : (Cond.code yX6_image prog_1_method_45_code (1) (Option.some .int)) ∈ wsG := wg4 (List.mem_of_getElem? (i := 145) rfl) rfl
theorem q4_146 : (Cond.methodLink "SignalsSightedLaw" (199) yX6_on) ∈ wsG := wg4 (List.mem_of_getElem? (i := 146) rfl) rfl
theorem q4_147 : (Cond.instanceMethod yX6_on) ∈ wsG := wg4 (List.mem_of_getElem? (i := 147) rfl) rfl
theorem q4_148 : (Cond.selects "SignalsSighted" yX6_on yX6_on) ∈ wsG := wg4 (List.mem_of_getElem? (i := 148) rfl) rfl
theorem q4_149 : (Cond.code yX6_on prog_1_method_46_code (1) (Option.some .int)) ∈ wsG := wg4 (List.mem_of_getElem? (i := 149) rfl) rfl
theorem q4_150 : (Cond.methodLink "SignalsSightedLaw" (203) yX6_count) ∈ wsG := wg4 (List.mem_of_getElem? (i := 150) rfl) rfl
theorem q4_151 : (Cond.instanceMethod yX6_count) ∈ wsG := wg4 (List.mem_of_getElem? (i := 151) rfl) rfl
theorem q4_152 : (Cond.selects "SignalsSighted" yX6_count yX6_count) ∈ wsG := wg4 (List.mem_of_getElem? (i := 152) rfl) rfl
theorem q4_153 : (Cond.code yX6_count prog_1_method_47_code (2) (Option.some .int)) ∈ wsG := wg4 (List.mem_of_getElem? (i := 153) rfl) rfl
theorem q4_154 : (Cond.classLink "SignalsSightedLaw" (10) "SignalsSightedModel") ∈ wsG := wg4 (List.mem_of_getElem? (i := 154) rfl) rfl
theorem q4_155 : (Cond.instantiable "SignalsSightedModel" (37)) ∈ wsG := wg4 (List.mem_of_getElem? (i := 155) rfl) rfl
theorem q4_156 : (Cond.methodLink "SignalsSightedLaw" (12) yX7_init) ∈ wsG := wg4 (List.mem_of_getElem? (i := 156) rfl) rfl
theorem q4_157 : (Cond.instanceMethod yX7_init) ∈ wsG := wg4 (List.mem_of_getElem? (i := 157) rfl) rfl
theorem q4_158 : (Cond.code yX7_init prog_9_method_1_code (1) none) ∈ wsG := wg4 (List.mem_of_getElem? (i := 158) rfl) rfl
theorem q4_159 : (Cond.methodLink "SignalsSightedModel" (1) objectInit) ∈ wsG := wg4 (List.mem_of_getElem? (i := 159) rfl) rfl
theorem q4_160 : (Cond.fieldLink "SignalsSightedModel" (7) "SignalsSightedModel" "cells" "I") ∈ wsG := wg4 (List.mem_of_getElem? (i := 160) rfl) rfl
theorem q4_161 : (Cond.fieldLink "SignalsSightedModel" (13) "SignalsSightedModel" "ground" "[I") ∈ wsG := wg4 (List.mem_of_getElem? (i := 161) rfl) rfl
theorem q4_162 : (Cond.fieldLink "SignalsSightedModel" (106) "SignalsSightedModel" "bridges" "I") ∈ wsG := wg4 (List.mem_of_getElem? (i := 162) rfl) rfl
theorem q4_163 : (Cond.fieldLink "SignalsSightedModel" (17) "SignalsSightedModel" "bridgeAt" "[I") ∈ wsG := wg4 (List.mem_of_getElem? (i := 163) rfl) rfl
theorem q4_164 : (Cond.fieldLink "SignalsSightedModel" (20) "SignalsSightedModel" "low" "[I") ∈ wsG := wg4 (List.mem_of_getElem? (i := 164) rfl) rfl
theorem q4_165 : (Cond.fieldLink "SignalsSightedModel" (23) "SignalsSightedModel" "high" "[I") ∈ wsG := wg4 (List.mem_of_getElem? (i := 165) rfl) rfl
theorem q4_166 : (Cond.fieldLink "SignalsSightedModel" (109) "SignalsSightedModel" "posts" "I") ∈ wsG := wg4 (List.mem_of_getElem? (i := 166) rfl) rfl
theorem q4_167 : (Cond.fieldLink "SignalsSightedModel" (26) "SignalsSightedModel" "postAt" "[I") ∈ wsG := wg4 (List.mem_of_getElem? (i := 167) rfl) rfl
theorem q4_168 : (Cond.fieldLink "SignalsSightedModel" (29) "SignalsSightedModel" "tall" "[I") ∈ wsG := wg4 (List.mem_of_getElem? (i := 168) rfl) rfl
theorem q4_169 : (Cond.fieldLink "SignalsSightedModel" (112) "SignalsSightedModel" "trains" "I") ∈ wsG := wg4 (List.mem_of_getElem? (i := 169) rfl) rfl
theorem q4_170 : (Cond.fieldLink "SignalsSightedModel" (32) "SignalsSightedModel" "kind" "[I") ∈ wsG := wg4 (List.mem_of_getElem? (i := 170) rfl) rfl
theorem q4_171 : (Cond.fieldLink "SignalsSightedModel" (35) "SignalsSightedModel" "figure" "[I") ∈ wsG := wg4 (List.mem_of_getElem? (i := 171) rfl) rfl
theorem q4_172 : (Cond.fieldLink "SignalsSightedModel" (38) "SignalsSightedModel" "slow" "[I") ∈ wsG := wg4 (List.mem_of_getElem? (i := 172) rfl) rfl
theorem q4_173 : (Cond.fieldLink "SignalsSightedModel" (41) "SignalsSightedModel" "way" "[I") ∈ wsG := wg4 (List.mem_of_getElem? (i := 173) rfl) rfl
theorem q4_174 : (Cond.fieldLink "SignalsSightedModel" (44) "SignalsSightedModel" "need" "I") ∈ wsG := wg4 (List.mem_of_getElem? (i := 174) rfl) rfl
theorem q4_175 : (Cond.fieldLink "SignalsSightedModel" (115) "SignalsSightedModel" "names" "I") ∈ wsG := wg4 (List.mem_of_getElem? (i := 175) rfl) rfl
theorem q4_176 : (Cond.fieldLink "SignalsSightedModel" (47) "SignalsSightedModel" "name" "[I") ∈ wsG := wg4 (List.mem_of_getElem? (i := 176) rfl) rfl
theorem q4_177 : (Cond.fieldLink "SignalsSightedModel" (50) "SignalsSightedModel" "nameSize" "[I") ∈ wsG := wg4 (List.mem_of_getElem? (i := 177) rfl) rfl
theorem q4_178 : (Cond.fieldLink "SignalsSightedModel" (53) "SignalsSightedModel" "nameAt" "[I") ∈ wsG := wg4 (List.mem_of_getElem? (i := 178) rfl) rfl
theorem q4_179 : (Cond.fieldLink "SignalsSightedModel" (56) "SignalsSightedModel" "letter" "[I") ∈ wsG := wg4 (List.mem_of_getElem? (i := 179) rfl) rfl
theorem q4_180 : (Cond.fieldLink "SignalsSightedModel" (267) "SignalsSightedModel" "letters" "I") ∈ wsG := wg4 (List.mem_of_getElem? (i := 180) rfl) rfl
theorem q4_181 : (Cond.fieldLink "SignalsSightedModel" (59) "SignalsSightedModel" "refusals" "[I") ∈ wsG := wg4 (List.mem_of_getElem? (i := 181) rfl) rfl
theorem q4_182 : (Cond.fieldLink "SignalsSightedModel" (62) "SignalsSightedModel" "imaged" "[I") ∈ wsG := wg4 (List.mem_of_getElem? (i := 182) rfl) rfl
theorem q4_183 : (Cond.fieldLink "SignalsSightedModel" (65) "SignalsSightedModel" "before" "[I") ∈ wsG := wg4 (List.mem_of_getElem? (i := 183) rfl) rfl
theorem q4_184 : (Cond.fieldLink "SignalsSightedModel" (346) "SignalsSightedModel" "hasImage" "Z") ∈ wsG := wg4 (List.mem_of_getElem? (i := 184) rfl) rfl
theorem q4_185 : (Cond.fieldLink "SignalsSightedModel" (165) "SignalsSightedModel" "gone" "I") ∈ wsG := wg4 (List.mem_of_getElem? (i := 185) rfl) rfl
theorem q4_186 : (Cond.fieldLink "SignalsSightedModel" (68) "SignalsSightedModel" "mayBe" "[I") ∈ wsG := wg4 (List.mem_of_getElem? (i := 186) rfl) rfl
theorem q4_187 : (Cond.fieldLink "SignalsSightedModel" (71) "SignalsSightedModel" "along" "[I") ∈ wsG := wg4 (List.mem_of_getElem? (i := 187) rfl) rfl
theorem q4_188 : (Cond.fieldLink "SignalsSightedModel" (74) "SignalsSightedModel" "place" "[I") ∈ wsG := wg4 (List.mem_of_getElem? (i := 188) rfl) rfl
theorem q4_189 : (Cond.fieldLink "SignalsSightedModel" (77) "SignalsSightedModel" "best" "[I") ∈ wsG := wg4 (List.mem_of_getElem? (i := 189) rfl) rfl
theorem q4_190 : (Cond.fieldLink "SignalsSightedModel" (80) "SignalsSightedModel" "sort" "[I") ∈ wsG := wg4 (List.mem_of_getElem? (i := 190) rfl) rfl
theorem q4_191 : (Cond.fieldLink "SignalsSightedModel" (83) "SignalsSightedModel" "size" "[I") ∈ wsG := wg4 (List.mem_of_getElem? (i := 191) rfl) rfl
theorem q4_192 : (Cond.fieldLink "SignalsSightedModel" (86) "SignalsSightedModel" "cell" "[J") ∈ wsG := wg4 (List.mem_of_getElem? (i := 192) rfl) rfl
theorem q4_193 : (Cond.fieldLink "SignalsSightedModel" (280) "SignalsSightedModel" "at" "I") ∈ wsG := wg4 (List.mem_of_getElem? (i := 193) rfl) rfl
theorem q4_194 : (Cond.fieldLink "SignalsSightedModel" (90) "SignalsSightedModel" "number" "[I") ∈ wsG := wg4 (List.mem_of_getElem? (i := 194) rfl) rfl
theorem q4_195 : (Cond.fieldLink "SignalsSightedModel" (93) "SignalsSightedModel" "readName" "[I") ∈ wsG := wg4 (List.mem_of_getElem? (i := 195) rfl) rfl
theorem q4_196 : (Cond.fieldLink "SignalsSightedModel" (302) "SignalsSightedModel" "readSize" "I") ∈ wsG := wg4 (List.mem_of_getElem? (i := 196) rfl) rfl
theorem q4_197 : (Cond.lays "SignalsSightedModel" "SignalsSightedModel" "cells" "I") ∈ wsG := wg4 (List.mem_of_getElem? (i := 197) rfl) rfl
theorem q4_199 : (Cond.laysFinal "SignalsSightedModel" "SignalsSightedModel" "ground" "[I") ∈ wsG := wg4 (List.mem_of_getElem? (i := 199) rfl) rfl
theorem q4_201 : (Cond.lays "SignalsSightedModel" "SignalsSightedModel" "bridges" "I") ∈ wsG := wg4 (List.mem_of_getElem? (i := 201) rfl) rfl
theorem q4_203 : (Cond.laysFinal "SignalsSightedModel" "SignalsSightedModel" "bridgeAt" "[I") ∈ wsG := wg4 (List.mem_of_getElem? (i := 203) rfl) rfl
theorem q4_205 : (Cond.laysFinal "SignalsSightedModel" "SignalsSightedModel" "low" "[I") ∈ wsG := wg4 (List.mem_of_getElem? (i := 205) rfl) rfl
theorem q4_207 : (Cond.laysFinal "SignalsSightedModel" "SignalsSightedModel" "high" "[I") ∈ wsG := wg4 (List.mem_of_getElem? (i := 207) rfl) rfl
theorem q4_209 : (Cond.lays "SignalsSightedModel" "SignalsSightedModel" "posts" "I") ∈ wsG := wg4 (List.mem_of_getElem? (i := 209) rfl) rfl
theorem q4_211 : (Cond.laysFinal "SignalsSightedModel" "SignalsSightedModel" "postAt" "[I") ∈ wsG := wg4 (List.mem_of_getElem? (i := 211) rfl) rfl
theorem q4_213 : (Cond.laysFinal "SignalsSightedModel" "SignalsSightedModel" "tall" "[I") ∈ wsG := wg4 (List.mem_of_getElem? (i := 213) rfl) rfl
theorem q4_215 : (Cond.lays "SignalsSightedModel" "SignalsSightedModel" "trains" "I") ∈ wsG := wg4 (List.mem_of_getElem? (i := 215) rfl) rfl
theorem q4_217 : (Cond.laysFinal "SignalsSightedModel" "SignalsSightedModel" "kind" "[I") ∈ wsG := wg4 (List.mem_of_getElem? (i := 217) rfl) rfl
theorem q4_219 : (Cond.laysFinal "SignalsSightedModel" "SignalsSightedModel" "figure" "[I") ∈ wsG := wg4 (List.mem_of_getElem? (i := 219) rfl) rfl
theorem q4_221 : (Cond.laysFinal "SignalsSightedModel" "SignalsSightedModel" "slow" "[I") ∈ wsG := wg4 (List.mem_of_getElem? (i := 221) rfl) rfl
theorem q4_223 : (Cond.laysFinal "SignalsSightedModel" "SignalsSightedModel" "way" "[I") ∈ wsG := wg4 (List.mem_of_getElem? (i := 223) rfl) rfl
theorem q4_225 : (Cond.lays "SignalsSightedModel" "SignalsSightedModel" "need" "I") ∈ wsG := wg4 (List.mem_of_getElem? (i := 225) rfl) rfl
theorem q4_227 : (Cond.lays "SignalsSightedModel" "SignalsSightedModel" "names" "I") ∈ wsG := wg4 (List.mem_of_getElem? (i := 227) rfl) rfl
theorem q4_229 : (Cond.laysFinal "SignalsSightedModel" "SignalsSightedModel" "name" "[I") ∈ wsG := wg4 (List.mem_of_getElem? (i := 229) rfl) rfl
theorem q4_231 : (Cond.laysFinal "SignalsSightedModel" "SignalsSightedModel" "nameSize" "[I") ∈ wsG := wg4 (List.mem_of_getElem? (i := 231) rfl) rfl
theorem q4_233 : (Cond.laysFinal "SignalsSightedModel" "SignalsSightedModel" "nameAt" "[I") ∈ wsG := wg4 (List.mem_of_getElem? (i := 233) rfl) rfl
theorem q4_235 : (Cond.laysFinal "SignalsSightedModel" "SignalsSightedModel" "letter" "[I") ∈ wsG := wg4 (List.mem_of_getElem? (i := 235) rfl) rfl
theorem q4_237 : (Cond.lays "SignalsSightedModel" "SignalsSightedModel" "letters" "I") ∈ wsG := wg4 (List.mem_of_getElem? (i := 237) rfl) rfl
theorem q4_239 : (Cond.laysFinal "SignalsSightedModel" "SignalsSightedModel" "refusals" "[I") ∈ wsG := wg4 (List.mem_of_getElem? (i := 239) rfl) rfl
theorem q5_1 : (Cond.laysFinal "SignalsSightedModel" "SignalsSightedModel" "imaged" "[I") ∈ wsG := wg5 (List.mem_of_getElem? (i := 1) rfl) rfl
theorem q5_3 : (Cond.laysFinal "SignalsSightedModel" "SignalsSightedModel" "before" "[I") ∈ wsG := wg5 (List.mem_of_getElem? (i := 3) rfl) rfl
theorem q5_5 : (Cond.lays "SignalsSightedModel" "SignalsSightedModel" "hasImage" "Z") ∈ wsG := wg5 (List.mem_of_getElem? (i := 5) rfl) rfl
theorem q5_7 : (Cond.lays "SignalsSightedModel" "SignalsSightedModel" "gone" "I") ∈ wsG := wg5 (List.mem_of_getElem? (i := 7) rfl) rfl
theorem q5_9 : (Cond.laysFinal "SignalsSightedModel" "SignalsSightedModel" "mayBe" "[I") ∈ wsG := wg5 (List.mem_of_getElem? (i := 9) rfl) rfl
theorem q5_11 : (Cond.laysFinal "SignalsSightedModel" "SignalsSightedModel" "along" "[I") ∈ wsG := wg5 (List.mem_of_getElem? (i := 11) rfl) rfl
theorem q5_13 : (Cond.laysFinal "SignalsSightedModel" "SignalsSightedModel" "place" "[I") ∈ wsG := wg5 (List.mem_of_getElem? (i := 13) rfl) rfl
theorem q5_15 : (Cond.laysFinal "SignalsSightedModel" "SignalsSightedModel" "best" "[I") ∈ wsG := wg5 (List.mem_of_getElem? (i := 15) rfl) rfl
theorem q5_17 : (Cond.laysFinal "SignalsSightedModel" "SignalsSightedModel" "sort" "[I") ∈ wsG := wg5 (List.mem_of_getElem? (i := 17) rfl) rfl
theorem q5_19 : (Cond.laysFinal "SignalsSightedModel" "SignalsSightedModel" "size" "[I") ∈ wsG := wg5 (List.mem_of_getElem? (i := 19) rfl) rfl
theorem q5_21 : (Cond.laysFinal "SignalsSightedModel" "SignalsSightedModel" "cell" "[J") ∈ wsG := wg5 (List.mem_of_getElem? (i := 21) rfl) rfl
theorem q5_23 : (Cond.lays "SignalsSightedModel" "SignalsSightedModel" "at" "I") ∈ wsG := wg5 (List.mem_of_getElem? (i := 23) rfl) rfl
theorem q5_25 : (Cond.laysFinal "SignalsSightedModel" "SignalsSightedModel" "number" "[I") ∈ wsG := wg5 (List.mem_of_getElem? (i := 25) rfl) rfl
theorem q5_27 : (Cond.laysFinal "SignalsSightedModel" "SignalsSightedModel" "readName" "[I") ∈ wsG := wg5 (List.mem_of_getElem? (i := 27) rfl) rfl
theorem q5_29 : (Cond.lays "SignalsSightedModel" "SignalsSightedModel" "readSize" "I") ∈ wsG := wg5 (List.mem_of_getElem? (i := 29) rfl) rfl
theorem q5_32 : (Cond.methodLink "SignalsSightedLaw" (26) yX7_cells) ∈ wsG := wg5 (List.mem_of_getElem? (i := 32) rfl) rfl
theorem q5_33 : (Cond.instanceMethod yX7_cells) ∈ wsG := wg5 (List.mem_of_getElem? (i := 33) rfl) rfl
theorem q5_34 : (Cond.selects "SignalsSightedModel" yX7_cells yX7_cells) ∈ wsG := wg5 (List.mem_of_getElem? (i := 34) rfl) rfl
theorem q5_35 : (Cond.code yX7_cells prog_9_method_11_code (4) (Option.some .int)) ∈ wsG := wg5 (List.mem_of_getElem? (i := 35) rfl) rfl
theorem q5_36 : (Cond.methodLink "SignalsSightedModel" (98) yX7_no) ∈ wsG := wg5 (List.mem_of_getElem? (i := 36) rfl) rfl
theorem q5_38 : (Cond.instanceMethod yX7_no) ∈ wsG := wg5 (List.mem_of_getElem? (i := 38) rfl) rfl
theorem q5_39 : (Cond.code yX7_no prog_9_method_4_code (2) (Option.some .int)) ∈ wsG := wg5 (List.mem_of_getElem? (i := 39) rfl) rfl
theorem q5_40 : (Cond.methodLink "SignalsSightedModel" (118) yX7_cuts) ∈ wsG := wg5 (List.mem_of_getElem? (i := 40) rfl) rfl
theorem q5_42 : (Cond.instanceMethod yX7_cuts) ∈ wsG := wg5 (List.mem_of_getElem? (i := 42) rfl) rfl
theorem q5_43 : (Cond.code yX7_cuts prog_9_method_10_code (4) none) ∈ wsG := wg5 (List.mem_of_getElem? (i := 43) rfl) rfl
theorem q5_44 : (Cond.methodLink "SignalsSightedLaw" (31) yX7_ground) ∈ wsG := wg5 (List.mem_of_getElem? (i := 44) rfl) rfl
theorem q5_45 : (Cond.instanceMethod yX7_ground) ∈ wsG := wg5 (List.mem_of_getElem? (i := 45) rfl) rfl
theorem q5_46 : (Cond.selects "SignalsSightedModel" yX7_ground yX7_ground) ∈ wsG := wg5 (List.mem_of_getElem? (i := 46) rfl) rfl
theorem q5_47 : (Cond.code yX7_ground prog_9_method_12_code (4) (Option.some .int)) ∈ wsG := wg5 (List.mem_of_getElem? (i := 47) rfl) rfl
theorem q5_48 : (Cond.methodLink "SignalsSightedModel" (121) yX7_isCell) ∈ wsG := wg5 (List.mem_of_getElem? (i := 48) rfl) rfl
theorem q5_50 : (Cond.instanceMethod yX7_isCell) ∈ wsG := wg5 (List.mem_of_getElem? (i := 50) rfl) rfl
theorem q5_51 : (Cond.code yX7_isCell prog_9_method_6_code (2) (Option.some .boolean)) ∈ wsG := wg5 (List.mem_of_getElem? (i := 51) rfl) rfl
theorem q5_52 : (Cond.methodLink "SignalsSightedModel" (102) yX7_in) ∈ wsG := wg5 (List.mem_of_getElem? (i := 52) rfl) rfl
theorem q5_53 : (Cond.static yX7_in) ∈ wsG := wg5 (List.mem_of_getElem? (i := 53) rfl) rfl
theorem q5_54 : (Cond.code yX7_in prog_9_method_2_code (3) (Option.some .boolean)) ∈ wsG := wg5 (List.mem_of_getElem? (i := 54) rfl) rfl
theorem q5_55 : (Cond.methodLink "SignalsSightedLaw" (36) yX7_bridge) ∈ wsG := wg5 (List.mem_of_getElem? (i := 55) rfl) rfl
theorem q5_56 : (Cond.instanceMethod yX7_bridge) ∈ wsG := wg5 (List.mem_of_getElem? (i := 56) rfl) rfl
theorem q5_57 : (Cond.selects "SignalsSightedModel" yX7_bridge yX7_bridge) ∈ wsG := wg5 (List.mem_of_getElem? (i := 57) rfl) rfl
theorem q5_58 : (Cond.code yX7_bridge prog_9_method_13_code (4) (Option.some .int)) ∈ wsG := wg5 (List.mem_of_getElem? (i := 58) rfl) rfl
theorem q5_59 : (Cond.methodLink "SignalsSightedLaw" (40) yX7_fells) ∈ wsG := wg5 (List.mem_of_getElem? (i := 59) rfl) rfl
theorem q5_60 : (Cond.instanceMethod yX7_fells) ∈ wsG := wg5 (List.mem_of_getElem? (i := 60) rfl) rfl
theorem q5_61 : (Cond.selects "SignalsSightedModel" yX7_fells yX7_fells) ∈ wsG := wg5 (List.mem_of_getElem? (i := 61) rfl) rfl
theorem q5_62 : (Cond.code yX7_fells prog_9_method_14_code (3) (Option.some .int)) ∈ wsG := wg5 (List.mem_of_getElem? (i := 62) rfl) rfl
theorem q5_63 : (Cond.methodLink "SignalsSightedModel" (125) yX7_isBridge) ∈ wsG := wg5 (List.mem_of_getElem? (i := 63) rfl) rfl
theorem q5_65 : (Cond.instanceMethod yX7_isBridge) ∈ wsG := wg5 (List.mem_of_getElem? (i := 65) rfl) rfl
theorem q5_66 : (Cond.code yX7_isBridge prog_9_method_7_code (2) (Option.some .boolean)) ∈ wsG := wg5 (List.mem_of_getElem? (i := 66) rfl) rfl
theorem q5_67 : (Cond.methodLink "SignalsSightedLaw" (44) yX7_post) ∈ wsG := wg5 (List.mem_of_getElem? (i := 67) rfl) rfl
theorem q5_68 : (Cond.instanceMethod yX7_post) ∈ wsG := wg5 (List.mem_of_getElem? (i := 68) rfl) rfl
theorem q5_69 : (Cond.selects "SignalsSightedModel" yX7_post yX7_post) ∈ wsG := wg5 (List.mem_of_getElem? (i := 69) rfl) rfl
theorem q5_70 : (Cond.code yX7_post prog_9_method_16_code (3) (Option.some .int)) ∈ wsG := wg5 (List.mem_of_getElem? (i := 70) rfl) rfl
theorem q5_71 : (Cond.methodLink "SignalsSightedModel" (128) yX7_postOn) ∈ wsG := wg5 (List.mem_of_getElem? (i := 71) rfl) rfl
theorem q5_73 : (Cond.instanceMethod yX7_postOn) ∈ wsG := wg5 (List.mem_of_getElem? (i := 73) rfl) rfl
theorem q5_74 : (Cond.code yX7_postOn prog_9_method_15_code (4) (Option.some .int)) ∈ wsG := wg5 (List.mem_of_getElem? (i := 74) rfl) rfl
theorem q5_75 : (Cond.methodLink "SignalsSightedLaw" (48) yX7_sets) ∈ wsG := wg5 (List.mem_of_getElem? (i := 75) rfl) rfl
theorem q5_76 : (Cond.instanceMethod yX7_sets) ∈ wsG := wg5 (List.mem_of_getElem? (i := 76) rfl) rfl
theorem q5_77 : (Cond.selects "SignalsSightedModel" yX7_sets yX7_sets) ∈ wsG := wg5 (List.mem_of_getElem? (i := 77) rfl) rfl
theorem q5_78 : (Cond.code yX7_sets prog_9_method_17_code (5) (Option.some .int)) ∈ wsG := wg5 (List.mem_of_getElem? (i := 78) rfl) rfl
theorem q5_79 : (Cond.methodLink "SignalsSightedModel" (131) yX7_isPost) ∈ wsG := wg5 (List.mem_of_getElem? (i := 79) rfl) rfl
theorem q5_81 : (Cond.instanceMethod yX7_isPost) ∈ wsG := wg5 (List.mem_of_getElem? (i := 81) rfl) rfl
theorem q5_82 : (Cond.code yX7_isPost prog_9_method_8_code (2) (Option.some .boolean)) ∈ wsG := wg5 (List.mem_of_getElem? (i := 82) rfl) rfl
theorem q5_83 : (Cond.methodLink "SignalsSightedLaw" (53) yX7_train) ∈ wsG := wg5 (List.mem_of_getElem? (i := 83) rfl) rfl
theorem q5_84 : (Cond.instanceMethod yX7_train) ∈ wsG := wg5 (List.mem_of_getElem? (i := 84) rfl) rfl
theorem q5_85 : (Cond.selects "SignalsSightedModel" yX7_train yX7_train) ∈ wsG := wg5 (List.mem_of_getElem? (i := 85) rfl) rfl
theorem q5_86 : (Cond.code yX7_train prog_9_method_18_code (5) (Option.some .int)) ∈ wsG := wg5 (List.mem_of_getElem? (i := 86) rfl) rfl
theorem q5_87 : (Cond.methodLink "SignalsSightedLaw" (57) yX7_need) ∈ wsG := wg5 (List.mem_of_getElem? (i := 87) rfl) rfl
theorem q5_88 : (Cond.instanceMethod yX7_need) ∈ wsG := wg5 (List.mem_of_getElem? (i := 88) rfl) rfl
theorem q5_89 : (Cond.selects "SignalsSightedModel" yX7_need yX7_need) ∈ wsG := wg5 (List.mem_of_getElem? (i := 89) rfl) rfl
theorem q5_90 : (Cond.code yX7_need prog_9_method_19_code (3) (Option.some .int)) ∈ wsG := wg5 (List.mem_of_getElem? (i := 90) rfl) rfl
theorem q5_91 : (Cond.methodLink "SignalsSightedLaw" (61) yX7_ofBridge) ∈ wsG := wg5 (List.mem_of_getElem? (i := 91) rfl) rfl
theorem q5_92 : (Cond.instanceMethod yX7_ofBridge) ∈ wsG := wg5 (List.mem_of_getElem? (i := 92) rfl) rfl
theorem q5_93 : (Cond.selects "SignalsSightedModel" yX7_ofBridge yX7_ofBridge) ∈ wsG := wg5 (List.mem_of_getElem? (i := 93) rfl) rfl
theorem q5_94 : (Cond.code yX7_ofBridge prog_9_method_20_code (3) (Option.some .int)) ∈ wsG := wg5 (List.mem_of_getElem? (i := 94) rfl) rfl
theorem q5_95 : (Cond.methodLink "SignalsSightedLaw" (65) yX7_ofPost) ∈ wsG := wg5 (List.mem_of_getElem? (i := 95) rfl) rfl
theorem q5_96 : (Cond.instanceMethod yX7_ofPost) ∈ wsG := wg5 (List.mem_of_getElem? (i := 96) rfl) rfl
theorem q5_97 : (Cond.selects "SignalsSightedModel" yX7_ofPost yX7_ofPost) ∈ wsG := wg5 (List.mem_of_getElem? (i := 97) rfl) rfl
theorem q5_98 : (Cond.code yX7_ofPost prog_9_method_21_code (3) (Option.some .int)) ∈ wsG := wg5 (List.mem_of_getElem? (i := 98) rfl) rfl
theorem q5_99 : (Cond.methodLink "SignalsSightedLaw" (69) yX7_ofTrain) ∈ wsG := wg5 (List.mem_of_getElem? (i := 99) rfl) rfl
theorem q5_100 : (Cond.instanceMethod yX7_ofTrain) ∈ wsG := wg5 (List.mem_of_getElem? (i := 100) rfl) rfl
theorem q5_101 : (Cond.selects "SignalsSightedModel" yX7_ofTrain yX7_ofTrain) ∈ wsG := wg5 (List.mem_of_getElem? (i := 101) rfl) rfl
theorem q5_102 : (Cond.code yX7_ofTrain prog_9_method_24_code (3) (Option.some .int)) ∈ wsG := wg5 (List.mem_of_getElem? (i := 102) rfl) rfl
theorem q5_103 : (Cond.methodLink "SignalsSightedModel" (138) yX7_isTrain) ∈ wsG := wg5 (List.mem_of_getElem? (i := 103) rfl) rfl
theorem q5_105 : (Cond.instanceMethod yX7_isTrain) ∈ wsG := wg5 (List.mem_of_getElem? (i := 105) rfl) rfl
theorem q5_106 : (Cond.code yX7_isTrain prog_9_method_9_code (2) (Option.some .boolean)) ∈ wsG := wg5 (List.mem_of_getElem? (i := 106) rfl) rfl
theorem q5_107 : (Cond.methodLink "SignalsSightedModel" (141) yX7_eye) ∈ wsG := wg5 (List.mem_of_getElem? (i := 107) rfl) rfl
theorem q5_109 : (Cond.instanceMethod yX7_eye) ∈ wsG := wg5 (List.mem_of_getElem? (i := 109) rfl) rfl
theorem q5_110 : (Cond.code yX7_eye prog_9_method_23_code (2) (Option.some .int)) ∈ wsG := wg5 (List.mem_of_getElem? (i := 110) rfl) rfl
theorem q5_111 : (Cond.methodLink "SignalsSightedModel" (134) yX7_eyeBy) ∈ wsG := wg5 (List.mem_of_getElem? (i := 111) rfl) rfl
theorem q5_112 : (Cond.static yX7_eyeBy) ∈ wsG := wg5 (List.mem_of_getElem? (i := 112) rfl) rfl
theorem q5_113 : (Cond.code yX7_eyeBy prog_9_method_22_code (2) (Option.some .int)) ∈ wsG := wg5 (List.mem_of_getElem? (i := 113) rfl) rfl
theorem q5_114 : (Cond.methodLink "SignalsSightedLaw" (73) yX7_height) ∈ wsG := wg5 (List.mem_of_getElem? (i := 114) rfl) rfl
theorem q5_115 : (Cond.instanceMethod yX7_height) ∈ wsG := wg5 (List.mem_of_getElem? (i := 115) rfl) rfl
theorem q5_116 : (Cond.selects "SignalsSightedModel" yX7_height yX7_height) ∈ wsG := wg5 (List.mem_of_getElem? (i := 116) rfl) rfl
theorem q5_117 : (Cond.code yX7_height prog_9_method_25_code (2) (Option.some .int)) ∈ wsG := wg5 (List.mem_of_getElem? (i := 117) rfl) rfl
theorem q5_118 : (Cond.methodLink "SignalsSightedLaw" (77) yX7_time) ∈ wsG := wg5 (List.mem_of_getElem? (i := 118) rfl) rfl
theorem q5_119 : (Cond.instanceMethod yX7_time) ∈ wsG := wg5 (List.mem_of_getElem? (i := 119) rfl) rfl
theorem q5_120 : (Cond.selects "SignalsSightedModel" yX7_time yX7_time) ∈ wsG := wg5 (List.mem_of_getElem? (i := 120) rfl) rfl
theorem q5_121 : (Cond.code yX7_time prog_9_method_29_code (3) (Option.some .int)) ∈ wsG := wg5 (List.mem_of_getElem? (i := 121) rfl) rfl
theorem q5_122 : (Cond.methodLink "SignalsSightedModel" (156) yX7_timeOf) ∈ wsG := wg5 (List.mem_of_getElem? (i := 122) rfl) rfl
theorem q5_124 : (Cond.instanceMethod yX7_timeOf) ∈ wsG := wg5 (List.mem_of_getElem? (i := 124) rfl) rfl
theorem q5_125 : (Cond.code yX7_timeOf prog_9_method_28_code (3) (Option.some .int)) ∈ wsG := wg5 (List.mem_of_getElem? (i := 125) rfl) rfl
theorem q5_126 : (Cond.methodLink "SignalsSightedModel" (152) yX7_timeBy) ∈ wsG := wg5 (List.mem_of_getElem? (i := 126) rfl) rfl
theorem q5_128 : (Cond.instanceMethod yX7_timeBy) ∈ wsG := wg5 (List.mem_of_getElem? (i := 128) rfl) rfl
theorem q5_129 : (Cond.code yX7_timeBy prog_9_method_27_code (9) (Option.some .int)) ∈ wsG := wg5 (List.mem_of_getElem? (i := 129) rfl) rfl
theorem q5_130 : (Cond.methodLink "SignalsSightedModel" (144) yJ9_max_7cf53) ∈ wsG := wg5 (List.mem_of_getElem? (i := 130) rfl) rfl
theorem q5_131 : (Cond.methodLink "SignalsSightedModel" (149) yX7_isBridged) ∈ wsG := wg5 (List.mem_of_getElem? (i := 131) rfl) rfl
theorem q5_133 : (Cond.instanceMethod yX7_isBridged) ∈ wsG := wg5 (List.mem_of_getElem? (i := 133) rfl) rfl
theorem q5_134 : (Cond.code yX7_isBridged prog_9_method_26_code (4) (Option.some .boolean)) ∈ wsG := wg5 (List.mem_of_getElem? (i := 134) rfl) rfl
theorem q5_135 : (Cond.methodLink "SignalsSightedLaw" (81) yX7_sight) ∈ wsG := wg5 (List.mem_of_getElem? (i := 135) rfl) rfl
theorem q5_136 : (Cond.instanceMethod yX7_sight) ∈ wsG := wg5 (List.mem_of_getElem? (i := 136) rfl) rfl
theorem q5_137 : (Cond.selects "SignalsSightedModel" yX7_sight yX7_sight) ∈ wsG := wg5 (List.mem_of_getElem? (i := 137) rfl) rfl
theorem q5_138 : (Cond.code yX7_sight prog_9_method_32_code (5) (Option.some .int)) ∈ wsG := wg5 (List.mem_of_getElem? (i := 138) rfl) rfl
theorem q5_139 : (Cond.methodLink "SignalsSightedModel" (172) yX7_isClear) ∈ wsG := wg5 (List.mem_of_getElem? (i := 139) rfl) rfl
theorem q5_141 : (Cond.instanceMethod yX7_isClear) ∈ wsG := wg5 (List.mem_of_getElem? (i := 141) rfl) rfl
theorem q5_142 : (Cond.code yX7_isClear prog_9_method_30_code (12) (Option.some .boolean)) ∈ wsG := wg5 (List.mem_of_getElem? (i := 142) rfl) rfl
theorem q5_143 : (Cond.methodLink "SignalsSightedModel" (159) yJ9_abs_0f7a4) ∈ wsG := wg5 (List.mem_of_getElem? (i := 143) rfl) rfl
theorem q5_144 : (Cond.methodLink "SignalsSightedModel" (162) yX7_isBarred) ∈ wsG := wg5 (List.mem_of_getElem? (i := 144) rfl) rfl
theorem q5_146 : (Cond.instanceMethod yX7_isBarred) ∈ wsG := wg5 (List.mem_of_getElem? (i := 146) rfl) rfl
theorem q5_147 : (Cond.code yX7_isBarred prog_9_method_31_code (5) (Option.some .boolean)) ∈ wsG := wg5 (List.mem_of_getElem? (i := 147) rfl) rfl
theorem q5_148 : (Cond.methodLink "SignalsSightedModel" (168) yX7_has) ∈ wsG := wg5 (List.mem_of_getElem? (i := 148) rfl) rfl
theorem q5_149 : (Cond.static yX7_has) ∈ wsG := wg5 (List.mem_of_getElem? (i := 149) rfl) rfl
theorem q5_150 : (Cond.code yX7_has prog_9_method_3_code (2) (Option.some .boolean)) ∈ wsG := wg5 (List.mem_of_getElem? (i := 150) rfl) rfl
theorem q5_151 : (Cond.methodLink "SignalsSightedLaw" (85) yX7_sees) ∈ wsG := wg5 (List.mem_of_getElem? (i := 151) rfl) rfl
theorem q5_152 : (Cond.instanceMethod yX7_sees) ∈ wsG := wg5 (List.mem_of_getElem? (i := 152) rfl) rfl
theorem q5_153 : (Cond.selects "SignalsSightedModel" yX7_sees yX7_sees) ∈ wsG := wg5 (List.mem_of_getElem? (i := 153) rfl) rfl
theorem q5_154 : (Cond.code yX7_sees prog_9_method_34_code (4) (Option.some .int)) ∈ wsG := wg5 (List.mem_of_getElem? (i := 154) rfl) rfl
theorem q5_155 : (Cond.methodLink "SignalsSightedModel" (176) yX7_isSeen) ∈ wsG := wg5 (List.mem_of_getElem? (i := 155) rfl) rfl
theorem q5_157 : (Cond.instanceMethod yX7_isSeen) ∈ wsG := wg5 (List.mem_of_getElem? (i := 157) rfl) rfl
theorem q5_158 : (Cond.code yX7_isSeen prog_9_method_33_code (5) (Option.some .boolean)) ∈ wsG := wg5 (List.mem_of_getElem? (i := 158) rfl) rfl
theorem q5_159 : (Cond.methodLink "SignalsSightedLaw" (89) yX7_first) ∈ wsG := wg5 (List.mem_of_getElem? (i := 159) rfl) rfl
theorem q5_160 : (Cond.instanceMethod yX7_first) ∈ wsG := wg5 (List.mem_of_getElem? (i := 160) rfl) rfl
theorem q5_161 : (Cond.selects "SignalsSightedModel" yX7_first yX7_first) ∈ wsG := wg5 (List.mem_of_getElem? (i := 161) rfl) rfl
theorem q5_162 : (Cond.code yX7_first prog_9_method_40_code (3) (Option.some .int)) ∈ wsG := wg5 (List.mem_of_getElem? (i := 162) rfl) rfl
theorem q5_163 : (Cond.methodLink "SignalsSightedModel" (188) yX7_firstOf) ∈ wsG := wg5 (List.mem_of_getElem? (i := 163) rfl) rfl
theorem q5_165 : (Cond.instanceMethod yX7_firstOf) ∈ wsG := wg5 (List.mem_of_getElem? (i := 165) rfl) rfl
theorem q5_166 : (Cond.code yX7_firstOf prog_9_method_35_code (6) (Option.some .int)) ∈ wsG := wg5 (List.mem_of_getElem? (i := 166) rfl) rfl
theorem q5_167 : (Cond.methodLink "SignalsSightedLaw" (93) yX7_warned) ∈ wsG := wg5 (List.mem_of_getElem? (i := 167) rfl) rfl
theorem q5_168 : (Cond.instanceMethod yX7_warned) ∈ wsG := wg5 (List.mem_of_getElem? (i := 168) rfl) rfl
theorem q5_169 : (Cond.selects "SignalsSightedModel" yX7_warned yX7_warned) ∈ wsG := wg5 (List.mem_of_getElem? (i := 169) rfl) rfl
theorem q5_170 : (Cond.code yX7_warned prog_9_method_41_code (3) (Option.some .int)) ∈ wsG := wg5 (List.mem_of_getElem? (i := 170) rfl) rfl
theorem q5_171 : (Cond.methodLink "SignalsSightedModel" (179) yX7_warnedOf) ∈ wsG := wg5 (List.mem_of_getElem? (i := 171) rfl) rfl
theorem q5_173 : (Cond.instanceMethod yX7_warnedOf) ∈ wsG := wg5 (List.mem_of_getElem? (i := 173) rfl) rfl
theorem q5_174 : (Cond.code yX7_warnedOf prog_9_method_36_code (6) (Option.some .int)) ∈ wsG := wg5 (List.mem_of_getElem? (i := 174) rfl) rfl
theorem q5_175 : (Cond.methodLink "SignalsSightedLaw" (97) yX7_safe) ∈ wsG := wg5 (List.mem_of_getElem? (i := 175) rfl) rfl
theorem q5_176 : (Cond.instanceMethod yX7_safe) ∈ wsG := wg5 (List.mem_of_getElem? (i := 176) rfl) rfl
theorem q5_177 : (Cond.selects "SignalsSightedModel" yX7_safe yX7_safe) ∈ wsG := wg5 (List.mem_of_getElem? (i := 177) rfl) rfl
theorem q5_178 : (Cond.code yX7_safe prog_9_method_42_code (1) (Option.some .int)) ∈ wsG := wg5 (List.mem_of_getElem? (i := 178) rfl) rfl
theorem q5_179 : (Cond.methodLink "SignalsSightedModel" (191) yX7_isSafe) ∈ wsG := wg5 (List.mem_of_getElem? (i := 179) rfl) rfl
theorem q5_181 : (Cond.instanceMethod yX7_isSafe) ∈ wsG := wg5 (List.mem_of_getElem? (i := 181) rfl) rfl
theorem q5_182 : (Cond.code yX7_isSafe prog_9_method_39_code (2) (Option.some .boolean)) ∈ wsG := wg5 (List.mem_of_getElem? (i := 182) rfl) rfl
theorem q5_183 : (Cond.methodLink "SignalsSightedModel" (185) yX7_isKeptByAll) ∈ wsG := wg5 (List.mem_of_getElem? (i := 183) rfl) rfl
theorem q5_185 : (Cond.instanceMethod yX7_isKeptByAll) ∈ wsG := wg5 (List.mem_of_getElem? (i := 185) rfl) rfl
theorem q5_186 : (Cond.code yX7_isKeptByAll prog_9_method_38_code (3) (Option.some .boolean)) ∈ wsG := wg5 (List.mem_of_getElem? (i := 186) rfl) rfl
theorem q5_187 : (Cond.methodLink "SignalsSightedModel" (182) yX7_isKept) ∈ wsG := wg5 (List.mem_of_getElem? (i := 187) rfl) rfl
theorem q5_189 : (Cond.instanceMethod yX7_isKept) ∈ wsG := wg5 (List.mem_of_getElem? (i := 189) rfl) rfl
theorem q5_190 : (Cond.code yX7_isKept prog_9_method_37_code (3) (Option.some .boolean)) ∈ wsG := wg5 (List.mem_of_getElem? (i := 190) rfl) rfl
theorem q5_191 : (Cond.methodLink "SignalsSightedLaw" (101) yX7_moved) ∈ wsG := wg5 (List.mem_of_getElem? (i := 191) rfl) rfl
theorem q5_192 : (Cond.instanceMethod yX7_moved) ∈ wsG := wg5 (List.mem_of_getElem? (i := 192) rfl) rfl
theorem q5_193 : (Cond.selects "SignalsSightedModel" yX7_moved yX7_moved) ∈ wsG := wg5 (List.mem_of_getElem? (i := 193) rfl) rfl
theorem q5_194 : (Cond.code yX7_moved prog_9_method_51_code (3) (Option.some .int)) ∈ wsG := wg5 (List.mem_of_getElem? (i := 194) rfl) rfl
theorem q5_195 : (Cond.methodLink "SignalsSightedModel" (211) yX7_moves) ∈ wsG := wg5 (List.mem_of_getElem? (i := 195) rfl) rfl
theorem q5_197 : (Cond.instanceMethod yX7_moves) ∈ wsG := wg5 (List.mem_of_getElem? (i := 197) rfl) rfl
theorem q5_198 : (Cond.code yX7_moves prog_9_method_50_code (7) (Option.some .int)) ∈ wsG := wg5 (List.mem_of_getElem? (i := 198) rfl) rfl
theorem q5_199 : (Cond.methodLink "SignalsSightedModel" (195) yX7_looksWhere) ∈ wsG := wg5 (List.mem_of_getElem? (i := 199) rfl) rfl
theorem q5_201 : (Cond.instanceMethod yX7_looksWhere) ∈ wsG := wg5 (List.mem_of_getElem? (i := 201) rfl) rfl
theorem q5_202 : (Cond.code yX7_looksWhere prog_9_method_45_code (4) none) ∈ wsG := wg5 (List.mem_of_getElem? (i := 202) rfl) rfl
theorem q5_203 : (Cond.methodLink "SignalsSightedModel" (198) yX7_lines) ∈ wsG := wg5 (List.mem_of_getElem? (i := 203) rfl) rfl
theorem q5_205 : (Cond.instanceMethod yX7_lines) ∈ wsG := wg5 (List.mem_of_getElem? (i := 205) rfl) rfl
theorem q5_206 : (Cond.code yX7_lines prog_9_method_46_code (4) none) ∈ wsG := wg5 (List.mem_of_getElem? (i := 206) rfl) rfl
theorem q5_207 : (Cond.methodLink "SignalsSightedModel" (201) yX7_nextFor) ∈ wsG := wg5 (List.mem_of_getElem? (i := 207) rfl) rfl
theorem q5_209 : (Cond.instanceMethod yX7_nextFor) ∈ wsG := wg5 (List.mem_of_getElem? (i := 209) rfl) rfl
theorem q5_210 : (Cond.code yX7_nextFor prog_9_method_47_code (4) (Option.some .int)) ∈ wsG := wg5 (List.mem_of_getElem? (i := 210) rfl) rfl
theorem q5_211 : (Cond.methodLink "SignalsSightedModel" (204) yX7_movedBy) ∈ wsG := wg5 (List.mem_of_getElem? (i := 211) rfl) rfl
theorem q5_213 : (Cond.instanceMethod yX7_movedBy) ∈ wsG := wg5 (List.mem_of_getElem? (i := 213) rfl) rfl
theorem q5_214 : (Cond.code yX7_movedBy prog_9_method_48_code (3) (Option.some .int)) ∈ wsG := wg5 (List.mem_of_getElem? (i := 214) rfl) rfl
theorem q5_215 : (Cond.methodLink "SignalsSightedModel" (208) yX7_isEarlier) ∈ wsG := wg5 (List.mem_of_getElem? (i := 215) rfl) rfl
theorem q5_217 : (Cond.instanceMethod yX7_isEarlier) ∈ wsG := wg5 (List.mem_of_getElem? (i := 217) rfl) rfl
theorem q5_218 : (Cond.code yX7_isEarlier prog_9_method_49_code (2) (Option.some .boolean)) ∈ wsG := wg5 (List.mem_of_getElem? (i := 218) rfl) rfl
theorem q5_219 : (Cond.methodLink "SignalsSightedLaw" (105) yX7_raised) ∈ wsG := wg5 (List.mem_of_getElem? (i := 219) rfl) rfl
theorem q5_220 : (Cond.instanceMethod yX7_raised) ∈ wsG := wg5 (List.mem_of_getElem? (i := 220) rfl) rfl
theorem q5_221 : (Cond.selects "SignalsSightedModel" yX7_raised yX7_raised) ∈ wsG := wg5 (List.mem_of_getElem? (i := 221) rfl) rfl
theorem q5_222 : (Cond.code yX7_raised prog_9_method_52_code (5) (Option.some .int)) ∈ wsG := wg5 (List.mem_of_getElem? (i := 222) rfl) rfl
theorem q5_223 : (Cond.methodLink "SignalsSightedLaw" (110) yX7_freed) ∈ wsG := wg5 (List.mem_of_getElem? (i := 223) rfl) rfl
theorem q5_224 : (Cond.instanceMethod yX7_freed) ∈ wsG := wg5 (List.mem_of_getElem? (i := 224) rfl) rfl
theorem q5_225 : (Cond.selects "SignalsSightedModel" yX7_freed yX7_freed) ∈ wsG := wg5 (List.mem_of_getElem? (i := 225) rfl) rfl
theorem q5_226 : (Cond.code yX7_freed prog_9_method_53_code (4) (Option.some .long)) ∈ wsG := wg5 (List.mem_of_getElem? (i := 226) rfl) rfl
theorem q5_227 : (Cond.methodLink "SignalsSightedModel" (214) yX7_far) ∈ wsG := wg5 (List.mem_of_getElem? (i := 227) rfl) rfl
theorem q5_229 : (Cond.instanceMethod yX7_far) ∈ wsG := wg5 (List.mem_of_getElem? (i := 229) rfl) rfl
theorem q5_230 : (Cond.code yX7_far prog_9_method_5_code (2) (Option.some .long)) ∈ wsG := wg5 (List.mem_of_getElem? (i := 230) rfl) rfl
theorem q5_231 : (Cond.constantLong "SignalsSightedModel" (96) (4000000000000000000)) ∈ wsG := wg5 (List.mem_of_getElem? (i := 231) rfl) rfl
theorem q5_232 : (Cond.methodLink "SignalsSightedModel" (218) yX7_keptMany) ∈ wsG := wg5 (List.mem_of_getElem? (i := 232) rfl) rfl
theorem q5_234 : (Cond.instanceMethod yX7_keptMany) ∈ wsG := wg5 (List.mem_of_getElem? (i := 234) rfl) rfl
theorem q5_235 : (Cond.code yX7_keptMany prog_9_method_43_code (4) (Option.some .int)) ∈ wsG := wg5 (List.mem_of_getElem? (i := 235) rfl) rfl
theorem q5_236 : (Cond.methodLink "SignalsSightedModel" (221) yX7_keeps) ∈ wsG := wg5 (List.mem_of_getElem? (i := 236) rfl) rfl
theorem q5_238 : (Cond.instanceMethod yX7_keeps) ∈ wsG := wg5 (List.mem_of_getElem? (i := 238) rfl) rfl
theorem q5_239 : (Cond.code yX7_keeps prog_9_method_97_code (3) none) ∈ wsG := wg5 (List.mem_of_getElem? (i := 239) rfl) rfl
theorem q6_0 : (Cond.methodLink "SignalsSightedModel" (225) yX7_fells) ∈ wsG := wg6 (List.mem_of_getElem? (i := 0) rfl) rfl
theorem q6_1 : (Cond.methodLink "SignalsSightedModel" (228) yX7_again) ∈ wsG := wg6 (List.mem_of_getElem? (i := 1) rfl) rfl
theorem q6_3 : (Cond.instanceMethod yX7_again) ∈ wsG := wg6 (List.mem_of_getElem? (i := 3) rfl) rfl
theorem q6_4 : (Cond.code yX7_again prog_9_method_98_code (3) none) ∈ wsG := wg6 (List.mem_of_getElem? (i := 4) rfl) rfl
theorem q6_5 : (Cond.methodLink "SignalsSightedLaw" (114) yX7_worst) ∈ wsG := wg6 (List.mem_of_getElem? (i := 5) rfl) rfl
theorem q6_6 : (Cond.instanceMethod yX7_worst) ∈ wsG := wg6 (List.mem_of_getElem? (i := 6) rfl) rfl
theorem q6_7 : (Cond.selects "SignalsSightedModel" yX7_worst yX7_worst) ∈ wsG := wg6 (List.mem_of_getElem? (i := 7) rfl) rfl
theorem q6_8 : (Cond.code yX7_worst prog_9_method_54_code (6) (Option.some .int)) ∈ wsG := wg6 (List.mem_of_getElem? (i := 8) rfl) rfl
theorem q6_9 : (Cond.methodLink "SignalsSightedLaw" (118) yX7_slowest) ∈ wsG := wg6 (List.mem_of_getElem? (i := 9) rfl) rfl
theorem q6_10 : (Cond.instanceMethod yX7_slowest) ∈ wsG := wg6 (List.mem_of_getElem? (i := 10) rfl) rfl
theorem q6_11 : (Cond.selects "SignalsSightedModel" yX7_slowest yX7_slowest) ∈ wsG := wg6 (List.mem_of_getElem? (i := 11) rfl) rfl
theorem q6_12 : (Cond.code yX7_slowest prog_9_method_55_code (6) (Option.some .int)) ∈ wsG := wg6 (List.mem_of_getElem? (i := 12) rfl) rfl
theorem q6_13 : (Cond.methodLink "SignalsSightedLaw" (122) yX7_atOnce) ∈ wsG := wg6 (List.mem_of_getElem? (i := 13) rfl) rfl
theorem q6_14 : (Cond.instanceMethod yX7_atOnce) ∈ wsG := wg6 (List.mem_of_getElem? (i := 14) rfl) rfl
theorem q6_15 : (Cond.selects "SignalsSightedModel" yX7_atOnce yX7_atOnce) ∈ wsG := wg6 (List.mem_of_getElem? (i := 15) rfl) rfl
theorem q6_16 : (Cond.code yX7_atOnce prog_9_method_57_code (3) (Option.some .int)) ∈ wsG := wg6 (List.mem_of_getElem? (i := 16) rfl) rfl
theorem q6_17 : (Cond.methodLink "SignalsSightedModel" (231) yX7_seenFrom) ∈ wsG := wg6 (List.mem_of_getElem? (i := 17) rfl) rfl
theorem q6_19 : (Cond.instanceMethod yX7_seenFrom) ∈ wsG := wg6 (List.mem_of_getElem? (i := 19) rfl) rfl
theorem q6_20 : (Cond.code yX7_seenFrom prog_9_method_56_code (5) (Option.some .int)) ∈ wsG := wg6 (List.mem_of_getElem? (i := 20) rfl) rfl
theorem q6_21 : (Cond.methodLink "SignalsSightedLaw" (126) yX7_most) ∈ wsG := wg6 (List.mem_of_getElem? (i := 21) rfl) rfl
theorem q6_22 : (Cond.instanceMethod yX7_most) ∈ wsG := wg6 (List.mem_of_getElem? (i := 22) rfl) rfl
theorem q6_23 : (Cond.selects "SignalsSightedModel" yX7_most yX7_most) ∈ wsG := wg6 (List.mem_of_getElem? (i := 23) rfl) rfl
theorem q6_24 : (Cond.code yX7_most prog_9_method_58_code (6) (Option.some .int)) ∈ wsG := wg6 (List.mem_of_getElem? (i := 24) rfl) rfl
theorem q6_25 : (Cond.methodLink "SignalsSightedLaw" (130) yX7_nearest) ∈ wsG := wg6 (List.mem_of_getElem? (i := 25) rfl) rfl
theorem q6_26 : (Cond.instanceMethod yX7_nearest) ∈ wsG := wg6 (List.mem_of_getElem? (i := 26) rfl) rfl
theorem q6_27 : (Cond.selects "SignalsSightedModel" yX7_nearest yX7_nearest) ∈ wsG := wg6 (List.mem_of_getElem? (i := 27) rfl) rfl
theorem q6_28 : (Cond.code yX7_nearest prog_9_method_59_code (5) (Option.some .int)) ∈ wsG := wg6 (List.mem_of_getElem? (i := 28) rfl) rfl
theorem q6_29 : (Cond.methodLink "SignalsSightedLaw" (134) yX7_shadow) ∈ wsG := wg6 (List.mem_of_getElem? (i := 29) rfl) rfl
theorem q6_30 : (Cond.instanceMethod yX7_shadow) ∈ wsG := wg6 (List.mem_of_getElem? (i := 30) rfl) rfl
theorem q6_31 : (Cond.selects "SignalsSightedModel" yX7_shadow yX7_shadow) ∈ wsG := wg6 (List.mem_of_getElem? (i := 31) rfl) rfl
theorem q6_32 : (Cond.code yX7_shadow prog_9_method_60_code (7) (Option.some .int)) ∈ wsG := wg6 (List.mem_of_getElem? (i := 32) rfl) rfl
theorem q6_33 : (Cond.methodLink "SignalsSightedLaw" (138) yX7_alike) ∈ wsG := wg6 (List.mem_of_getElem? (i := 33) rfl) rfl
theorem q6_34 : (Cond.instanceMethod yX7_alike) ∈ wsG := wg6 (List.mem_of_getElem? (i := 34) rfl) rfl
theorem q6_35 : (Cond.selects "SignalsSightedModel" yX7_alike yX7_alike) ∈ wsG := wg6 (List.mem_of_getElem? (i := 35) rfl) rfl
theorem q6_36 : (Cond.code yX7_alike prog_9_method_62_code (10) (Option.some .int)) ∈ wsG := wg6 (List.mem_of_getElem? (i := 36) rfl) rfl
theorem q6_37 : (Cond.methodLink "SignalsSightedModel" (234) yX7_areAlike) ∈ wsG := wg6 (List.mem_of_getElem? (i := 37) rfl) rfl
theorem q6_39 : (Cond.instanceMethod yX7_areAlike) ∈ wsG := wg6 (List.mem_of_getElem? (i := 39) rfl) rfl
theorem q6_40 : (Cond.code yX7_areAlike prog_9_method_61_code (5) (Option.some .boolean)) ∈ wsG := wg6 (List.mem_of_getElem? (i := 40) rfl) rfl
theorem q6_41 : (Cond.methodLink "SignalsSightedLaw" (142) yX7_steepest) ∈ wsG := wg6 (List.mem_of_getElem? (i := 41) rfl) rfl
theorem q6_42 : (Cond.instanceMethod yX7_steepest) ∈ wsG := wg6 (List.mem_of_getElem? (i := 42) rfl) rfl
theorem q6_43 : (Cond.selects "SignalsSightedModel" yX7_steepest yX7_steepest) ∈ wsG := wg6 (List.mem_of_getElem? (i := 43) rfl) rfl
theorem q6_44 : (Cond.code yX7_steepest prog_9_method_63_code (6) (Option.some .int)) ∈ wsG := wg6 (List.mem_of_getElem? (i := 44) rfl) rfl
theorem q6_45 : (Cond.methodLink "SignalsSightedLaw" (147) yX7_down) ∈ wsG := wg6 (List.mem_of_getElem? (i := 45) rfl) rfl
theorem q6_46 : (Cond.instanceMethod yX7_down) ∈ wsG := wg6 (List.mem_of_getElem? (i := 46) rfl) rfl
theorem q6_47 : (Cond.selects "SignalsSightedModel" yX7_down yX7_down) ∈ wsG := wg6 (List.mem_of_getElem? (i := 47) rfl) rfl
theorem q6_48 : (Cond.code yX7_down prog_9_method_66_code (12) (Option.some .long)) ∈ wsG := wg6 (List.mem_of_getElem? (i := 48) rfl) rfl
theorem q6_49 : (Cond.methodLink "SignalsSightedModel" (241) yX7_part) ∈ wsG := wg6 (List.mem_of_getElem? (i := 49) rfl) rfl
theorem q6_50 : (Cond.static yX7_part) ∈ wsG := wg6 (List.mem_of_getElem? (i := 50) rfl) rfl
theorem q6_51 : (Cond.code yX7_part prog_9_method_65_code (5) (Option.some .long)) ∈ wsG := wg6 (List.mem_of_getElem? (i := 51) rfl) rfl
theorem q6_52 : (Cond.methodLink "SignalsSightedModel" (237) yX7_divisor) ∈ wsG := wg6 (List.mem_of_getElem? (i := 52) rfl) rfl
theorem q6_53 : (Cond.static yX7_divisor) ∈ wsG := wg6 (List.mem_of_getElem? (i := 53) rfl) rfl
theorem q6_54 : (Cond.code yX7_divisor prog_9_method_64_code (10) (Option.some .long)) ∈ wsG := wg6 (List.mem_of_getElem? (i := 54) rfl) rfl
theorem q6_55 : (Cond.methodLink "SignalsSightedLaw" (151) yX7_mean) ∈ wsG := wg6 (List.mem_of_getElem? (i := 55) rfl) rfl
theorem q6_56 : (Cond.instanceMethod yX7_mean) ∈ wsG := wg6 (List.mem_of_getElem? (i := 56) rfl) rfl
theorem q6_57 : (Cond.selects "SignalsSightedModel" yX7_mean yX7_mean) ∈ wsG := wg6 (List.mem_of_getElem? (i := 57) rfl) rfl
theorem q6_58 : (Cond.code yX7_mean prog_9_method_67_code (3) (Option.some .long)) ∈ wsG := wg6 (List.mem_of_getElem? (i := 58) rfl) rfl
theorem q6_59 : (Cond.methodLink "SignalsSightedModel" (245) yX7_warnedAll) ∈ wsG := wg6 (List.mem_of_getElem? (i := 59) rfl) rfl
theorem q6_61 : (Cond.instanceMethod yX7_warnedAll) ∈ wsG := wg6 (List.mem_of_getElem? (i := 61) rfl) rfl
theorem q6_62 : (Cond.code yX7_warnedAll prog_9_method_44_code (4) (Option.some .int)) ∈ wsG := wg6 (List.mem_of_getElem? (i := 62) rfl) rfl
theorem q6_63 : (Cond.methodLink "SignalsSightedLaw" (194) yX7_lots) ∈ wsG := wg6 (List.mem_of_getElem? (i := 63) rfl) rfl
theorem q6_64 : (Cond.instanceMethod yX7_lots) ∈ wsG := wg6 (List.mem_of_getElem? (i := 64) rfl) rfl
theorem q6_65 : (Cond.selects "SignalsSightedModel" yX7_lots yX7_lots) ∈ wsG := wg6 (List.mem_of_getElem? (i := 65) rfl) rfl
theorem q6_66 : (Cond.code yX7_lots prog_9_method_68_code (8) (Option.some .int)) ∈ wsG := wg6 (List.mem_of_getElem? (i := 66) rfl) rfl
theorem q6_67 : (Cond.constant "SignalsSightedModel" (248) (1664525)) ∈ wsG := wg6 (List.mem_of_getElem? (i := 67) rfl) rfl
theorem q6_68 : (Cond.constant "SignalsSightedModel" (249) (1013904223)) ∈ wsG := wg6 (List.mem_of_getElem? (i := 68) rfl) rfl
theorem q6_69 : (Cond.constant "SignalsSightedModel" (250) (2147483647)) ∈ wsG := wg6 (List.mem_of_getElem? (i := 69) rfl) rfl
theorem q6_70 : (Cond.methodLink "SignalsSightedLaw" (155) yX7_name) ∈ wsG := wg6 (List.mem_of_getElem? (i := 70) rfl) rfl
theorem q6_71 : (Cond.instanceMethod yX7_name) ∈ wsG := wg6 (List.mem_of_getElem? (i := 71) rfl) rfl
theorem q6_72 : (Cond.selects "SignalsSightedModel" yX7_name yX7_name) ∈ wsG := wg6 (List.mem_of_getElem? (i := 72) rfl) rfl
theorem q6_73 : (Cond.code yX7_name prog_9_method_69_code (3) (Option.some .int)) ∈ wsG := wg6 (List.mem_of_getElem? (i := 73) rfl) rfl
theorem q6_74 : (Cond.methodLink "SignalsSightedLaw" (159) yX7_placeAt) ∈ wsG := wg6 (List.mem_of_getElem? (i := 74) rfl) rfl
theorem q6_75 : (Cond.instanceMethod yX7_placeAt) ∈ wsG := wg6 (List.mem_of_getElem? (i := 75) rfl) rfl
theorem q6_76 : (Cond.selects "SignalsSightedModel" yX7_placeAt yX7_placeAt) ∈ wsG := wg6 (List.mem_of_getElem? (i := 76) rfl) rfl
theorem q6_77 : (Cond.code yX7_placeAt prog_9_method_70_code (2) (Option.some .int)) ∈ wsG := wg6 (List.mem_of_getElem? (i := 77) rfl) rfl
theorem q6_78 : (Cond.methodLink "SignalsSightedLaw" (163) yX7_shelf) ∈ wsG := wg6 (List.mem_of_getElem? (i := 78) rfl) rfl
theorem q6_79 : (Cond.instanceMethod yX7_shelf) ∈ wsG := wg6 (List.mem_of_getElem? (i := 79) rfl) rfl
theorem q6_80 : (Cond.selects "SignalsSightedModel" yX7_shelf yX7_shelf) ∈ wsG := wg6 (List.mem_of_getElem? (i := 80) rfl) rfl
theorem q6_81 : (Cond.code yX7_shelf prog_9_method_73_code (4) (Option.some .int)) ∈ wsG := wg6 (List.mem_of_getElem? (i := 81) rfl) rfl
theorem q6_82 : (Cond.methodLink "SignalsSightedModel" (251) yX7_isShelf) ∈ wsG := wg6 (List.mem_of_getElem? (i := 82) rfl) rfl
theorem q6_83 : (Cond.static yX7_isShelf) ∈ wsG := wg6 (List.mem_of_getElem? (i := 83) rfl) rfl
theorem q6_84 : (Cond.code yX7_isShelf prog_9_method_71_code (1) (Option.some .boolean)) ∈ wsG := wg6 (List.mem_of_getElem? (i := 84) rfl) rfl
theorem q6_85 : (Cond.methodLink "SignalsSightedModel" (254) yX7_empties) ∈ wsG := wg6 (List.mem_of_getElem? (i := 85) rfl) rfl
theorem q6_87 : (Cond.instanceMethod yX7_empties) ∈ wsG := wg6 (List.mem_of_getElem? (i := 87) rfl) rfl
theorem q6_88 : (Cond.code yX7_empties prog_9_method_72_code (5) none) ∈ wsG := wg6 (List.mem_of_getElem? (i := 88) rfl) rfl
theorem q6_89 : (Cond.methodLink "SignalsSightedLaw" (167) yX7_lay) ∈ wsG := wg6 (List.mem_of_getElem? (i := 89) rfl) rfl
theorem q6_90 : (Cond.instanceMethod yX7_lay) ∈ wsG := wg6 (List.mem_of_getElem? (i := 90) rfl) rfl
theorem q6_91 : (Cond.selects "SignalsSightedModel" yX7_lay yX7_lay) ∈ wsG := wg6 (List.mem_of_getElem? (i := 91) rfl) rfl
theorem q6_92 : (Cond.code yX7_lay prog_9_method_74_code (3) (Option.some .int)) ∈ wsG := wg6 (List.mem_of_getElem? (i := 92) rfl) rfl
theorem q6_93 : (Cond.methodLink "SignalsSightedLaw" (174) yX7_put) ∈ wsG := wg6 (List.mem_of_getElem? (i := 93) rfl) rfl
theorem q6_94 : (Cond.instanceMethod yX7_put) ∈ wsG := wg6 (List.mem_of_getElem? (i := 94) rfl) rfl
theorem q6_95 : (Cond.selects "SignalsSightedModel" yX7_put yX7_put) ∈ wsG := wg6 (List.mem_of_getElem? (i := 95) rfl) rfl
theorem q6_96 : (Cond.code yX7_put prog_9_method_76_code (5) (Option.some .int)) ∈ wsG := wg6 (List.mem_of_getElem? (i := 96) rfl) rfl
theorem q6_97 : (Cond.methodLink "SignalsSightedModel" (258) yX7_barred) ∈ wsG := wg6 (List.mem_of_getElem? (i := 97) rfl) rfl
theorem q6_99 : (Cond.instanceMethod yX7_barred) ∈ wsG := wg6 (List.mem_of_getElem? (i := 99) rfl) rfl
theorem q6_100 : (Cond.code yX7_barred prog_9_method_75_code (3) (Option.some .int)) ∈ wsG := wg6 (List.mem_of_getElem? (i := 100) rfl) rfl
theorem q6_101 : (Cond.methodLink "SignalsSightedLaw" (178) yX7_look) ∈ wsG := wg6 (List.mem_of_getElem? (i := 101) rfl) rfl
theorem q6_102 : (Cond.instanceMethod yX7_look) ∈ wsG := wg6 (List.mem_of_getElem? (i := 102) rfl) rfl
theorem q6_103 : (Cond.selects "SignalsSightedModel" yX7_look yX7_look) ∈ wsG := wg6 (List.mem_of_getElem? (i := 103) rfl) rfl
theorem q6_104 : (Cond.code yX7_look prog_9_method_77_code (3) (Option.some .long)) ∈ wsG := wg6 (List.mem_of_getElem? (i := 104) rfl) rfl
theorem q6_105 : (Cond.methodLink "SignalsSightedLaw" (182) yX7_taken) ∈ wsG := wg6 (List.mem_of_getElem? (i := 105) rfl) rfl
theorem q6_106 : (Cond.instanceMethod yX7_taken) ∈ wsG := wg6 (List.mem_of_getElem? (i := 106) rfl) rfl
theorem q6_107 : (Cond.selects "SignalsSightedModel" yX7_taken yX7_taken) ∈ wsG := wg6 (List.mem_of_getElem? (i := 107) rfl) rfl
theorem q6_108 : (Cond.code yX7_taken prog_9_method_79_code (4) (Option.some .int)) ∈ wsG := wg6 (List.mem_of_getElem? (i := 108) rfl) rfl
theorem q6_109 : (Cond.methodLink "SignalsSightedModel" (261) yX7_isUnder) ∈ wsG := wg6 (List.mem_of_getElem? (i := 109) rfl) rfl
theorem q6_110 : (Cond.static yX7_isUnder) ∈ wsG := wg6 (List.mem_of_getElem? (i := 110) rfl) rfl
theorem q6_111 : (Cond.code yX7_isUnder prog_9_method_78_code (2) (Option.some .boolean)) ∈ wsG := wg6 (List.mem_of_getElem? (i := 111) rfl) rfl
theorem q6_112 : (Cond.methodLink "SignalsSightedLaw" (186) yX7_whatIs) ∈ wsG := wg6 (List.mem_of_getElem? (i := 112) rfl) rfl
theorem q6_113 : (Cond.instanceMethod yX7_whatIs) ∈ wsG := wg6 (List.mem_of_getElem? (i := 113) rfl) rfl
theorem q6_114 : (Cond.selects "SignalsSightedModel" yX7_whatIs yX7_whatIs) ∈ wsG := wg6 (List.mem_of_getElem? (i := 114) rfl) rfl
theorem q6_115 : (Cond.code yX7_whatIs prog_9_method_81_code (6) (Option.some .int)) ∈ wsG := wg6 (List.mem_of_getElem? (i := 115) rfl) rfl
theorem q6_116 : (Cond.methodLink "SignalsSightedModel" (264) yX7_areTimes) ∈ wsG := wg6 (List.mem_of_getElem? (i := 116) rfl) rfl
theorem q6_118 : (Cond.instanceMethod yX7_areTimes) ∈ wsG := wg6 (List.mem_of_getElem? (i := 118) rfl) rfl
theorem q6_119 : (Cond.code yX7_areTimes prog_9_method_80_code (6) (Option.some .boolean)) ∈ wsG := wg6 (List.mem_of_getElem? (i := 119) rfl) rfl
theorem q6_120 : (Cond.methodLink "SignalsSightedLaw" (190) yX7_judge) ∈ wsG := wg6 (List.mem_of_getElem? (i := 120) rfl) rfl
theorem q6_121 : (Cond.instanceMethod yX7_judge) ∈ wsG := wg6 (List.mem_of_getElem? (i := 121) rfl) rfl
theorem q6_122 : (Cond.selects "SignalsSightedModel" yX7_judge yX7_judge) ∈ wsG := wg6 (List.mem_of_getElem? (i := 122) rfl) rfl
theorem q6_123 : (Cond.code yX7_judge prog_9_method_82_code (4) (Option.some .int)) ∈ wsG := wg6 (List.mem_of_getElem? (i := 123) rfl) rfl
theorem q6_124 : (Cond.methodLink "SignalsSightedLaw" (17) yX7_letter) ∈ wsG := wg6 (List.mem_of_getElem? (i := 124) rfl) rfl
theorem q6_125 : (Cond.instanceMethod yX7_letter) ∈ wsG := wg6 (List.mem_of_getElem? (i := 125) rfl) rfl
theorem q6_126 : (Cond.selects "SignalsSightedModel" yX7_letter yX7_letter) ∈ wsG := wg6 (List.mem_of_getElem? (i := 126) rfl) rfl
theorem q6_127 : (Cond.code yX7_letter prog_9_method_83_code (2) (Option.some .int)) ∈ wsG := wg6 (List.mem_of_getElem? (i := 127) rfl) rfl
theorem q6_128 : (Cond.methodLink "SignalsSightedLaw" (22) yX7_tells) ∈ wsG := wg6 (List.mem_of_getElem? (i := 128) rfl) rfl
theorem q6_129 : (Cond.instanceMethod yX7_tells) ∈ wsG := wg6 (List.mem_of_getElem? (i := 129) rfl) rfl
theorem q6_130 : (Cond.selects "SignalsSightedModel" yX7_tells yX7_tells) ∈ wsG := wg6 (List.mem_of_getElem? (i := 130) rfl) rfl
theorem q6_131 : (Cond.code yX7_tells prog_9_method_96_code (2) (Option.some .int)) ∈ wsG := wg6 (List.mem_of_getElem? (i := 131) rfl) rfl
theorem q6_132 : (Cond.methodLink "SignalsSightedModel" (343) yX7_tellsAll) ∈ wsG := wg6 (List.mem_of_getElem? (i := 132) rfl) rfl
theorem q6_134 : (Cond.instanceMethod yX7_tellsAll) ∈ wsG := wg6 (List.mem_of_getElem? (i := 134) rfl) rfl
theorem q6_135 : (Cond.code yX7_tellsAll prog_9_method_95_code (4) (Option.some .int)) ∈ wsG := wg6 (List.mem_of_getElem? (i := 135) rfl) rfl
theorem q6_136 : (Cond.methodLink "SignalsSightedModel" (337) yX7_statement) ∈ wsG := wg6 (List.mem_of_getElem? (i := 136) rfl) rfl
theorem q6_138 : (Cond.instanceMethod yX7_statement) ∈ wsG := wg6 (List.mem_of_getElem? (i := 138) rfl) rfl
theorem q6_139 : (Cond.code yX7_statement prog_9_method_91_code (3) (Option.some .int)) ∈ wsG := wg6 (List.mem_of_getElem? (i := 139) rfl) rfl
theorem q6_140 : (Cond.methodLink "SignalsSightedModel" (305) yX7_readWord) ∈ wsG := wg6 (List.mem_of_getElem? (i := 140) rfl) rfl
theorem q6_142 : (Cond.instanceMethod yX7_readWord) ∈ wsG := wg6 (List.mem_of_getElem? (i := 142) rfl) rfl
theorem q6_143 : (Cond.code yX7_readWord prog_9_method_88_code (5) (Option.some .int)) ∈ wsG := wg6 (List.mem_of_getElem? (i := 143) rfl) rfl
theorem q6_144 : (Cond.methodLink "SignalsSightedModel" (286) yX7_word) ∈ wsG := wg6 (List.mem_of_getElem? (i := 144) rfl) rfl
theorem q6_145 : (Cond.static yX7_word) ∈ wsG := wg6 (List.mem_of_getElem? (i := 145) rfl) rfl
theorem q6_146 : (Cond.code yX7_word prog_9_method_84_code (1) (Option.some (.object "java/lang/String"))) ∈ wsG := wg6 (List.mem_of_getElem? (i := 146) rfl) rfl
theorem q6_154 : (Cond.methodLink "SignalsSightedModel" (290) yJ0_length_8abf5) ∈ wsG := wg6 (List.mem_of_getElem? (i := 154) rfl) rfl
theorem q6_155 : (Cond.methodLink "SignalsSightedModel" (295) yJ0_charAt_5068e) ∈ wsG := wg6 (List.mem_of_getElem? (i := 155) rfl) rfl
theorem q6_156 : (Cond.methodLink "SignalsSightedModel" (283) yX7_here) ∈ wsG := wg6 (List.mem_of_getElem? (i := 156) rfl) rfl
theorem q6_158 : (Cond.instanceMethod yX7_here) ∈ wsG := wg6 (List.mem_of_getElem? (i := 158) rfl) rfl
theorem q6_159 : (Cond.code yX7_here prog_9_method_86_code (1) (Option.some .int)) ∈ wsG := wg6 (List.mem_of_getElem? (i := 159) rfl) rfl
theorem q6_160 : (Cond.methodLink "SignalsSightedModel" (308) yX7_reads) ∈ wsG := wg6 (List.mem_of_getElem? (i := 160) rfl) rfl
theorem q6_162 : (Cond.instanceMethod yX7_reads) ∈ wsG := wg6 (List.mem_of_getElem? (i := 162) rfl) rfl
theorem q6_163 : (Cond.code yX7_reads prog_9_method_90_code (1) (Option.some .boolean)) ∈ wsG := wg6 (List.mem_of_getElem? (i := 163) rfl) rfl
theorem q6_164 : (Cond.methodLink "SignalsSightedModel" (299) yX7_takes) ∈ wsG := wg6 (List.mem_of_getElem? (i := 164) rfl) rfl
theorem q6_166 : (Cond.instanceMethod yX7_takes) ∈ wsG := wg6 (List.mem_of_getElem? (i := 166) rfl) rfl
theorem q6_167 : (Cond.code yX7_takes prog_9_method_87_code (2) (Option.some .boolean)) ∈ wsG := wg6 (List.mem_of_getElem? (i := 167) rfl) rfl
theorem q6_168 : (Cond.methodLink "SignalsSightedModel" (311) yX7_numbersOf) ∈ wsG := wg6 (List.mem_of_getElem? (i := 168) rfl) rfl
theorem q6_169 : (Cond.static yX7_numbersOf) ∈ wsG := wg6 (List.mem_of_getElem? (i := 169) rfl) rfl
theorem q6_170 : (Cond.code yX7_numbersOf prog_9_method_85_code (1) (Option.some .int)) ∈ wsG := wg6 (List.mem_of_getElem? (i := 170) rfl) rfl
theorem q6_171 : (Cond.methodLink "SignalsSightedModel" (314) yX7_readNumber) ∈ wsG := wg6 (List.mem_of_getElem? (i := 171) rfl) rfl
theorem q6_173 : (Cond.instanceMethod yX7_readNumber) ∈ wsG := wg6 (List.mem_of_getElem? (i := 173) rfl) rfl
theorem q6_174 : (Cond.code yX7_readNumber prog_9_method_89_code (2) (Option.some .boolean)) ∈ wsG := wg6 (List.mem_of_getElem? (i := 174) rfl) rfl
theorem q6_175 : (Cond.methodLink "SignalsSightedModel" (340) yX7_does) ∈ wsG := wg6 (List.mem_of_getElem? (i := 175) rfl) rfl
theorem q6_177 : (Cond.instanceMethod yX7_does) ∈ wsG := wg6 (List.mem_of_getElem? (i := 177) rfl) rfl
theorem q6_178 : (Cond.code yX7_does prog_9_method_94_code (2) (Option.some .int)) ∈ wsG := wg6 (List.mem_of_getElem? (i := 178) rfl) rfl
theorem q6_179 : (Cond.methodLink "SignalsSightedModel" (320) yX7_ground) ∈ wsG := wg6 (List.mem_of_getElem? (i := 179) rfl) rfl
theorem q6_180 : (Cond.methodLink "SignalsSightedModel" (322) yX7_bridge) ∈ wsG := wg6 (List.mem_of_getElem? (i := 180) rfl) rfl
theorem q6_181 : (Cond.methodLink "SignalsSightedModel" (325) yX7_post) ∈ wsG := wg6 (List.mem_of_getElem? (i := 181) rfl) rfl
theorem q6_182 : (Cond.methodLink "SignalsSightedModel" (327) yX7_train) ∈ wsG := wg6 (List.mem_of_getElem? (i := 182) rfl) rfl
theorem q6_183 : (Cond.methodLink "SignalsSightedModel" (330) yX7_need) ∈ wsG := wg6 (List.mem_of_getElem? (i := 183) rfl) rfl
theorem q6_184 : (Cond.methodLink "SignalsSightedModel" (332) yX7_cells) ∈ wsG := wg6 (List.mem_of_getElem? (i := 184) rfl) rfl
theorem q6_185 : (Cond.methodLink "SignalsSightedModel" (334) yX7_places) ∈ wsG := wg6 (List.mem_of_getElem? (i := 185) rfl) rfl
theorem q6_187 : (Cond.instanceMethod yX7_places) ∈ wsG := wg6 (List.mem_of_getElem? (i := 187) rfl) rfl
theorem q6_188 : (Cond.code yX7_places prog_9_method_93_code (4) (Option.some .int)) ∈ wsG := wg6 (List.mem_of_getElem? (i := 188) rfl) rfl
theorem q6_189 : (Cond.methodLink "SignalsSightedModel" (317) yX7_named) ∈ wsG := wg6 (List.mem_of_getElem? (i := 189) rfl) rfl
theorem q6_191 : (Cond.instanceMethod yX7_named) ∈ wsG := wg6 (List.mem_of_getElem? (i := 191) rfl) rfl
theorem q6_192 : (Cond.code yX7_named prog_9_method_92_code (4) (Option.some .int)) ∈ wsG := wg6 (List.mem_of_getElem? (i := 192) rfl) rfl
theorem q6_193 : (Cond.methodLink "SignalsSightedLaw" (198) yX7_image) ∈ wsG := wg6 (List.mem_of_getElem? (i := 193) rfl) rfl
theorem q6_194 : (Cond.instanceMethod yX7_image) ∈ wsG := wg6 (List.mem_of_getElem? (i := 194) rfl) rfl
theorem q6_195 : (Cond.selects "SignalsSightedModel" yX7_image yX7_image) ∈ wsG := wg6 (List.mem_of_getElem? (i := 195) rfl) rfl
theorem q6_196 : (Cond.code yX7_image prog_9_method_99_code (1) (Option.some .int)) ∈ wsG := wg6 (List.mem_of_getElem? (i := 196) rfl) rfl
theorem q6_197 : (Cond.methodLink "SignalsSightedLaw" (202) yX7_on) ∈ wsG := wg6 (List.mem_of_getElem? (i := 197) rfl) rfl
theorem q6_198 : (Cond.instanceMethod yX7_on) ∈ wsG := wg6 (List.mem_of_getElem? (i := 198) rfl) rfl
theorem q6_199 : (Cond.selects "SignalsSightedModel" yX7_on yX7_on) ∈ wsG := wg6 (List.mem_of_getElem? (i := 199) rfl) rfl
theorem q6_200 : (Cond.code yX7_on prog_9_method_100_code (1) (Option.some .int)) ∈ wsG := wg6 (List.mem_of_getElem? (i := 200) rfl) rfl
theorem q6_201 : (Cond.methodLink "SignalsSightedLaw" (206) yX7_count) ∈ wsG := wg6 (List.mem_of_getElem? (i := 201) rfl) rfl
theorem q6_202 : (Cond.instanceMethod yX7_count) ∈ wsG := wg6 (List.mem_of_getElem? (i := 202) rfl) rfl
theorem q6_203 : (Cond.selects "SignalsSightedModel" yX7_count yX7_count) ∈ wsG := wg6 (List.mem_of_getElem? (i := 203) rfl) rfl
theorem q6_204 : (Cond.code yX7_count prog_9_method_101_code (2) (Option.some .int)) ∈ wsG := wg6 (List.mem_of_getElem? (i := 204) rfl) rfl
theorem q6_205 : (Cond.constantLong "SignalsSightedLaw" (168) (4294967295)) ∈ wsG := wg6 (List.mem_of_getElem? (i := 205) rfl) rfl
theorem q6_206 : (Cond.fieldLink "java/lang/String" (9) "java/lang/String" "value" "[B") ∈ wsG := wg6 (List.mem_of_getElem? (i := 206) rfl) rfl
theorem q6_207 : (Cond.fieldLink "java/lang/String" (15) "java/lang/String" "coder" "B") ∈ wsG := wg6 (List.mem_of_getElem? (i := 207) rfl) rfl
