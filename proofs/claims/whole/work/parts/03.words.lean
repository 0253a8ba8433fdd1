theorem t_0 : Cond.initialized RL ∈ gT := gT_mem (List.mem_append_right _ (List.mem_append_left _ (List.mem_of_getElem? (i := 0) rfl))) rfl
theorem t_1 : Cond.initialized RX2 ∈ gT := gT_mem (List.mem_append_right _ (List.mem_append_left _ (List.mem_of_getElem? (i := 1) rfl))) rfl
theorem t_2 : Cond.initialized RX0 ∈ gT := gT_mem (List.mem_append_right _ (List.mem_append_left _ (List.mem_of_getElem? (i := 2) rfl))) rfl
theorem t_3 : Cond.initialized RX1 ∈ gT := gT_mem (List.mem_append_right _ (List.mem_append_left _ (List.mem_of_getElem? (i := 3) rfl))) rfl
theorem t_4 : Cond.initialized RX3 ∈ gT := gT_mem (List.mem_append_right _ (List.mem_append_left _ (List.mem_of_getElem? (i := 4) rfl))) rfl
theorem t_5 : Cond.initialized RJ13 ∈ gT := gT_mem (List.mem_append_right _ (List.mem_append_left _ (List.mem_of_getElem? (i := 5) rfl))) rfl
theorem t_6 : Cond.classLink RL 7 RX2 ∈ gT := gT_mem (List.mem_append_right _ (List.mem_append_left _ (List.mem_of_getElem? (i := 6) rfl))) rfl
theorem t_7 : Cond.instantiable RX2 4 ∈ gT := gT_mem (List.mem_append_right _ (List.mem_append_left _ (List.mem_of_getElem? (i := 7) rfl))) rfl
theorem t_8 : Cond.methodLink RL 9 yX2_init ∈ gT := gT_mem (List.mem_append_right _ (List.mem_append_left _ (List.mem_of_getElem? (i := 8) rfl))) rfl
theorem t_9 : Cond.instanceMethod yX2_init ∈ gT := gT_mem (List.mem_append_right _ (List.mem_append_left _ (List.mem_of_getElem? (i := 9) rfl))) rfl
theorem t_10 : Cond.code yX2_init cX2_init 2 none ∈ gT := gT_mem (List.mem_append_right _ (List.mem_append_left _ (List.mem_of_getElem? (i := 10) rfl))) rfl
theorem t_11 : Cond.methodLink RX2 1 objectInit ∈ gT := gT_mem (List.mem_append_right _ (List.mem_append_left _ (List.mem_of_getElem? (i := 11) rfl))) rfl
theorem t_12 : Cond.instanceMethod objectInit ∈ gT := gT_mem (List.mem_append_right _ (List.mem_append_left _ (List.mem_of_getElem? (i := 12) rfl))) rfl
theorem t_13 : Cond.code objectInit ⟨#[0xb1]⟩ 1 none ∈ gT := gT_mem (List.mem_append_right _ (List.mem_append_left _ (List.mem_of_getElem? (i := 13) rfl))) rfl
theorem t_14 : Cond.classLink RX2 9 RX0 ∈ gT := gT_mem (List.mem_append_right _ (List.mem_append_left _ (List.mem_of_getElem? (i := 14) rfl))) rfl
theorem t_15 : Cond.arrayOver (.object RX0) ∈ lw_tbl := List.mem_append_right _ (List.mem_append_left _ (List.mem_of_getElem? (i := 15) rfl))
theorem t_16 : Cond.instantiable RX0 4 ∈ gT := gT_mem (List.mem_append_right _ (List.mem_append_left _ (List.mem_of_getElem? (i := 16) rfl))) rfl
theorem t_17 : Cond.methodLinkNest RX2 15 yX0_init RX2 ∈ gNw := gN_mem (List.mem_append_right _ (List.mem_append_left _ (List.mem_of_getElem? (i := 17) rfl))) rfl
theorem t_18 : Cond.instanceMethod yX0_init ∈ gT := gT_mem (List.mem_append_right _ (List.mem_append_left _ (List.mem_of_getElem? (i := 18) rfl))) rfl
theorem t_19 : Cond.code yX0_init cX0_init 1 none ∈ gT := gT_mem (List.mem_append_right _ (List.mem_append_left _ (List.mem_of_getElem? (i := 19) rfl))) rfl
theorem t_20 : Cond.methodLink RX0 3 objectInit ∈ gT := gT_mem (List.mem_append_right _ (List.mem_append_left _ (List.mem_of_getElem? (i := 20) rfl))) rfl
theorem t_21 : Cond.fieldLinkNest RX2 34 RX0 "runs" "Z" RX2 ∈ gNw := gN_mem (List.mem_append_right _ (List.mem_append_left _ (List.mem_of_getElem? (i := 21) rfl))) rfl
theorem t_22 : Cond.fieldLink RX0 18 RX0 "mapped" "J" ∈ gT := gT_mem (List.mem_append_right _ (List.mem_append_left _ (List.mem_of_getElem? (i := 22) rfl))) rfl
theorem t_23 : Cond.fieldLinkNest RX2 102 RX0 "mapped" "J" RX2 ∈ gNw := gN_mem (List.mem_append_right _ (List.mem_append_left _ (List.mem_of_getElem? (i := 23) rfl))) rfl
theorem t_24 : Cond.fieldLink RX0 9 RX0 "frames" "[I" ∈ gT := gT_mem (List.mem_append_right _ (List.mem_append_left _ (List.mem_of_getElem? (i := 24) rfl))) rfl
theorem t_25 : Cond.fieldLinkNest RX2 78 RX0 "frames" "[I" RX2 ∈ gNw := gN_mem (List.mem_append_right _ (List.mem_append_left _ (List.mem_of_getElem? (i := 25) rfl))) rfl
theorem t_26 : Cond.fieldLink RX0 15 RX0 "kinds" "[I" ∈ gT := gT_mem (List.mem_append_right _ (List.mem_append_left _ (List.mem_of_getElem? (i := 26) rfl))) rfl
theorem t_27 : Cond.fieldLinkNest RX2 114 RX0 "kinds" "[I" RX2 ∈ gNw := gN_mem (List.mem_append_right _ (List.mem_append_left _ (List.mem_of_getElem? (i := 27) rfl))) rfl
theorem t_37 : Cond.arrayClass .int ∈ gT := gT_mem (List.mem_append_right _ (List.mem_append_left _ (List.mem_of_getElem? (i := 37) rfl))) rfl
theorem t_38 : Cond.classLink RX2 16 RX1 ∈ gT := gT_mem (List.mem_append_right _ (List.mem_append_left _ (List.mem_of_getElem? (i := 38) rfl))) rfl
theorem t_39 : Cond.instantiable RX1 2 ∈ gT := gT_mem (List.mem_append_right _ (List.mem_append_left _ (List.mem_of_getElem? (i := 39) rfl))) rfl
theorem t_40 : Cond.methodLinkNest RX2 18 yX1_init RX2 ∈ gNw := gN_mem (List.mem_append_right _ (List.mem_append_left _ (List.mem_of_getElem? (i := 40) rfl))) rfl
theorem t_41 : Cond.instanceMethod yX1_init ∈ gT := gT_mem (List.mem_append_right _ (List.mem_append_left _ (List.mem_of_getElem? (i := 41) rfl))) rfl
theorem t_42 : Cond.code yX1_init cX1_init 1 none ∈ gT := gT_mem (List.mem_append_right _ (List.mem_append_left _ (List.mem_of_getElem? (i := 42) rfl))) rfl
theorem t_43 : Cond.methodLink RX1 3 objectInit ∈ gT := gT_mem (List.mem_append_right _ (List.mem_append_left _ (List.mem_of_getElem? (i := 43) rfl))) rfl
theorem t_44 : Cond.fieldLink RX1 9 RX1 "words" "[I" ∈ gT := gT_mem (List.mem_append_right _ (List.mem_append_left _ (List.mem_of_getElem? (i := 44) rfl))) rfl
theorem t_45 : Cond.fieldLinkNest RX2 97 RX1 "words" "[I" RX2 ∈ gNw := gN_mem (List.mem_append_right _ (List.mem_append_left _ (List.mem_of_getElem? (i := 45) rfl))) rfl
theorem t_46 : Cond.fieldLink RX1 15 RX1 "counts" "[I" ∈ gT := gT_mem (List.mem_append_right _ (List.mem_append_left _ (List.mem_of_getElem? (i := 46) rfl))) rfl
theorem t_47 : Cond.fieldLinkNest RX2 111 RX1 "counts" "[I" RX2 ∈ gNw := gN_mem (List.mem_append_right _ (List.mem_append_left _ (List.mem_of_getElem? (i := 47) rfl))) rfl
theorem t_53 : Cond.fieldLink RX2 11 RX2 "spaces" "[LForkedPages$Space;" ∈ gT := gT_mem (List.mem_append_right _ (List.mem_append_left _ (List.mem_of_getElem? (i := 53) rfl))) rfl
theorem t_54 : Cond.fieldLink RX2 19 RX2 "store" "LForkedPages$Store;" ∈ gT := gT_mem (List.mem_append_right _ (List.mem_append_left _ (List.mem_of_getElem? (i := 54) rfl))) rfl
theorem t_55 : Cond.fieldLink RX2 121 RX2 "allFaults" "I" ∈ gT := gT_mem (List.mem_append_right _ (List.mem_append_left _ (List.mem_of_getElem? (i := 55) rfl))) rfl
theorem t_56 : Cond.fieldLink RX2 117 RX2 "copyFaults" "I" ∈ gT := gT_mem (List.mem_append_right _ (List.mem_append_left _ (List.mem_of_getElem? (i := 56) rfl))) rfl
theorem t_66 : Cond.methodLink RL 13 yX2_spawn ∈ gT := gT_mem (List.mem_append_right _ (List.mem_append_left _ (List.mem_of_getElem? (i := 66) rfl))) rfl
theorem t_67 : Cond.instanceMethod yX2_spawn ∈ gT := gT_mem (List.mem_append_right _ (List.mem_append_left _ (List.mem_of_getElem? (i := 67) rfl))) rfl
theorem t_68 : Cond.selects RX2 yX2_spawn yX2_spawn ∈ gT := gT_mem (List.mem_append_right _ (List.mem_append_left _ (List.mem_of_getElem? (i := 68) rfl))) rfl
theorem t_69 : Cond.code yX2_spawn cX2_spawn 2 (some .int) ∈ gT := gT_mem (List.mem_append_right _ (List.mem_append_left _ (List.mem_of_getElem? (i := 69) rfl))) rfl
theorem t_70 : Cond.methodLink RX2 23 yX2_leastIdle ∈ gT := gT_mem (List.mem_append_right _ (List.mem_append_left _ (List.mem_of_getElem? (i := 70) rfl))) rfl
theorem t_72 : Cond.instanceMethod yX2_leastIdle ∈ gT := gT_mem (List.mem_append_right _ (List.mem_append_left _ (List.mem_of_getElem? (i := 72) rfl))) rfl
theorem t_73 : Cond.code yX2_leastIdle cX2_leastIdle 2 (some .int) ∈ gT := gT_mem (List.mem_append_right _ (List.mem_append_left _ (List.mem_of_getElem? (i := 73) rfl))) rfl
theorem t_74 : Cond.methodLink RX2 27 yX2_freeFrames ∈ gT := gT_mem (List.mem_append_right _ (List.mem_append_left _ (List.mem_of_getElem? (i := 74) rfl))) rfl
theorem t_76 : Cond.instanceMethod yX2_freeFrames ∈ gT := gT_mem (List.mem_append_right _ (List.mem_append_left _ (List.mem_of_getElem? (i := 76) rfl))) rfl
theorem t_77 : Cond.code yX2_freeFrames cX2_freeFrames 3 (some .int) ∈ gT := gT_mem (List.mem_append_right _ (List.mem_append_left _ (List.mem_of_getElem? (i := 77) rfl))) rfl
theorem t_78 : Cond.methodLinkNest RX2 124 yX1_usedFrames RX2 ∈ gNw := gN_mem (List.mem_append_right _ (List.mem_append_left _ (List.mem_of_getElem? (i := 78) rfl))) rfl
theorem t_80 : Cond.instanceMethod yX1_usedFrames ∈ gT := gT_mem (List.mem_append_right _ (List.mem_append_left _ (List.mem_of_getElem? (i := 80) rfl))) rfl
theorem t_81 : Cond.code yX1_usedFrames cX1_usedFrames 3 (some .int) ∈ gT := gT_mem (List.mem_append_right _ (List.mem_append_left _ (List.mem_of_getElem? (i := 81) rfl))) rfl
theorem t_82 : Cond.methodLinkNest RX2 42 yX0_tableCount RX2 ∈ gNw := gN_mem (List.mem_append_right _ (List.mem_append_left _ (List.mem_of_getElem? (i := 82) rfl))) rfl
theorem t_84 : Cond.instanceMethod yX0_tableCount ∈ gT := gT_mem (List.mem_append_right _ (List.mem_append_left _ (List.mem_of_getElem? (i := 84) rfl))) rfl
theorem t_85 : Cond.code yX0_tableCount cX0_tableCount 1 (some .int) ∈ gT := gT_mem (List.mem_append_right _ (List.mem_append_left _ (List.mem_of_getElem? (i := 85) rfl))) rfl
theorem t_86 : Cond.methodLink RX0 24 yX0_tablesFor ∈ gT := gT_mem (List.mem_append_right _ (List.mem_append_left _ (List.mem_of_getElem? (i := 86) rfl))) rfl
theorem t_87 : Cond.static yX0_tablesFor ∈ gT := gT_mem (List.mem_append_right _ (List.mem_append_left _ (List.mem_of_getElem? (i := 87) rfl))) rfl
theorem t_88 : Cond.code yX0_tablesFor cX0_tablesFor 2 (some .int) ∈ gT := gT_mem (List.mem_append_right _ (List.mem_append_left _ (List.mem_of_getElem? (i := 88) rfl))) rfl
theorem t_89 : Cond.methodLink RX0 28 yX0_spansUsed ∈ gT := gT_mem (List.mem_append_right _ (List.mem_append_left _ (List.mem_of_getElem? (i := 89) rfl))) rfl
theorem t_90 : Cond.static yX0_spansUsed ∈ gT := gT_mem (List.mem_append_right _ (List.mem_append_left _ (List.mem_of_getElem? (i := 90) rfl))) rfl
theorem t_91 : Cond.code yX0_spansUsed cX0_spansUsed 8 (some .int) ∈ gT := gT_mem (List.mem_append_right _ (List.mem_append_left _ (List.mem_of_getElem? (i := 91) rfl))) rfl
theorem t_92 : Cond.methodLinkNest RX2 30 yX0_tablesFor RX2 ∈ gNw := gN_mem (List.mem_append_right _ (List.mem_append_left _ (List.mem_of_getElem? (i := 92) rfl))) rfl
theorem t_93 : Cond.methodLink RL 18 yX2_fork ∈ gT := gT_mem (List.mem_append_right _ (List.mem_append_left _ (List.mem_of_getElem? (i := 93) rfl))) rfl
theorem t_94 : Cond.instanceMethod yX2_fork ∈ gT := gT_mem (List.mem_append_right _ (List.mem_append_left _ (List.mem_of_getElem? (i := 94) rfl))) rfl
theorem t_95 : Cond.selects RX2 yX2_fork yX2_fork ∈ gT := gT_mem (List.mem_append_right _ (List.mem_append_left _ (List.mem_of_getElem? (i := 95) rfl))) rfl
theorem t_96 : Cond.code yX2_fork cX2_fork 6 (some .int) ∈ gT := gT_mem (List.mem_append_right _ (List.mem_append_left _ (List.mem_of_getElem? (i := 96) rfl))) rfl
theorem t_97 : Cond.methodLink RX2 38 yX2_isRunning ∈ gT := gT_mem (List.mem_append_right _ (List.mem_append_left _ (List.mem_of_getElem? (i := 97) rfl))) rfl
theorem t_99 : Cond.instanceMethod yX2_isRunning ∈ gT := gT_mem (List.mem_append_right _ (List.mem_append_left _ (List.mem_of_getElem? (i := 99) rfl))) rfl
theorem t_100 : Cond.code yX2_isRunning cX2_isRunning 2 (some .boolean) ∈ gT := gT_mem (List.mem_append_right _ (List.mem_append_left _ (List.mem_of_getElem? (i := 100) rfl))) rfl
theorem t_101 : Cond.methodLinkNest RX2 45 yX0_has RX2 ∈ gNw := gN_mem (List.mem_append_right _ (List.mem_append_left _ (List.mem_of_getElem? (i := 101) rfl))) rfl
theorem t_103 : Cond.instanceMethod yX0_has ∈ gT := gT_mem (List.mem_append_right _ (List.mem_append_left _ (List.mem_of_getElem? (i := 103) rfl))) rfl
theorem t_104 : Cond.code yX0_has cX0_has 2 (some .boolean) ∈ gT := gT_mem (List.mem_append_right _ (List.mem_append_left _ (List.mem_of_getElem? (i := 104) rfl))) rfl
theorem t_105 : Cond.methodLink RX2 48 yX2_sharePage ∈ gT := gT_mem (List.mem_append_right _ (List.mem_append_left _ (List.mem_of_getElem? (i := 105) rfl))) rfl
theorem t_107 : Cond.instanceMethod yX2_sharePage ∈ gT := gT_mem (List.mem_append_right _ (List.mem_append_left _ (List.mem_of_getElem? (i := 107) rfl))) rfl
theorem t_108 : Cond.code yX2_sharePage cX2_sharePage 4 none ∈ gT := gT_mem (List.mem_append_right _ (List.mem_append_left _ (List.mem_of_getElem? (i := 108) rfl))) rfl
theorem t_109 : Cond.methodLinkNest RX2 74 yX0_is RX2 ∈ gNw := gN_mem (List.mem_append_right _ (List.mem_append_left _ (List.mem_of_getElem? (i := 109) rfl))) rfl
theorem t_111 : Cond.instanceMethod yX0_is ∈ gT := gT_mem (List.mem_append_right _ (List.mem_append_left _ (List.mem_of_getElem? (i := 111) rfl))) rfl
theorem t_112 : Cond.code yX0_is cX0_is 3 (some .boolean) ∈ gT := gT_mem (List.mem_append_right _ (List.mem_append_left _ (List.mem_of_getElem? (i := 112) rfl))) rfl
theorem t_113 : Cond.methodLinkNest RX2 86 yX0_turn RX2 ∈ gNw := gN_mem (List.mem_append_right _ (List.mem_append_left _ (List.mem_of_getElem? (i := 113) rfl))) rfl
theorem t_115 : Cond.instanceMethod yX0_turn ∈ gT := gT_mem (List.mem_append_right _ (List.mem_append_left _ (List.mem_of_getElem? (i := 115) rfl))) rfl
theorem t_116 : Cond.code yX0_turn cX0_turn 3 none ∈ gT := gT_mem (List.mem_append_right _ (List.mem_append_left _ (List.mem_of_getElem? (i := 116) rfl))) rfl
theorem t_117 : Cond.methodLink RX2 70 yX2_startMapping ∈ gT := gT_mem (List.mem_append_right _ (List.mem_append_left _ (List.mem_of_getElem? (i := 117) rfl))) rfl
theorem t_119 : Cond.instanceMethod yX2_startMapping ∈ gT := gT_mem (List.mem_append_right _ (List.mem_append_left _ (List.mem_of_getElem? (i := 119) rfl))) rfl
theorem t_120 : Cond.code yX2_startMapping cX2_startMapping 5 none ∈ gT := gT_mem (List.mem_append_right _ (List.mem_append_left _ (List.mem_of_getElem? (i := 120) rfl))) rfl
theorem t_121 : Cond.methodLinkNest RX2 127 yX0_set RX2 ∈ gNw := gN_mem (List.mem_append_right _ (List.mem_append_left _ (List.mem_of_getElem? (i := 121) rfl))) rfl
theorem t_123 : Cond.instanceMethod yX0_set ∈ gT := gT_mem (List.mem_append_right _ (List.mem_append_left _ (List.mem_of_getElem? (i := 123) rfl))) rfl
theorem t_124 : Cond.code yX0_set cX0_set 4 none ∈ gT := gT_mem (List.mem_append_right _ (List.mem_append_left _ (List.mem_of_getElem? (i := 124) rfl))) rfl
theorem t_125 : Cond.methodLink RL 23 yX2_exit ∈ gT := gT_mem (List.mem_append_right _ (List.mem_append_left _ (List.mem_of_getElem? (i := 125) rfl))) rfl
theorem t_126 : Cond.instanceMethod yX2_exit ∈ gT := gT_mem (List.mem_append_right _ (List.mem_append_left _ (List.mem_of_getElem? (i := 126) rfl))) rfl
theorem t_127 : Cond.selects RX2 yX2_exit yX2_exit ∈ gT := gT_mem (List.mem_append_right _ (List.mem_append_left _ (List.mem_of_getElem? (i := 127) rfl))) rfl
theorem t_128 : Cond.code yX2_exit cX2_exit 5 (some .int) ∈ gT := gT_mem (List.mem_append_right _ (List.mem_append_left _ (List.mem_of_getElem? (i := 128) rfl))) rfl
theorem t_129 : Cond.methodLink RX2 52 yX2_endMapping ∈ gT := gT_mem (List.mem_append_right _ (List.mem_append_left _ (List.mem_of_getElem? (i := 129) rfl))) rfl
theorem t_131 : Cond.instanceMethod yX2_endMapping ∈ gT := gT_mem (List.mem_append_right _ (List.mem_append_left _ (List.mem_of_getElem? (i := 131) rfl))) rfl
theorem t_132 : Cond.code yX2_endMapping cX2_endMapping 3 none ∈ gT := gT_mem (List.mem_append_right _ (List.mem_append_left _ (List.mem_of_getElem? (i := 132) rfl))) rfl
theorem t_133 : Cond.methodLinkNest RX2 131 yX0_clear RX2 ∈ gNw := gN_mem (List.mem_append_right _ (List.mem_append_left _ (List.mem_of_getElem? (i := 133) rfl))) rfl
theorem t_135 : Cond.instanceMethod yX0_clear ∈ gT := gT_mem (List.mem_append_right _ (List.mem_append_left _ (List.mem_of_getElem? (i := 135) rfl))) rfl
theorem t_136 : Cond.code yX0_clear cX0_clear 2 none ∈ gT := gT_mem (List.mem_append_right _ (List.mem_append_left _ (List.mem_of_getElem? (i := 136) rfl))) rfl
theorem t_137 : Cond.constantLong RX0 22 (-1) ∈ gT := gT_mem (List.mem_append_right _ (List.mem_append_left _ (List.mem_of_getElem? (i := 137) rfl))) rfl
theorem t_138 : Cond.methodLink RL 27 yX2_map ∈ gT := gT_mem (List.mem_append_right _ (List.mem_append_left _ (List.mem_of_getElem? (i := 138) rfl))) rfl
theorem t_139 : Cond.instanceMethod yX2_map ∈ gT := gT_mem (List.mem_append_right _ (List.mem_append_left _ (List.mem_of_getElem? (i := 139) rfl))) rfl
theorem t_140 : Cond.selects RX2 yX2_map yX2_map ∈ gT := gT_mem (List.mem_append_right _ (List.mem_append_left _ (List.mem_of_getElem? (i := 140) rfl))) rfl
theorem t_141 : Cond.code yX2_map cX2_map 7 (some .int) ∈ gT := gT_mem (List.mem_append_right _ (List.mem_append_left _ (List.mem_of_getElem? (i := 141) rfl))) rfl
theorem t_142 : Cond.methodLink RX2 56 yX2_isPage ∈ gT := gT_mem (List.mem_append_right _ (List.mem_append_left _ (List.mem_of_getElem? (i := 142) rfl))) rfl
theorem t_143 : Cond.static yX2_isPage ∈ gT := gT_mem (List.mem_append_right _ (List.mem_append_left _ (List.mem_of_getElem? (i := 143) rfl))) rfl
theorem t_144 : Cond.code yX2_isPage cX2_isPage 1 (some .boolean) ∈ gT := gT_mem (List.mem_append_right _ (List.mem_append_left _ (List.mem_of_getElem? (i := 144) rfl))) rfl
theorem t_145 : Cond.methodLinkNest RX2 59 yX0_tablesToAdd RX2 ∈ gNw := gN_mem (List.mem_append_right _ (List.mem_append_left _ (List.mem_of_getElem? (i := 145) rfl))) rfl
theorem t_147 : Cond.instanceMethod yX0_tablesToAdd ∈ gT := gT_mem (List.mem_append_right _ (List.mem_append_left _ (List.mem_of_getElem? (i := 147) rfl))) rfl
theorem t_148 : Cond.code yX0_tablesToAdd cX0_tablesToAdd 2 (some .int) ∈ gT := gT_mem (List.mem_append_right _ (List.mem_append_left _ (List.mem_of_getElem? (i := 148) rfl))) rfl
theorem t_149 : Cond.methodLinkNest RX2 63 yX1_unusedFrame RX2 ∈ gNw := gN_mem (List.mem_append_right _ (List.mem_append_left _ (List.mem_of_getElem? (i := 149) rfl))) rfl
theorem t_151 : Cond.instanceMethod yX1_unusedFrame ∈ gT := gT_mem (List.mem_append_right _ (List.mem_append_left _ (List.mem_of_getElem? (i := 151) rfl))) rfl
theorem t_152 : Cond.code yX1_unusedFrame cX1_unusedFrame 3 (some .int) ∈ gT := gT_mem (List.mem_append_right _ (List.mem_append_left _ (List.mem_of_getElem? (i := 152) rfl))) rfl
theorem t_153 : Cond.methodLinkNest RX2 66 yX1_blank RX2 ∈ gNw := gN_mem (List.mem_append_right _ (List.mem_append_left _ (List.mem_of_getElem? (i := 153) rfl))) rfl
theorem t_155 : Cond.instanceMethod yX1_blank ∈ gT := gT_mem (List.mem_append_right _ (List.mem_append_left _ (List.mem_of_getElem? (i := 155) rfl))) rfl
theorem t_156 : Cond.code yX1_blank cX1_blank 3 none ∈ gT := gT_mem (List.mem_append_right _ (List.mem_append_left _ (List.mem_of_getElem? (i := 156) rfl))) rfl
theorem t_157 : Cond.methodLink RL 32 yX2_attach ∈ gT := gT_mem (List.mem_append_right _ (List.mem_append_left _ (List.mem_of_getElem? (i := 157) rfl))) rfl
theorem t_158 : Cond.instanceMethod yX2_attach ∈ gT := gT_mem (List.mem_append_right _ (List.mem_append_left _ (List.mem_of_getElem? (i := 158) rfl))) rfl
theorem t_159 : Cond.selects RX2 yX2_attach yX2_attach ∈ gT := gT_mem (List.mem_append_right _ (List.mem_append_left _ (List.mem_of_getElem? (i := 159) rfl))) rfl
theorem t_160 : Cond.code yX2_attach cX2_attach 9 (some .int) ∈ gT := gT_mem (List.mem_append_right _ (List.mem_append_left _ (List.mem_of_getElem? (i := 160) rfl))) rfl
theorem t_161 : Cond.methodLink RL 37 yX2_unmap ∈ gT := gT_mem (List.mem_append_right _ (List.mem_append_left _ (List.mem_of_getElem? (i := 161) rfl))) rfl
theorem t_162 : Cond.instanceMethod yX2_unmap ∈ gT := gT_mem (List.mem_append_right _ (List.mem_append_left _ (List.mem_of_getElem? (i := 162) rfl))) rfl
theorem t_163 : Cond.selects RX2 yX2_unmap yX2_unmap ∈ gT := gT_mem (List.mem_append_right _ (List.mem_append_left _ (List.mem_of_getElem? (i := 163) rfl))) rfl
theorem t_164 : Cond.code yX2_unmap cX2_unmap 5 (some .int) ∈ gT := gT_mem (List.mem_append_right _ (List.mem_append_left _ (List.mem_of_getElem? (i := 164) rfl))) rfl
theorem t_165 : Cond.methodLink RX2 82 yX2_refusalOfMapped ∈ gT := gT_mem (List.mem_append_right _ (List.mem_append_left _ (List.mem_of_getElem? (i := 165) rfl))) rfl
theorem t_167 : Cond.instanceMethod yX2_refusalOfMapped ∈ gT := gT_mem (List.mem_append_right _ (List.mem_append_left _ (List.mem_of_getElem? (i := 167) rfl))) rfl
theorem t_168 : Cond.code yX2_refusalOfMapped cX2_refusalOfMapped 3 (some .int) ∈ gT := gT_mem (List.mem_append_right _ (List.mem_append_left _ (List.mem_of_getElem? (i := 168) rfl))) rfl
theorem t_169 : Cond.methodLink RL 42 yX2_protect ∈ gT := gT_mem (List.mem_append_right _ (List.mem_append_left _ (List.mem_of_getElem? (i := 169) rfl))) rfl
theorem t_170 : Cond.instanceMethod yX2_protect ∈ gT := gT_mem (List.mem_append_right _ (List.mem_append_left _ (List.mem_of_getElem? (i := 170) rfl))) rfl
theorem t_171 : Cond.selects RX2 yX2_protect yX2_protect ∈ gT := gT_mem (List.mem_append_right _ (List.mem_append_left _ (List.mem_of_getElem? (i := 171) rfl))) rfl
theorem t_172 : Cond.code yX2_protect cX2_protect 6 (some .int) ∈ gT := gT_mem (List.mem_append_right _ (List.mem_append_left _ (List.mem_of_getElem? (i := 172) rfl))) rfl
theorem t_173 : Cond.methodLink RL 46 yX2_write ∈ gT := gT_mem (List.mem_append_right _ (List.mem_append_left _ (List.mem_of_getElem? (i := 173) rfl))) rfl
theorem t_174 : Cond.instanceMethod yX2_write ∈ gT := gT_mem (List.mem_append_right _ (List.mem_append_left _ (List.mem_of_getElem? (i := 174) rfl))) rfl
theorem t_175 : Cond.selects RX2 yX2_write yX2_write ∈ gT := gT_mem (List.mem_append_right _ (List.mem_append_left _ (List.mem_of_getElem? (i := 175) rfl))) rfl
theorem t_176 : Cond.code yX2_write cX2_write 8 (some .int) ∈ gT := gT_mem (List.mem_append_right _ (List.mem_append_left _ (List.mem_of_getElem? (i := 176) rfl))) rfl
theorem t_177 : Cond.methodLink RX2 90 yX2_refusalOfAddress ∈ gT := gT_mem (List.mem_append_right _ (List.mem_append_left _ (List.mem_of_getElem? (i := 177) rfl))) rfl
theorem t_179 : Cond.instanceMethod yX2_refusalOfAddress ∈ gT := gT_mem (List.mem_append_right _ (List.mem_append_left _ (List.mem_of_getElem? (i := 179) rfl))) rfl
theorem t_180 : Cond.code yX2_refusalOfAddress cX2_refusalOfAddress 3 (some .int) ∈ gT := gT_mem (List.mem_append_right _ (List.mem_append_left _ (List.mem_of_getElem? (i := 180) rfl))) rfl
theorem t_181 : Cond.methodLink RX2 93 yX2_resolveFault ∈ gT := gT_mem (List.mem_append_right _ (List.mem_append_left _ (List.mem_of_getElem? (i := 181) rfl))) rfl
theorem t_183 : Cond.instanceMethod yX2_resolveFault ∈ gT := gT_mem (List.mem_append_right _ (List.mem_append_left _ (List.mem_of_getElem? (i := 183) rfl))) rfl
theorem t_184 : Cond.code yX2_resolveFault cX2_resolveFault 7 (some .int) ∈ gT := gT_mem (List.mem_append_right _ (List.mem_append_left _ (List.mem_of_getElem? (i := 184) rfl))) rfl
theorem t_185 : Cond.methodLinkNest RX2 134 yX1_copy RX2 ∈ gNw := gN_mem (List.mem_append_right _ (List.mem_append_left _ (List.mem_of_getElem? (i := 185) rfl))) rfl
theorem t_187 : Cond.instanceMethod yX1_copy ∈ gT := gT_mem (List.mem_append_right _ (List.mem_append_left _ (List.mem_of_getElem? (i := 187) rfl))) rfl
theorem t_188 : Cond.code yX1_copy cX1_copy 4 none ∈ gT := gT_mem (List.mem_append_right _ (List.mem_append_left _ (List.mem_of_getElem? (i := 188) rfl))) rfl
theorem t_189 : Cond.methodLink RL 51 yX2_read ∈ gT := gT_mem (List.mem_append_right _ (List.mem_append_left _ (List.mem_of_getElem? (i := 189) rfl))) rfl
theorem t_190 : Cond.instanceMethod yX2_read ∈ gT := gT_mem (List.mem_append_right _ (List.mem_append_left _ (List.mem_of_getElem? (i := 190) rfl))) rfl
theorem t_191 : Cond.selects RX2 yX2_read yX2_read ∈ gT := gT_mem (List.mem_append_right _ (List.mem_append_left _ (List.mem_of_getElem? (i := 191) rfl))) rfl
theorem t_192 : Cond.code yX2_read cX2_read 4 (some .long) ∈ gT := gT_mem (List.mem_append_right _ (List.mem_append_left _ (List.mem_of_getElem? (i := 192) rfl))) rfl
theorem t_193 : Cond.constantLong RX2 100 (1099511627776) ∈ gT := gT_mem (List.mem_append_right _ (List.mem_append_left _ (List.mem_of_getElem? (i := 193) rfl))) rfl
theorem t_194 : Cond.methodLink RL 56 yX2_free ∈ gT := gT_mem (List.mem_append_right _ (List.mem_append_left _ (List.mem_of_getElem? (i := 194) rfl))) rfl
theorem t_195 : Cond.instanceMethod yX2_free ∈ gT := gT_mem (List.mem_append_right _ (List.mem_append_left _ (List.mem_of_getElem? (i := 195) rfl))) rfl
theorem t_196 : Cond.selects RX2 yX2_free yX2_free ∈ gT := gT_mem (List.mem_append_right _ (List.mem_append_left _ (List.mem_of_getElem? (i := 196) rfl))) rfl
theorem t_197 : Cond.code yX2_free cX2_free 1 (some .int) ∈ gT := gT_mem (List.mem_append_right _ (List.mem_append_left _ (List.mem_of_getElem? (i := 197) rfl))) rfl
theorem t_198 : Cond.methodLink RL 60 yX2_tables ∈ gT := gT_mem (List.mem_append_right _ (List.mem_append_left _ (List.mem_of_getElem? (i := 198) rfl))) rfl
theorem t_199 : Cond.instanceMethod yX2_tables ∈ gT := gT_mem (List.mem_append_right _ (List.mem_append_left _ (List.mem_of_getElem? (i := 199) rfl))) rfl
theorem t_200 : Cond.selects RX2 yX2_tables yX2_tables ∈ gT := gT_mem (List.mem_append_right _ (List.mem_append_left _ (List.mem_of_getElem? (i := 200) rfl))) rfl
theorem t_201 : Cond.code yX2_tables cX2_tables 2 (some .int) ∈ gT := gT_mem (List.mem_append_right _ (List.mem_append_left _ (List.mem_of_getElem? (i := 201) rfl))) rfl
theorem t_202 : Cond.methodLink RL 64 yX2_pages ∈ gT := gT_mem (List.mem_append_right _ (List.mem_append_left _ (List.mem_of_getElem? (i := 202) rfl))) rfl
theorem t_203 : Cond.instanceMethod yX2_pages ∈ gT := gT_mem (List.mem_append_right _ (List.mem_append_left _ (List.mem_of_getElem? (i := 203) rfl))) rfl
theorem t_204 : Cond.selects RX2 yX2_pages yX2_pages ∈ gT := gT_mem (List.mem_append_right _ (List.mem_append_left _ (List.mem_of_getElem? (i := 204) rfl))) rfl
theorem t_205 : Cond.code yX2_pages cX2_pages 2 (some .int) ∈ gT := gT_mem (List.mem_append_right _ (List.mem_append_left _ (List.mem_of_getElem? (i := 205) rfl))) rfl
theorem t_206 : Cond.methodLink RX2 106 yJ13_bitCount_95d88 ∈ gT := gT_mem (List.mem_append_right _ (List.mem_append_left _ (List.mem_of_getElem? (i := 206) rfl))) rfl
theorem t_207 : Cond.static yJ13_bitCount_95d88 ∈ gT := gT_mem (List.mem_append_right _ (List.mem_append_left _ (List.mem_of_getElem? (i := 207) rfl))) rfl
theorem t_208 : Cond.code yJ13_bitCount_95d88 cJ13_bitCount_95d88 2 (some .int) ∈ gT := gT_mem (List.mem_append_right _ (List.mem_append_left _ (List.mem_of_getElem? (i := 208) rfl))) rfl
theorem t_209 : Cond.constantLong RJ13 314 (6148914691236517205) ∈ gT := gT_mem (List.mem_append_right _ (List.mem_append_left _ (List.mem_of_getElem? (i := 209) rfl))) rfl
theorem t_210 : Cond.constantLong RJ13 316 (3689348814741910323) ∈ gT := gT_mem (List.mem_append_right _ (List.mem_append_left _ (List.mem_of_getElem? (i := 210) rfl))) rfl
theorem t_211 : Cond.constantLong RJ13 318 (1085102592571150095) ∈ gT := gT_mem (List.mem_append_right _ (List.mem_append_left _ (List.mem_of_getElem? (i := 211) rfl))) rfl
theorem t_212 : Cond.methodLink RL 68 yX2_count ∈ gT := gT_mem (List.mem_append_right _ (List.mem_append_left _ (List.mem_of_getElem? (i := 212) rfl))) rfl
theorem t_213 : Cond.instanceMethod yX2_count ∈ gT := gT_mem (List.mem_append_right _ (List.mem_append_left _ (List.mem_of_getElem? (i := 213) rfl))) rfl
theorem t_214 : Cond.selects RX2 yX2_count yX2_count ∈ gT := gT_mem (List.mem_append_right _ (List.mem_append_left _ (List.mem_of_getElem? (i := 214) rfl))) rfl
theorem t_215 : Cond.code yX2_count cX2_count 4 (some .int) ∈ gT := gT_mem (List.mem_append_right _ (List.mem_append_left _ (List.mem_of_getElem? (i := 215) rfl))) rfl
theorem t_216 : Cond.methodLink RL 72 yX2_mapping ∈ gT := gT_mem (List.mem_append_right _ (List.mem_append_left _ (List.mem_of_getElem? (i := 216) rfl))) rfl
theorem t_217 : Cond.instanceMethod yX2_mapping ∈ gT := gT_mem (List.mem_append_right _ (List.mem_append_left _ (List.mem_of_getElem? (i := 217) rfl))) rfl
theorem t_218 : Cond.selects RX2 yX2_mapping yX2_mapping ∈ gT := gT_mem (List.mem_append_right _ (List.mem_append_left _ (List.mem_of_getElem? (i := 218) rfl))) rfl
theorem t_219 : Cond.code yX2_mapping cX2_mapping 4 (some .int) ∈ gT := gT_mem (List.mem_append_right _ (List.mem_append_left _ (List.mem_of_getElem? (i := 219) rfl))) rfl
theorem t_220 : Cond.methodLink RL 76 yX2_twin ∈ gT := gT_mem (List.mem_append_right _ (List.mem_append_left _ (List.mem_of_getElem? (i := 220) rfl))) rfl
theorem t_221 : Cond.instanceMethod yX2_twin ∈ gT := gT_mem (List.mem_append_right _ (List.mem_append_left _ (List.mem_of_getElem? (i := 221) rfl))) rfl
theorem t_222 : Cond.selects RX2 yX2_twin yX2_twin ∈ gT := gT_mem (List.mem_append_right _ (List.mem_append_left _ (List.mem_of_getElem? (i := 222) rfl))) rfl
theorem t_223 : Cond.code yX2_twin cX2_twin 9 (some .int) ∈ gT := gT_mem (List.mem_append_right _ (List.mem_append_left _ (List.mem_of_getElem? (i := 223) rfl))) rfl
theorem t_224 : Cond.methodLink RL 80 yX2_running ∈ gT := gT_mem (List.mem_append_right _ (List.mem_append_left _ (List.mem_of_getElem? (i := 224) rfl))) rfl
theorem t_225 : Cond.instanceMethod yX2_running ∈ gT := gT_mem (List.mem_append_right _ (List.mem_append_left _ (List.mem_of_getElem? (i := 225) rfl))) rfl
theorem t_226 : Cond.selects RX2 yX2_running yX2_running ∈ gT := gT_mem (List.mem_append_right _ (List.mem_append_left _ (List.mem_of_getElem? (i := 226) rfl))) rfl
theorem t_227 : Cond.code yX2_running cX2_running 3 (some .int) ∈ gT := gT_mem (List.mem_append_right _ (List.mem_append_left _ (List.mem_of_getElem? (i := 227) rfl))) rfl
theorem t_228 : Cond.methodLink RL 84 yX2_faults ∈ gT := gT_mem (List.mem_append_right _ (List.mem_append_left _ (List.mem_of_getElem? (i := 228) rfl))) rfl
theorem t_229 : Cond.instanceMethod yX2_faults ∈ gT := gT_mem (List.mem_append_right _ (List.mem_append_left _ (List.mem_of_getElem? (i := 229) rfl))) rfl
theorem t_230 : Cond.selects RX2 yX2_faults yX2_faults ∈ gT := gT_mem (List.mem_append_right _ (List.mem_append_left _ (List.mem_of_getElem? (i := 230) rfl))) rfl
theorem t_231 : Cond.code yX2_faults cX2_faults 2 (some .int) ∈ gT := gT_mem (List.mem_append_right _ (List.mem_append_left _ (List.mem_of_getElem? (i := 231) rfl))) rfl
theorem t_232 : Cond.classLink RL 10 RX3 ∈ gT := gT_mem (List.mem_append_right _ (List.mem_append_left _ (List.mem_of_getElem? (i := 232) rfl))) rfl
theorem t_233 : Cond.instantiable RX3 8 ∈ gT := gT_mem (List.mem_append_right _ (List.mem_append_left _ (List.mem_of_getElem? (i := 233) rfl))) rfl
theorem t_234 : Cond.methodLink RL 12 yX3_init ∈ gT := gT_mem (List.mem_append_right _ (List.mem_append_left _ (List.mem_of_getElem? (i := 234) rfl))) rfl
theorem t_235 : Cond.instanceMethod yX3_init ∈ gT := gT_mem (List.mem_append_right _ (List.mem_append_left _ (List.mem_of_getElem? (i := 235) rfl))) rfl
theorem t_236 : Cond.code yX3_init cX3_init 1 none ∈ gT := gT_mem (List.mem_append_right _ (List.mem_append_left _ (List.mem_of_getElem? (i := 236) rfl))) rfl
theorem t_237 : Cond.methodLink RX3 1 objectInit ∈ gT := gT_mem (List.mem_append_right _ (List.mem_append_left _ (List.mem_of_getElem? (i := 237) rfl))) rfl
theorem t_238 : Cond.fieldLink RX3 7 RX3 "runs" "[Z" ∈ gT := gT_mem (List.mem_append_right _ (List.mem_append_left _ (List.mem_of_getElem? (i := 238) rfl))) rfl
theorem t_239 : Cond.fieldLink RX3 13 RX3 "frame" "[I" ∈ gT := gT_mem (List.mem_append_right _ (List.mem_append_left _ (List.mem_of_getElem? (i := 239) rfl))) rfl
theorem t_240 : Cond.fieldLink RX3 17 RX3 "common" "[Z" ∈ gT := gT_mem (List.mem_append_right _ (List.mem_append_right _ (List.mem_of_getElem? (i := 0) rfl))) rfl
theorem t_241 : Cond.fieldLink RX3 20 RX3 "writable" "[Z" ∈ gT := gT_mem (List.mem_append_right _ (List.mem_append_right _ (List.mem_of_getElem? (i := 1) rfl))) rfl
theorem t_242 : Cond.fieldLink RX3 23 RX3 "marked" "[Z" ∈ gT := gT_mem (List.mem_append_right _ (List.mem_append_right _ (List.mem_of_getElem? (i := 2) rfl))) rfl
theorem t_243 : Cond.fieldLink RX3 26 RX3 "words" "[I" ∈ gT := gT_mem (List.mem_append_right _ (List.mem_append_right _ (List.mem_of_getElem? (i := 3) rfl))) rfl
theorem t_244 : Cond.fieldLink RX3 75 RX3 "faultCount" "I" ∈ gT := gT_mem (List.mem_append_right _ (List.mem_append_right _ (List.mem_of_getElem? (i := 4) rfl))) rfl
theorem t_245 : Cond.fieldLink RX3 71 RX3 "copyCount" "I" ∈ gT := gT_mem (List.mem_append_right _ (List.mem_append_right _ (List.mem_of_getElem? (i := 5) rfl))) rfl
theorem t_263 : Cond.arrayClass .boolean ∈ gT := gT_mem (List.mem_append_right _ (List.mem_append_right _ (List.mem_of_getElem? (i := 23) rfl))) rfl
theorem t_264 : Cond.methodLink RL 59 yX3_free ∈ gT := gT_mem (List.mem_append_right _ (List.mem_append_right _ (List.mem_of_getElem? (i := 24) rfl))) rfl
theorem t_265 : Cond.instanceMethod yX3_free ∈ gT := gT_mem (List.mem_append_right _ (List.mem_append_right _ (List.mem_of_getElem? (i := 25) rfl))) rfl
theorem t_266 : Cond.selects RX3 yX3_free yX3_free ∈ gT := gT_mem (List.mem_append_right _ (List.mem_append_right _ (List.mem_of_getElem? (i := 26) rfl))) rfl
theorem t_267 : Cond.code yX3_free cX3_free 3 (some .int) ∈ gT := gT_mem (List.mem_append_right _ (List.mem_append_right _ (List.mem_of_getElem? (i := 27) rfl))) rfl
theorem t_268 : Cond.methodLink RX3 33 yX3_leads ∈ gT := gT_mem (List.mem_append_right _ (List.mem_append_right _ (List.mem_of_getElem? (i := 28) rfl))) rfl
theorem t_270 : Cond.instanceMethod yX3_leads ∈ gT := gT_mem (List.mem_append_right _ (List.mem_append_right _ (List.mem_of_getElem? (i := 30) rfl))) rfl
theorem t_271 : Cond.code yX3_leads cX3_leads 4 (some .int) ∈ gT := gT_mem (List.mem_append_right _ (List.mem_append_right _ (List.mem_of_getElem? (i := 31) rfl))) rfl
theorem t_272 : Cond.methodLink RX3 37 yX3_tablesOf ∈ gT := gT_mem (List.mem_append_right _ (List.mem_append_right _ (List.mem_of_getElem? (i := 32) rfl))) rfl
theorem t_274 : Cond.instanceMethod yX3_tablesOf ∈ gT := gT_mem (List.mem_append_right _ (List.mem_append_right _ (List.mem_of_getElem? (i := 34) rfl))) rfl
theorem t_275 : Cond.code yX3_tablesOf cX3_tablesOf 4 (some .int) ∈ gT := gT_mem (List.mem_append_right _ (List.mem_append_right _ (List.mem_of_getElem? (i := 35) rfl))) rfl
theorem t_276 : Cond.methodLink RX3 29 yX3_some ∈ gT := gT_mem (List.mem_append_right _ (List.mem_append_right _ (List.mem_of_getElem? (i := 36) rfl))) rfl
theorem t_278 : Cond.instanceMethod yX3_some ∈ gT := gT_mem (List.mem_append_right _ (List.mem_append_right _ (List.mem_of_getElem? (i := 38) rfl))) rfl
theorem t_279 : Cond.code yX3_some cX3_some 6 (some .boolean) ∈ gT := gT_mem (List.mem_append_right _ (List.mem_append_right _ (List.mem_of_getElem? (i := 39) rfl))) rfl
theorem t_280 : Cond.methodLink RL 17 yX3_spawn ∈ gT := gT_mem (List.mem_append_right _ (List.mem_append_right _ (List.mem_of_getElem? (i := 40) rfl))) rfl
theorem t_281 : Cond.instanceMethod yX3_spawn ∈ gT := gT_mem (List.mem_append_right _ (List.mem_append_right _ (List.mem_of_getElem? (i := 41) rfl))) rfl
theorem t_282 : Cond.selects RX3 yX3_spawn yX3_spawn ∈ gT := gT_mem (List.mem_append_right _ (List.mem_append_right _ (List.mem_of_getElem? (i := 42) rfl))) rfl
theorem t_283 : Cond.code yX3_spawn cX3_spawn 2 (some .int) ∈ gT := gT_mem (List.mem_append_right _ (List.mem_append_right _ (List.mem_of_getElem? (i := 43) rfl))) rfl
theorem t_284 : Cond.methodLink RX3 40 yX3_idle ∈ gT := gT_mem (List.mem_append_right _ (List.mem_append_right _ (List.mem_of_getElem? (i := 44) rfl))) rfl
theorem t_286 : Cond.instanceMethod yX3_idle ∈ gT := gT_mem (List.mem_append_right _ (List.mem_append_right _ (List.mem_of_getElem? (i := 46) rfl))) rfl
theorem t_287 : Cond.code yX3_idle cX3_idle 2 (some .int) ∈ gT := gT_mem (List.mem_append_right _ (List.mem_append_right _ (List.mem_of_getElem? (i := 47) rfl))) rfl
theorem t_288 : Cond.methodLink RX3 44 yX3_free ∈ gT := gT_mem (List.mem_append_right _ (List.mem_append_right _ (List.mem_of_getElem? (i := 48) rfl))) rfl
theorem t_289 : Cond.methodLink RL 22 yX3_fork ∈ gT := gT_mem (List.mem_append_right _ (List.mem_append_right _ (List.mem_of_getElem? (i := 49) rfl))) rfl
theorem t_290 : Cond.instanceMethod yX3_fork ∈ gT := gT_mem (List.mem_append_right _ (List.mem_append_right _ (List.mem_of_getElem? (i := 50) rfl))) rfl
theorem t_291 : Cond.selects RX3 yX3_fork yX3_fork ∈ gT := gT_mem (List.mem_append_right _ (List.mem_append_right _ (List.mem_of_getElem? (i := 51) rfl))) rfl
theorem t_292 : Cond.code yX3_fork cX3_fork 6 (some .int) ∈ gT := gT_mem (List.mem_append_right _ (List.mem_append_right _ (List.mem_of_getElem? (i := 52) rfl))) rfl
theorem t_293 : Cond.methodLink RX3 47 yX3_away ∈ gT := gT_mem (List.mem_append_right _ (List.mem_append_right _ (List.mem_of_getElem? (i := 53) rfl))) rfl
theorem t_295 : Cond.instanceMethod yX3_away ∈ gT := gT_mem (List.mem_append_right _ (List.mem_append_right _ (List.mem_of_getElem? (i := 55) rfl))) rfl
theorem t_296 : Cond.code yX3_away cX3_away 2 (some .boolean) ∈ gT := gT_mem (List.mem_append_right _ (List.mem_append_right _ (List.mem_of_getElem? (i := 56) rfl))) rfl
theorem t_297 : Cond.methodLink RL 26 yX3_exit ∈ gT := gT_mem (List.mem_append_right _ (List.mem_append_right _ (List.mem_of_getElem? (i := 57) rfl))) rfl
theorem t_298 : Cond.instanceMethod yX3_exit ∈ gT := gT_mem (List.mem_append_right _ (List.mem_append_right _ (List.mem_of_getElem? (i := 58) rfl))) rfl
theorem t_299 : Cond.selects RX3 yX3_exit yX3_exit ∈ gT := gT_mem (List.mem_append_right _ (List.mem_append_right _ (List.mem_of_getElem? (i := 59) rfl))) rfl
theorem t_300 : Cond.code yX3_exit cX3_exit 4 (some .int) ∈ gT := gT_mem (List.mem_append_right _ (List.mem_append_right _ (List.mem_of_getElem? (i := 60) rfl))) rfl
theorem t_301 : Cond.methodLink RX3 51 yX3_clear ∈ gT := gT_mem (List.mem_append_right _ (List.mem_append_right _ (List.mem_of_getElem? (i := 61) rfl))) rfl
theorem t_303 : Cond.instanceMethod yX3_clear ∈ gT := gT_mem (List.mem_append_right _ (List.mem_append_right _ (List.mem_of_getElem? (i := 63) rfl))) rfl
theorem t_304 : Cond.code yX3_clear cX3_clear 2 none ∈ gT := gT_mem (List.mem_append_right _ (List.mem_append_right _ (List.mem_of_getElem? (i := 64) rfl))) rfl
theorem t_305 : Cond.methodLink RL 31 yX3_map ∈ gT := gT_mem (List.mem_append_right _ (List.mem_append_right _ (List.mem_of_getElem? (i := 65) rfl))) rfl
theorem t_306 : Cond.instanceMethod yX3_map ∈ gT := gT_mem (List.mem_append_right _ (List.mem_append_right _ (List.mem_of_getElem? (i := 66) rfl))) rfl
theorem t_307 : Cond.selects RX3 yX3_map yX3_map ∈ gT := gT_mem (List.mem_append_right _ (List.mem_append_right _ (List.mem_of_getElem? (i := 67) rfl))) rfl
theorem t_308 : Cond.code yX3_map cX3_map 8 (some .int) ∈ gT := gT_mem (List.mem_append_right _ (List.mem_append_right _ (List.mem_of_getElem? (i := 68) rfl))) rfl
theorem t_309 : Cond.methodLink RX3 55 yX3_isPage ∈ gT := gT_mem (List.mem_append_right _ (List.mem_append_right _ (List.mem_of_getElem? (i := 69) rfl))) rfl
theorem t_310 : Cond.static yX3_isPage ∈ gT := gT_mem (List.mem_append_right _ (List.mem_append_right _ (List.mem_of_getElem? (i := 70) rfl))) rfl
theorem t_311 : Cond.code yX3_isPage cX3_isPage 1 (some .boolean) ∈ gT := gT_mem (List.mem_append_right _ (List.mem_append_right _ (List.mem_of_getElem? (i := 71) rfl))) rfl
theorem t_312 : Cond.methodLink RX3 58 yX3_more ∈ gT := gT_mem (List.mem_append_right _ (List.mem_append_right _ (List.mem_of_getElem? (i := 72) rfl))) rfl
theorem t_314 : Cond.instanceMethod yX3_more ∈ gT := gT_mem (List.mem_append_right _ (List.mem_append_right _ (List.mem_of_getElem? (i := 74) rfl))) rfl
theorem t_315 : Cond.code yX3_more cX3_more 3 (some .int) ∈ gT := gT_mem (List.mem_append_right _ (List.mem_append_right _ (List.mem_of_getElem? (i := 75) rfl))) rfl
theorem t_316 : Cond.methodLink RX3 62 yX3_unused ∈ gT := gT_mem (List.mem_append_right _ (List.mem_append_right _ (List.mem_of_getElem? (i := 76) rfl))) rfl
theorem t_318 : Cond.instanceMethod yX3_unused ∈ gT := gT_mem (List.mem_append_right _ (List.mem_append_right _ (List.mem_of_getElem? (i := 78) rfl))) rfl
theorem t_319 : Cond.code yX3_unused cX3_unused 2 (some .int) ∈ gT := gT_mem (List.mem_append_right _ (List.mem_append_right _ (List.mem_of_getElem? (i := 79) rfl))) rfl
theorem t_320 : Cond.methodLink RL 36 yX3_attach ∈ gT := gT_mem (List.mem_append_right _ (List.mem_append_right _ (List.mem_of_getElem? (i := 80) rfl))) rfl
theorem t_321 : Cond.instanceMethod yX3_attach ∈ gT := gT_mem (List.mem_append_right _ (List.mem_append_right _ (List.mem_of_getElem? (i := 81) rfl))) rfl
theorem t_322 : Cond.selects RX3 yX3_attach yX3_attach ∈ gT := gT_mem (List.mem_append_right _ (List.mem_append_right _ (List.mem_of_getElem? (i := 82) rfl))) rfl
theorem t_323 : Cond.code yX3_attach cX3_attach 8 (some .int) ∈ gT := gT_mem (List.mem_append_right _ (List.mem_append_right _ (List.mem_of_getElem? (i := 83) rfl))) rfl
theorem t_324 : Cond.methodLink RL 41 yX3_unmap ∈ gT := gT_mem (List.mem_append_right _ (List.mem_append_right _ (List.mem_of_getElem? (i := 84) rfl))) rfl
theorem t_325 : Cond.instanceMethod yX3_unmap ∈ gT := gT_mem (List.mem_append_right _ (List.mem_append_right _ (List.mem_of_getElem? (i := 85) rfl))) rfl
theorem t_326 : Cond.selects RX3 yX3_unmap yX3_unmap ∈ gT := gT_mem (List.mem_append_right _ (List.mem_append_right _ (List.mem_of_getElem? (i := 86) rfl))) rfl
theorem t_327 : Cond.code yX3_unmap cX3_unmap 5 (some .int) ∈ gT := gT_mem (List.mem_append_right _ (List.mem_append_right _ (List.mem_of_getElem? (i := 87) rfl))) rfl
theorem t_328 : Cond.methodLink RX3 65 yX3_bar ∈ gT := gT_mem (List.mem_append_right _ (List.mem_append_right _ (List.mem_of_getElem? (i := 88) rfl))) rfl
theorem t_330 : Cond.instanceMethod yX3_bar ∈ gT := gT_mem (List.mem_append_right _ (List.mem_append_right _ (List.mem_of_getElem? (i := 90) rfl))) rfl
theorem t_331 : Cond.code yX3_bar cX3_bar 3 (some .int) ∈ gT := gT_mem (List.mem_append_right _ (List.mem_append_right _ (List.mem_of_getElem? (i := 91) rfl))) rfl
theorem t_332 : Cond.methodLink RL 45 yX3_protect ∈ gT := gT_mem (List.mem_append_right _ (List.mem_append_right _ (List.mem_of_getElem? (i := 92) rfl))) rfl
theorem t_333 : Cond.instanceMethod yX3_protect ∈ gT := gT_mem (List.mem_append_right _ (List.mem_append_right _ (List.mem_of_getElem? (i := 93) rfl))) rfl
theorem t_334 : Cond.selects RX3 yX3_protect yX3_protect ∈ gT := gT_mem (List.mem_append_right _ (List.mem_append_right _ (List.mem_of_getElem? (i := 94) rfl))) rfl
theorem t_335 : Cond.code yX3_protect cX3_protect 6 (some .int) ∈ gT := gT_mem (List.mem_append_right _ (List.mem_append_right _ (List.mem_of_getElem? (i := 95) rfl))) rfl
theorem t_336 : Cond.methodLink RL 50 yX3_write ∈ gT := gT_mem (List.mem_append_right _ (List.mem_append_right _ (List.mem_of_getElem? (i := 96) rfl))) rfl
theorem t_337 : Cond.instanceMethod yX3_write ∈ gT := gT_mem (List.mem_append_right _ (List.mem_append_right _ (List.mem_of_getElem? (i := 97) rfl))) rfl
theorem t_338 : Cond.selects RX3 yX3_write yX3_write ∈ gT := gT_mem (List.mem_append_right _ (List.mem_append_right _ (List.mem_of_getElem? (i := 98) rfl))) rfl
theorem t_339 : Cond.code yX3_write cX3_write 12 (some .int) ∈ gT := gT_mem (List.mem_append_right _ (List.mem_append_right _ (List.mem_of_getElem? (i := 99) rfl))) rfl
theorem t_340 : Cond.methodLink RX3 68 yX3_pageOf ∈ gT := gT_mem (List.mem_append_right _ (List.mem_append_right _ (List.mem_of_getElem? (i := 100) rfl))) rfl
theorem t_341 : Cond.static yX3_pageOf ∈ gT := gT_mem (List.mem_append_right _ (List.mem_append_right _ (List.mem_of_getElem? (i := 101) rfl))) rfl
theorem t_342 : Cond.code yX3_pageOf cX3_pageOf 1 (some .int) ∈ gT := gT_mem (List.mem_append_right _ (List.mem_append_right _ (List.mem_of_getElem? (i := 102) rfl))) rfl
theorem t_343 : Cond.methodLink RL 55 yX3_read ∈ gT := gT_mem (List.mem_append_right _ (List.mem_append_right _ (List.mem_of_getElem? (i := 103) rfl))) rfl
theorem t_344 : Cond.instanceMethod yX3_read ∈ gT := gT_mem (List.mem_append_right _ (List.mem_append_right _ (List.mem_of_getElem? (i := 104) rfl))) rfl
theorem t_345 : Cond.selects RX3 yX3_read yX3_read ∈ gT := gT_mem (List.mem_append_right _ (List.mem_append_right _ (List.mem_of_getElem? (i := 105) rfl))) rfl
theorem t_346 : Cond.code yX3_read cX3_read 4 (some .long) ∈ gT := gT_mem (List.mem_append_right _ (List.mem_append_right _ (List.mem_of_getElem? (i := 106) rfl))) rfl
theorem t_347 : Cond.constantLong RX3 78 (1099511627776) ∈ gT := gT_mem (List.mem_append_right _ (List.mem_append_right _ (List.mem_of_getElem? (i := 107) rfl))) rfl
theorem t_348 : Cond.methodLink RL 63 yX3_tables ∈ gT := gT_mem (List.mem_append_right _ (List.mem_append_right _ (List.mem_of_getElem? (i := 108) rfl))) rfl
theorem t_349 : Cond.instanceMethod yX3_tables ∈ gT := gT_mem (List.mem_append_right _ (List.mem_append_right _ (List.mem_of_getElem? (i := 109) rfl))) rfl
theorem t_350 : Cond.selects RX3 yX3_tables yX3_tables ∈ gT := gT_mem (List.mem_append_right _ (List.mem_append_right _ (List.mem_of_getElem? (i := 110) rfl))) rfl
theorem t_351 : Cond.code yX3_tables cX3_tables 2 (some .int) ∈ gT := gT_mem (List.mem_append_right _ (List.mem_append_right _ (List.mem_of_getElem? (i := 111) rfl))) rfl
theorem t_352 : Cond.methodLink RL 67 yX3_pages ∈ gT := gT_mem (List.mem_append_right _ (List.mem_append_right _ (List.mem_of_getElem? (i := 112) rfl))) rfl
theorem t_353 : Cond.instanceMethod yX3_pages ∈ gT := gT_mem (List.mem_append_right _ (List.mem_append_right _ (List.mem_of_getElem? (i := 113) rfl))) rfl
theorem t_354 : Cond.selects RX3 yX3_pages yX3_pages ∈ gT := gT_mem (List.mem_append_right _ (List.mem_append_right _ (List.mem_of_getElem? (i := 114) rfl))) rfl
theorem t_355 : Cond.code yX3_pages cX3_pages 4 (some .int) ∈ gT := gT_mem (List.mem_append_right _ (List.mem_append_right _ (List.mem_of_getElem? (i := 115) rfl))) rfl
theorem t_356 : Cond.methodLink RL 71 yX3_count ∈ gT := gT_mem (List.mem_append_right _ (List.mem_append_right _ (List.mem_of_getElem? (i := 116) rfl))) rfl
theorem t_357 : Cond.instanceMethod yX3_count ∈ gT := gT_mem (List.mem_append_right _ (List.mem_append_right _ (List.mem_of_getElem? (i := 117) rfl))) rfl
theorem t_358 : Cond.selects RX3 yX3_count yX3_count ∈ gT := gT_mem (List.mem_append_right _ (List.mem_append_right _ (List.mem_of_getElem? (i := 118) rfl))) rfl
theorem t_359 : Cond.code yX3_count cX3_count 4 (some .int) ∈ gT := gT_mem (List.mem_append_right _ (List.mem_append_right _ (List.mem_of_getElem? (i := 119) rfl))) rfl
theorem t_360 : Cond.methodLink RL 75 yX3_mapping ∈ gT := gT_mem (List.mem_append_right _ (List.mem_append_right _ (List.mem_of_getElem? (i := 120) rfl))) rfl
theorem t_361 : Cond.instanceMethod yX3_mapping ∈ gT := gT_mem (List.mem_append_right _ (List.mem_append_right _ (List.mem_of_getElem? (i := 121) rfl))) rfl
theorem t_362 : Cond.selects RX3 yX3_mapping yX3_mapping ∈ gT := gT_mem (List.mem_append_right _ (List.mem_append_right _ (List.mem_of_getElem? (i := 122) rfl))) rfl
theorem t_363 : Cond.code yX3_mapping cX3_mapping 5 (some .int) ∈ gT := gT_mem (List.mem_append_right _ (List.mem_append_right _ (List.mem_of_getElem? (i := 123) rfl))) rfl
theorem t_364 : Cond.methodLink RL 79 yX3_twin ∈ gT := gT_mem (List.mem_append_right _ (List.mem_append_right _ (List.mem_of_getElem? (i := 124) rfl))) rfl
theorem t_365 : Cond.instanceMethod yX3_twin ∈ gT := gT_mem (List.mem_append_right _ (List.mem_append_right _ (List.mem_of_getElem? (i := 125) rfl))) rfl
theorem t_366 : Cond.selects RX3 yX3_twin yX3_twin ∈ gT := gT_mem (List.mem_append_right _ (List.mem_append_right _ (List.mem_of_getElem? (i := 126) rfl))) rfl
theorem t_367 : Cond.code yX3_twin cX3_twin 8 (some .int) ∈ gT := gT_mem (List.mem_append_right _ (List.mem_append_right _ (List.mem_of_getElem? (i := 127) rfl))) rfl
theorem t_368 : Cond.methodLink RL 83 yX3_running ∈ gT := gT_mem (List.mem_append_right _ (List.mem_append_right _ (List.mem_of_getElem? (i := 128) rfl))) rfl
theorem t_369 : Cond.instanceMethod yX3_running ∈ gT := gT_mem (List.mem_append_right _ (List.mem_append_right _ (List.mem_of_getElem? (i := 129) rfl))) rfl
theorem t_370 : Cond.selects RX3 yX3_running yX3_running ∈ gT := gT_mem (List.mem_append_right _ (List.mem_append_right _ (List.mem_of_getElem? (i := 130) rfl))) rfl
theorem t_371 : Cond.code yX3_running cX3_running 3 (some .int) ∈ gT := gT_mem (List.mem_append_right _ (List.mem_append_right _ (List.mem_of_getElem? (i := 131) rfl))) rfl
theorem t_372 : Cond.methodLink RL 88 yX3_faults ∈ gT := gT_mem (List.mem_append_right _ (List.mem_append_right _ (List.mem_of_getElem? (i := 132) rfl))) rfl
theorem t_373 : Cond.instanceMethod yX3_faults ∈ gT := gT_mem (List.mem_append_right _ (List.mem_append_right _ (List.mem_of_getElem? (i := 133) rfl))) rfl
theorem t_374 : Cond.selects RX3 yX3_faults yX3_faults ∈ gT := gT_mem (List.mem_append_right _ (List.mem_append_right _ (List.mem_of_getElem? (i := 134) rfl))) rfl
theorem t_375 : Cond.code yX3_faults cX3_faults 2 (some .int) ∈ gT := gT_mem (List.mem_append_right _ (List.mem_append_right _ (List.mem_of_getElem? (i := 135) rfl))) rfl
theorem s_0 : Cond.selects RX2 yX2_leastIdle yX2_leastIdle ∈ gT := gT_mem (List.mem_append_left _ (List.mem_of_getElem? (i := 0) rfl)) rfl
theorem s_1 : Cond.selects RX2 yX2_freeFrames yX2_freeFrames ∈ gT := gT_mem (List.mem_append_left _ (List.mem_of_getElem? (i := 1) rfl)) rfl
theorem s_2 : Cond.selects RX1 yX1_usedFrames yX1_usedFrames ∈ gT := gT_mem (List.mem_append_left _ (List.mem_of_getElem? (i := 2) rfl)) rfl
theorem s_3 : Cond.selects RX0 yX0_tableCount yX0_tableCount ∈ gT := gT_mem (List.mem_append_left _ (List.mem_of_getElem? (i := 3) rfl)) rfl
theorem s_4 : Cond.selects RX2 yX2_isRunning yX2_isRunning ∈ gT := gT_mem (List.mem_append_left _ (List.mem_of_getElem? (i := 4) rfl)) rfl
theorem s_5 : Cond.selects RX0 yX0_has yX0_has ∈ gT := gT_mem (List.mem_append_left _ (List.mem_of_getElem? (i := 5) rfl)) rfl
theorem s_6 : Cond.selects RX2 yX2_sharePage yX2_sharePage ∈ gT := gT_mem (List.mem_append_left _ (List.mem_of_getElem? (i := 6) rfl)) rfl
theorem s_7 : Cond.selects RX0 yX0_is yX0_is ∈ gT := gT_mem (List.mem_append_left _ (List.mem_of_getElem? (i := 7) rfl)) rfl
theorem s_8 : Cond.selects RX0 yX0_turn yX0_turn ∈ gT := gT_mem (List.mem_append_left _ (List.mem_of_getElem? (i := 8) rfl)) rfl
theorem s_9 : Cond.selects RX2 yX2_startMapping yX2_startMapping ∈ gT := gT_mem (List.mem_append_left _ (List.mem_of_getElem? (i := 9) rfl)) rfl
theorem s_10 : Cond.selects RX0 yX0_set yX0_set ∈ gT := gT_mem (List.mem_append_left _ (List.mem_of_getElem? (i := 10) rfl)) rfl
theorem s_11 : Cond.selects RX2 yX2_endMapping yX2_endMapping ∈ gT := gT_mem (List.mem_append_left _ (List.mem_of_getElem? (i := 11) rfl)) rfl
theorem s_12 : Cond.selects RX0 yX0_clear yX0_clear ∈ gT := gT_mem (List.mem_append_left _ (List.mem_of_getElem? (i := 12) rfl)) rfl
theorem s_13 : Cond.selects RX0 yX0_tablesToAdd yX0_tablesToAdd ∈ gT := gT_mem (List.mem_append_left _ (List.mem_of_getElem? (i := 13) rfl)) rfl
theorem s_14 : Cond.selects RX1 yX1_unusedFrame yX1_unusedFrame ∈ gT := gT_mem (List.mem_append_left _ (List.mem_of_getElem? (i := 14) rfl)) rfl
theorem s_15 : Cond.selects RX1 yX1_blank yX1_blank ∈ gT := gT_mem (List.mem_append_left _ (List.mem_of_getElem? (i := 15) rfl)) rfl
theorem s_16 : Cond.selects RX2 yX2_refusalOfMapped yX2_refusalOfMapped ∈ gT := gT_mem (List.mem_append_left _ (List.mem_of_getElem? (i := 16) rfl)) rfl
theorem s_17 : Cond.selects RX2 yX2_refusalOfAddress yX2_refusalOfAddress ∈ gT := gT_mem (List.mem_append_left _ (List.mem_of_getElem? (i := 17) rfl)) rfl
theorem s_18 : Cond.selects RX2 yX2_resolveFault yX2_resolveFault ∈ gT := gT_mem (List.mem_append_left _ (List.mem_of_getElem? (i := 18) rfl)) rfl
theorem s_19 : Cond.selects RX1 yX1_copy yX1_copy ∈ gT := gT_mem (List.mem_append_left _ (List.mem_of_getElem? (i := 19) rfl)) rfl
theorem s_20 : Cond.selects RX3 yX3_leads yX3_leads ∈ gT := gT_mem (List.mem_append_left _ (List.mem_of_getElem? (i := 20) rfl)) rfl
theorem s_21 : Cond.selects RX3 yX3_tablesOf yX3_tablesOf ∈ gT := gT_mem (List.mem_append_left _ (List.mem_of_getElem? (i := 21) rfl)) rfl
theorem s_22 : Cond.selects RX3 yX3_some yX3_some ∈ gT := gT_mem (List.mem_append_left _ (List.mem_of_getElem? (i := 22) rfl)) rfl
theorem s_23 : Cond.selects RX3 yX3_idle yX3_idle ∈ gT := gT_mem (List.mem_append_left _ (List.mem_of_getElem? (i := 23) rfl)) rfl
theorem s_24 : Cond.selects RX3 yX3_away yX3_away ∈ gT := gT_mem (List.mem_append_left _ (List.mem_of_getElem? (i := 24) rfl)) rfl
theorem s_25 : Cond.selects RX3 yX3_clear yX3_clear ∈ gT := gT_mem (List.mem_append_left _ (List.mem_of_getElem? (i := 25) rfl)) rfl
theorem s_26 : Cond.selects RX3 yX3_more yX3_more ∈ gT := gT_mem (List.mem_append_left _ (List.mem_of_getElem? (i := 26) rfl)) rfl
theorem s_27 : Cond.selects RX3 yX3_unused yX3_unused ∈ gT := gT_mem (List.mem_append_left _ (List.mem_of_getElem? (i := 27) rfl)) rfl
theorem s_28 : Cond.selects RX3 yX3_bar yX3_bar ∈ gT := gT_mem (List.mem_append_left _ (List.mem_of_getElem? (i := 28) rfl)) rfl
theorem nm_X2_init : g_nm yX2_init 0 := by unfold g_nm; decide +kernel
theorem nm_X0_init : g_nm yX0_init 0 := by unfold g_nm; decide +kernel
theorem nm_X1_init : g_nm yX1_init 0 := by unfold g_nm; decide +kernel
theorem nm_X2_spawn : g_nm yX2_spawn 0 := by unfold g_nm; decide +kernel
theorem nm_X2_leastIdle : g_nm yX2_leastIdle 0 := by unfold g_nm; decide +kernel
theorem nm_X2_freeFrames : g_nm yX2_freeFrames 0 := by unfold g_nm; decide +kernel
theorem nm_X1_usedFrames : g_nm yX1_usedFrames 0 := by unfold g_nm; decide +kernel
theorem nm_X0_tableCount : g_nm yX0_tableCount 0 := by unfold g_nm; decide +kernel
theorem nm_X0_tablesFor : g_nm yX0_tablesFor 1 := by unfold g_nm; decide +kernel
theorem nm_X0_spansUsed : g_nm yX0_spansUsed 3 := by unfold g_nm; decide +kernel
theorem nm_X2_fork : g_nm yX2_fork 1 := by unfold g_nm; decide +kernel
theorem nm_X2_isRunning : g_nm yX2_isRunning 1 := by unfold g_nm; decide +kernel
theorem nm_X0_has : g_nm yX0_has 1 := by unfold g_nm; decide +kernel
theorem nm_X2_sharePage : g_nm yX2_sharePage 3 := by unfold g_nm; decide +kernel
theorem nm_X0_is : g_nm yX0_is 2 := by unfold g_nm; decide +kernel
theorem nm_X0_turn : g_nm yX0_turn 2 := by unfold g_nm; decide +kernel
theorem nm_X2_startMapping : g_nm yX2_startMapping 4 := by unfold g_nm; decide +kernel
theorem nm_X0_set : g_nm yX0_set 3 := by unfold g_nm; decide +kernel
theorem nm_X2_exit : g_nm yX2_exit 1 := by unfold g_nm; decide +kernel
theorem nm_X2_endMapping : g_nm yX2_endMapping 2 := by unfold g_nm; decide +kernel
theorem nm_X0_clear : g_nm yX0_clear 1 := by unfold g_nm; decide +kernel
theorem nm_X2_map : g_nm yX2_map 3 := by unfold g_nm; decide +kernel
theorem nm_X2_isPage : g_nm yX2_isPage 1 := by unfold g_nm; decide +kernel
theorem nm_X0_tablesToAdd : g_nm yX0_tablesToAdd 1 := by unfold g_nm; decide +kernel
theorem nm_X1_unusedFrame : g_nm yX1_unusedFrame 0 := by unfold g_nm; decide +kernel
theorem nm_X1_blank : g_nm yX1_blank 1 := by unfold g_nm; decide +kernel
theorem nm_X2_attach : g_nm yX2_attach 4 := by unfold g_nm; decide +kernel
theorem nm_X2_unmap : g_nm yX2_unmap 2 := by unfold g_nm; decide +kernel
theorem nm_X2_refusalOfMapped : g_nm yX2_refusalOfMapped 2 := by unfold g_nm; decide +kernel
theorem nm_X2_protect : g_nm yX2_protect 3 := by unfold g_nm; decide +kernel
theorem nm_X2_write : g_nm yX2_write 3 := by unfold g_nm; decide +kernel
theorem nm_X2_refusalOfAddress : g_nm yX2_refusalOfAddress 2 := by unfold g_nm; decide +kernel
theorem nm_X2_resolveFault : g_nm yX2_resolveFault 2 := by unfold g_nm; decide +kernel
theorem nm_X1_copy : g_nm yX1_copy 2 := by unfold g_nm; decide +kernel
theorem nm_X2_read : g_nm yX2_read 2 := by unfold g_nm; decide +kernel
theorem nm_X2_free : g_nm yX2_free 0 := by unfold g_nm; decide +kernel
theorem nm_X2_tables : g_nm yX2_tables 1 := by unfold g_nm; decide +kernel
theorem nm_X2_pages : g_nm yX2_pages 1 := by unfold g_nm; decide +kernel
theorem nm_J13_bitCount_95d88 : g_nm yJ13_bitCount_95d88 1 := by unfold g_nm; decide +kernel
theorem nm_X2_count : g_nm yX2_count 2 := by unfold g_nm; decide +kernel
theorem nm_X2_mapping : g_nm yX2_mapping 2 := by unfold g_nm; decide +kernel
theorem nm_X2_twin : g_nm yX2_twin 4 := by unfold g_nm; decide +kernel
theorem nm_X2_running : g_nm yX2_running 0 := by unfold g_nm; decide +kernel
theorem nm_X2_faults : g_nm yX2_faults 1 := by unfold g_nm; decide +kernel
theorem nm_X3_init : g_nm yX3_init 0 := by unfold g_nm; decide +kernel
theorem nm_X3_free : g_nm yX3_free 0 := by unfold g_nm; decide +kernel
theorem nm_X3_leads : g_nm yX3_leads 1 := by unfold g_nm; decide +kernel
theorem nm_X3_tablesOf : g_nm yX3_tablesOf 1 := by unfold g_nm; decide +kernel
theorem nm_X3_some : g_nm yX3_some 3 := by unfold g_nm; decide +kernel
theorem nm_X3_spawn : g_nm yX3_spawn 0 := by unfold g_nm; decide +kernel
theorem nm_X3_idle : g_nm yX3_idle 0 := by unfold g_nm; decide +kernel
theorem nm_X3_fork : g_nm yX3_fork 1 := by unfold g_nm; decide +kernel
theorem nm_X3_away : g_nm yX3_away 1 := by unfold g_nm; decide +kernel
theorem nm_X3_exit : g_nm yX3_exit 1 := by unfold g_nm; decide +kernel
theorem nm_X3_clear : g_nm yX3_clear 1 := by unfold g_nm; decide +kernel
theorem nm_X3_map : g_nm yX3_map 3 := by unfold g_nm; decide +kernel
theorem nm_X3_isPage : g_nm yX3_isPage 1 := by unfold g_nm; decide +kernel
theorem nm_X3_more : g_nm yX3_more 2 := by unfold g_nm; decide +kernel
theorem nm_X3_unused : g_nm yX3_unused 0 := by unfold g_nm; decide +kernel
theorem nm_X3_attach : g_nm yX3_attach 4 := by unfold g_nm; decide +kernel
theorem nm_X3_unmap : g_nm yX3_unmap 2 := by unfold g_nm; decide +kernel
theorem nm_X3_bar : g_nm yX3_bar 2 := by unfold g_nm; decide +kernel
theorem nm_X3_protect : g_nm yX3_protect 3 := by unfold g_nm; decide +kernel
theorem nm_X3_write : g_nm yX3_write 3 := by unfold g_nm; decide +kernel
theorem nm_X3_pageOf : g_nm yX3_pageOf 1 := by unfold g_nm; decide +kernel
theorem nm_X3_read : g_nm yX3_read 2 := by unfold g_nm; decide +kernel
theorem nm_X3_tables : g_nm yX3_tables 1 := by unfold g_nm; decide +kernel
theorem nm_X3_pages : g_nm yX3_pages 1 := by unfold g_nm; decide +kernel
theorem nm_X3_count : g_nm yX3_count 2 := by unfold g_nm; decide +kernel
theorem nm_X3_mapping : g_nm yX3_mapping 2 := by unfold g_nm; decide +kernel
theorem nm_X3_twin : g_nm yX3_twin 4 := by unfold g_nm; decide +kernel
theorem nm_X3_running : g_nm yX3_running 0 := by unfold g_nm; decide +kernel
theorem nm_X3_faults : g_nm yX3_faults 1 := by unfold g_nm; decide +kernel
theorem gX0 : ∀ w ∈ u_ws RX0 TX0 4, w ∈ gT := by
  have h : (u_ws RX0 TX0 4).all (fun w => decide (w ∈ lw_tbl) && goodWord w) = true := by decide +kernel
  intro w hw
  have h1 := List.all_eq_true.mp h w hw
  simp only [Bool.and_eq_true, decide_eq_true_eq] at h1
  exact gT_mem h1.1 h1.2
theorem gX1 : ∀ w ∈ u_ws RX1 TX1 2, w ∈ gT := by
  have h : (u_ws RX1 TX1 2).all (fun w => decide (w ∈ lw_tbl) && goodWord w) = true := by decide +kernel
  intro w hw
  have h1 := List.all_eq_true.mp h w hw
  simp only [Bool.and_eq_true, decide_eq_true_eq] at h1
  exact gT_mem h1.1 h1.2
theorem gX2 : ∀ w ∈ u_ws RX2 TX2 4, w ∈ gT := by
  have h : (u_ws RX2 TX2 4).all (fun w => decide (w ∈ lw_tbl) && goodWord w) = true := by decide +kernel
  intro w hw
  have h1 := List.all_eq_true.mp h w hw
  simp only [Bool.and_eq_true, decide_eq_true_eq] at h1
  exact gT_mem h1.1 h1.2
theorem gX3 : ∀ w ∈ u_ws RX3 TX3 8, w ∈ gT := by
  have h : (u_ws RX3 TX3 8).all (fun w => decide (w ∈ lw_tbl) && goodWord w) = true := by decide +kernel
  intro w hw
  have h1 := List.all_eq_true.mp h w hw
  simp only [Bool.and_eq_true, decide_eq_true_eq] at h1
  exact gT_mem h1.1 h1.2
