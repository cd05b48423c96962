theorem wi_0 : Cond.classLink RL 7 RX7 ∈ lw_tbl := List.mem_of_getElem? (i := 43) (by decide +kernel)
theorem wi_1 : Cond.instantiable RX7 9 ∈ lw_tbl := List.mem_of_getElem? (i := 44) (by decide +kernel)
theorem wi_2 : Cond.initialized RX7 ∈ lw_tbl := List.mem_of_getElem? (i := 33) (by decide +kernel)
theorem wi_3 : Cond.classLink RL 10 RX8 ∈ lw_tbl := List.mem_of_getElem? (i := 520) (by decide +kernel)
theorem wi_4 : Cond.instantiable RX8 34 ∈ lw_tbl := List.mem_of_getElem? (i := 521) (by decide +kernel)
theorem wi_5 : Cond.initialized RX8 ∈ lw_tbl := List.mem_of_getElem? (i := 41) (by decide +kernel)
theorem wi_6 : Cond.methodLink RL 9 yX7_init ∈ lw_tbl := List.mem_of_getElem? (i := 45) (by decide +kernel)
theorem wi_7 : Cond.instanceMethod yX7_init ∈ lw_tbl := List.mem_of_getElem? (i := 46) (by decide +kernel)
theorem wi_8 : Cond.code yX7_init cX7_init 2 none ∈ lw_tbl := List.mem_of_getElem? (i := 47) (by decide +kernel)
theorem wi_9 : Cond.methodLink RX7 1 objectInit ∈ lw_tbl := List.mem_of_getElem? (i := 48) (by decide +kernel)
theorem wi_10 : Cond.instanceMethod objectInit ∈ lw_tbl := List.mem_of_getElem? (i := 49) (by decide +kernel)
theorem wi_11 : Cond.code objectInit ⟨#[0xb1]⟩ 1 none ∈ lw_tbl := List.mem_of_getElem? (i := 50) (by decide +kernel)
theorem wi_12 : Cond.classLink RX7 7 RX2 ∈ lw_tbl := List.mem_of_getElem? (i := 51) (by decide +kernel)
theorem wi_13 : Cond.instantiable RX2 3 ∈ lw_tbl := List.mem_of_getElem? (i := 52) (by decide +kernel)
theorem wi_14 : Cond.initialized RX2 ∈ lw_tbl := List.mem_of_getElem? (i := 34) (by decide +kernel)
theorem wi_15 : Cond.fieldLink RX7 10 "FactShares" "facts" "LFactShares$Facts;" ∈ lw_tbl := List.mem_of_getElem? (i := 263) (by decide +kernel)
theorem wi_16 : Cond.classLink RX7 16 RX4 ∈ lw_tbl := List.mem_of_getElem? (i := 75) (by decide +kernel)
theorem wi_17 : Cond.fieldLink RX7 18 "FactShares" "shares" "[LFactShares$Share;" ∈ lw_tbl := List.mem_of_getElem? (i := 264) (by decide +kernel)
theorem wi_18 : Cond.classLink RX7 22 RX3 ∈ lw_tbl := List.mem_of_getElem? (i := 77) (by decide +kernel)
theorem wi_19 : Cond.instantiable RX3 3 ∈ lw_tbl := List.mem_of_getElem? (i := 78) (by decide +kernel)
theorem wi_20 : Cond.initialized RX3 ∈ lw_tbl := List.mem_of_getElem? (i := 35) (by decide +kernel)
theorem wi_21 : Cond.fieldLink RX7 25 "FactShares" "line" "LFactShares$Line;" ∈ lw_tbl := List.mem_of_getElem? (i := 265) (by decide +kernel)
theorem wi_22 : Cond.classLink RX7 29 RX1 ∈ lw_tbl := List.mem_of_getElem? (i := 94) (by decide +kernel)
theorem wi_23 : Cond.instantiable RX1 5 ∈ lw_tbl := List.mem_of_getElem? (i := 95) (by decide +kernel)
theorem wr_1 : ∀ w ∈ wsL_law_r1, w ∈ lw_tbl := by
  unfold wsL_law_r1
  exact List.forall_mem_cons.mpr ⟨wi_0, List.forall_mem_cons.mpr ⟨wi_1, List.forall_mem_cons.mpr ⟨wi_2, List.forall_mem_cons.mpr ⟨wi_3, List.forall_mem_cons.mpr ⟨wi_4, List.forall_mem_cons.mpr ⟨wi_5, List.forall_mem_cons.mpr ⟨wi_6, List.forall_mem_cons.mpr ⟨wi_7, List.forall_mem_cons.mpr ⟨wi_8, List.forall_mem_cons.mpr ⟨wi_9, List.forall_mem_cons.mpr ⟨wi_10, List.forall_mem_cons.mpr ⟨wi_11, List.forall_mem_cons.mpr ⟨wi_12, List.forall_mem_cons.mpr ⟨wi_13, List.forall_mem_cons.mpr ⟨wi_14, List.forall_mem_cons.mpr ⟨wi_15, List.forall_mem_cons.mpr ⟨wi_16, List.forall_mem_cons.mpr ⟨wi_17, List.forall_mem_cons.mpr ⟨wi_18, List.forall_mem_cons.mpr ⟨wi_19, List.forall_mem_cons.mpr ⟨wi_20, List.forall_mem_cons.mpr ⟨wi_21, List.forall_mem_cons.mpr ⟨wi_22, List.forall_mem_cons.mpr ⟨wi_23, (fun _ h => absurd h List.not_mem_nil)⟩⟩⟩⟩⟩⟩⟩⟩⟩⟩⟩⟩⟩⟩⟩⟩⟩⟩⟩⟩⟩⟩⟩⟩
theorem wi_24 : Cond.initialized RX1 ∈ lw_tbl := List.mem_of_getElem? (i := 36) (by decide +kernel)
theorem wi_25 : Cond.fieldLink RX7 32 "FactShares" "crew" "LFactShares$Crew;" ∈ lw_tbl := List.mem_of_getElem? (i := 266) (by decide +kernel)
theorem wi_26 : Cond.classLink RX7 36 RX5 ∈ lw_tbl := List.mem_of_getElem? (i := 185) (by decide +kernel)
theorem wi_27 : Cond.instantiable RX5 6 ∈ lw_tbl := List.mem_of_getElem? (i := 186) (by decide +kernel)
theorem wi_28 : Cond.initialized RX5 ∈ lw_tbl := List.mem_of_getElem? (i := 39) (by decide +kernel)
theorem wi_29 : Cond.fieldLink RX7 39 "FactShares" "tally" "LFactShares$Tally;" ∈ lw_tbl := List.mem_of_getElem? (i := 267) (by decide +kernel)
theorem wi_30 : Cond.fieldLink RX7 43 "FactShares" "shareCount" "I" ∈ lw_tbl := List.mem_of_getElem? (i := 268) (by decide +kernel)
theorem wi_31 : Cond.fieldLink RX7 47 "FactShares" "undone" "I" ∈ lw_tbl := List.mem_of_getElem? (i := 269) (by decide +kernel)
theorem wi_32 : Cond.fieldLink RX7 50 "FactShares" "widenFrom" "I" ∈ lw_tbl := List.mem_of_getElem? (i := 270) (by decide +kernel)
theorem wi_33 : Cond.fieldLink RX7 53 "FactShares" "budget" "I" ∈ lw_tbl := List.mem_of_getElem? (i := 271) (by decide +kernel)
theorem wi_34 : Cond.instantiable RX4 9 ∈ lw_tbl := List.mem_of_getElem? (i := 217) (by decide +kernel)
theorem wi_35 : Cond.initialized RX4 ∈ lw_tbl := List.mem_of_getElem? (i := 40) (by decide +kernel)
theorem wi_36 : Cond.instanceMethod yX2_init ∈ lw_tbl := List.mem_of_getElem? (i := 54) (by decide +kernel)
theorem wi_37 : Cond.code yX2_init cX2_init 1 none ∈ lw_tbl := List.mem_of_getElem? (i := 55) (by decide +kernel)
theorem wi_38 : Cond.methodLink RX2 3 objectInit ∈ lw_tbl := List.mem_of_getElem? (i := 56) (by decide +kernel)
theorem wi_39 : Cond.arrayClass .boolean ∈ lw_tbl := List.mem_of_getElem? (i := 73) (by decide +kernel)
theorem wi_40 : Cond.fieldLink RX2 9 "FactShares$Facts" "known" "[Z" ∈ lw_tbl := List.mem_of_getElem? (i := 57) (by decide +kernel)
theorem wi_41 : Cond.arrayClass .int ∈ lw_tbl := List.mem_of_getElem? (i := 74) (by decide +kernel)
theorem wi_42 : Cond.fieldLink RX2 15 "FactShares$Facts" "low" "[I" ∈ lw_tbl := List.mem_of_getElem? (i := 60) (by decide +kernel)
theorem wi_43 : Cond.fieldLink RX2 19 "FactShares$Facts" "high" "[I" ∈ lw_tbl := List.mem_of_getElem? (i := 63) (by decide +kernel)
theorem wi_44 : Cond.instanceMethod yX3_init ∈ lw_tbl := List.mem_of_getElem? (i := 80) (by decide +kernel)
theorem wi_45 : Cond.code yX3_init cX3_init 1 none ∈ lw_tbl := List.mem_of_getElem? (i := 81) (by decide +kernel)
theorem wi_46 : Cond.methodLink RX3 3 objectInit ∈ lw_tbl := List.mem_of_getElem? (i := 82) (by decide +kernel)
theorem wi_47 : Cond.classLink RX3 9 RX4 ∈ lw_tbl := List.mem_of_getElem? (i := 83) (by decide +kernel)
theorem wr_2 : ∀ w ∈ wsL_law_r2, w ∈ lw_tbl := by
  unfold wsL_law_r2
  exact List.forall_mem_cons.mpr ⟨wi_24, List.forall_mem_cons.mpr ⟨wi_25, List.forall_mem_cons.mpr ⟨wi_26, List.forall_mem_cons.mpr ⟨wi_27, List.forall_mem_cons.mpr ⟨wi_28, List.forall_mem_cons.mpr ⟨wi_29, List.forall_mem_cons.mpr ⟨wi_30, List.forall_mem_cons.mpr ⟨wi_31, List.forall_mem_cons.mpr ⟨wi_32, List.forall_mem_cons.mpr ⟨wi_33, List.forall_mem_cons.mpr ⟨wi_34, List.forall_mem_cons.mpr ⟨wi_35, List.forall_mem_cons.mpr ⟨wi_36, List.forall_mem_cons.mpr ⟨wi_37, List.forall_mem_cons.mpr ⟨wi_38, List.forall_mem_cons.mpr ⟨wi_39, List.forall_mem_cons.mpr ⟨wi_40, List.forall_mem_cons.mpr ⟨wi_41, List.forall_mem_cons.mpr ⟨wi_42, List.forall_mem_cons.mpr ⟨wi_43, List.forall_mem_cons.mpr ⟨wi_44, List.forall_mem_cons.mpr ⟨wi_45, List.forall_mem_cons.mpr ⟨wi_46, List.forall_mem_cons.mpr ⟨wi_47, (fun _ h => absurd h List.not_mem_nil)⟩⟩⟩⟩⟩⟩⟩⟩⟩⟩⟩⟩⟩⟩⟩⟩⟩⟩⟩⟩⟩⟩⟩⟩
theorem wi_48 : Cond.fieldLink RX3 11 "FactShares$Line" "waiting" "[LFactShares$Share;" ∈ lw_tbl := List.mem_of_getElem? (i := 84) (by decide +kernel)
theorem wi_49 : Cond.fieldLink RX3 17 "FactShares$Line" "first" "I" ∈ lw_tbl := List.mem_of_getElem? (i := 85) (by decide +kernel)
theorem wi_50 : Cond.fieldLink RX3 21 "FactShares$Line" "behindLast" "I" ∈ lw_tbl := List.mem_of_getElem? (i := 86) (by decide +kernel)
theorem wi_51 : Cond.methodLink RX7 31 yX1_init ∈ lw_tbl := List.mem_of_getElem? (i := 96) (by decide +kernel)
theorem wi_52 : Cond.instanceMethod yX1_init ∈ lw_tbl := List.mem_of_getElem? (i := 97) (by decide +kernel)
theorem wi_53 : Cond.code yX1_init cX1_init 2 none ∈ lw_tbl := List.mem_of_getElem? (i := 98) (by decide +kernel)
theorem wi_54 : Cond.methodLink RX1 3 objectInit ∈ lw_tbl := List.mem_of_getElem? (i := 99) (by decide +kernel)
theorem wi_55 : Cond.classLink RX1 11 RX6 ∈ lw_tbl := List.mem_of_getElem? (i := 100) (by decide +kernel)
theorem wi_56 : Cond.fieldLink RX1 13 "FactShares$Crew" "all" "[LFactShares$Worker;" ∈ lw_tbl := List.mem_of_getElem? (i := 164) (by decide +kernel)
theorem wi_57 : Cond.fieldLink RX1 17 "FactShares$Crew" "left" "I" ∈ lw_tbl := List.mem_of_getElem? (i := 166) (by decide +kernel)
theorem wi_58 : Cond.fieldLink RX1 21 "FactShares$Crew" "x" "I" ∈ lw_tbl := List.mem_of_getElem? (i := 168) (by decide +kernel)
theorem wi_59 : Cond.fieldLink RX1 24 "FactShares$Crew" "turns" "I" ∈ lw_tbl := List.mem_of_getElem? (i := 170) (by decide +kernel)
theorem wi_60 : Cond.constant RX1 27 (-2000000) ∈ lw_tbl := List.mem_of_getElem? (i := 102) (by decide +kernel)
theorem wi_61 : Cond.fieldLink RX1 28 "FactShares$Crew" "latest" "I" ∈ lw_tbl := List.mem_of_getElem? (i := 172) (by decide +kernel)
theorem wi_62 : Cond.instantiable RX6 6 ∈ lw_tbl := List.mem_of_getElem? (i := 103) (by decide +kernel)
theorem wi_63 : Cond.initialized RX6 ∈ lw_tbl := List.mem_of_getElem? (i := 37) (by decide +kernel)
theorem wi_64 : Cond.methodLink RX1 31 yX6_init ∈ lw_tbl := List.mem_of_getElem? (i := 104) (by decide +kernel)
theorem wi_65 : Cond.instanceMethod yX6_init ∈ lw_tbl := List.mem_of_getElem? (i := 105) (by decide +kernel)
theorem wi_66 : Cond.code yX6_init cX6_init 2 none ∈ lw_tbl := List.mem_of_getElem? (i := 106) (by decide +kernel)
theorem wi_67 : Cond.methodLink RX6 1 objectInit ∈ lw_tbl := List.mem_of_getElem? (i := 107) (by decide +kernel)
theorem wi_68 : Cond.classLink RX6 7 RX0 ∈ lw_tbl := List.mem_of_getElem? (i := 108) (by decide +kernel)
theorem wi_69 : Cond.instantiable RX0 6 ∈ lw_tbl := List.mem_of_getElem? (i := 109) (by decide +kernel)
theorem wi_70 : Cond.initialized RX0 ∈ lw_tbl := List.mem_of_getElem? (i := 38) (by decide +kernel)
theorem wi_71 : Cond.fieldLink RX6 10 "FactShares$Worker" "bench" "LFactShares$Bench;" ∈ lw_tbl := List.mem_of_getElem? (i := 136) (by decide +kernel)
theorem wr_3 : ∀ w ∈ wsL_law_r3, w ∈ lw_tbl := by
  unfold wsL_law_r3
  exact List.forall_mem_cons.mpr ⟨wi_48, List.forall_mem_cons.mpr ⟨wi_49, List.forall_mem_cons.mpr ⟨wi_50, List.forall_mem_cons.mpr ⟨wi_51, List.forall_mem_cons.mpr ⟨wi_52, List.forall_mem_cons.mpr ⟨wi_53, List.forall_mem_cons.mpr ⟨wi_54, List.forall_mem_cons.mpr ⟨wi_55, List.forall_mem_cons.mpr ⟨wi_56, List.forall_mem_cons.mpr ⟨wi_57, List.forall_mem_cons.mpr ⟨wi_58, List.forall_mem_cons.mpr ⟨wi_59, List.forall_mem_cons.mpr ⟨wi_60, List.forall_mem_cons.mpr ⟨wi_61, List.forall_mem_cons.mpr ⟨wi_62, List.forall_mem_cons.mpr ⟨wi_63, List.forall_mem_cons.mpr ⟨wi_64, List.forall_mem_cons.mpr ⟨wi_65, List.forall_mem_cons.mpr ⟨wi_66, List.forall_mem_cons.mpr ⟨wi_67, List.forall_mem_cons.mpr ⟨wi_68, List.forall_mem_cons.mpr ⟨wi_69, List.forall_mem_cons.mpr ⟨wi_70, List.forall_mem_cons.mpr ⟨wi_71, (fun _ h => absurd h List.not_mem_nil)⟩⟩⟩⟩⟩⟩⟩⟩⟩⟩⟩⟩⟩⟩⟩⟩⟩⟩⟩⟩⟩⟩⟩⟩
theorem wi_72 : Cond.fieldLink RX6 16 "FactShares$Worker" "here" "Z" ∈ lw_tbl := List.mem_of_getElem? (i := 138) (by decide +kernel)
theorem wi_73 : Cond.fieldLink RX6 20 "FactShares$Worker" "loseFrom" "I" ∈ lw_tbl := List.mem_of_getElem? (i := 140) (by decide +kernel)
theorem wi_74 : Cond.fieldLink RX6 24 "FactShares$Worker" "share" "LFactShares$Share;" ∈ lw_tbl := List.mem_of_getElem? (i := 143) (by decide +kernel)
theorem wi_75 : Cond.fieldLink RX6 28 "FactShares$Worker" "nextAct" "I" ∈ lw_tbl := List.mem_of_getElem? (i := 145) (by decide +kernel)
theorem wi_76 : Cond.fieldLink RX6 31 "FactShares$Worker" "number" "I" ∈ lw_tbl := List.mem_of_getElem? (i := 133) (by decide +kernel)
theorem wi_77 : Cond.instanceMethod yX0_init ∈ lw_tbl := List.mem_of_getElem? (i := 111) (by decide +kernel)
theorem wi_78 : Cond.code yX0_init cX0_init 1 none ∈ lw_tbl := List.mem_of_getElem? (i := 112) (by decide +kernel)
theorem wi_79 : Cond.methodLink RX0 1 objectInit ∈ lw_tbl := List.mem_of_getElem? (i := 113) (by decide +kernel)
theorem wi_80 : Cond.fieldLink RX0 9 "FactShares$Bench" "low" "[I" ∈ lw_tbl := List.mem_of_getElem? (i := 114) (by decide +kernel)
theorem wi_81 : Cond.fieldLink RX0 13 "FactShares$Bench" "high" "[I" ∈ lw_tbl := List.mem_of_getElem? (i := 115) (by decide +kernel)
theorem wi_82 : Cond.fieldLink RX0 16 "FactShares$Bench" "height" "I" ∈ lw_tbl := List.mem_of_getElem? (i := 116) (by decide +kernel)
theorem wi_83 : Cond.fieldLink RX0 20 "FactShares$Bench" "rowKnown" "[Z" ∈ lw_tbl := List.mem_of_getElem? (i := 117) (by decide +kernel)
theorem wi_84 : Cond.fieldLink RX0 24 "FactShares$Bench" "rowLow" "[I" ∈ lw_tbl := List.mem_of_getElem? (i := 118) (by decide +kernel)
theorem wi_85 : Cond.fieldLink RX0 27 "FactShares$Bench" "rowHigh" "[I" ∈ lw_tbl := List.mem_of_getElem? (i := 119) (by decide +kernel)
theorem wi_86 : Cond.methodLink RX1 34 yX1_hire ∈ lw_tbl := List.mem_of_getElem? (i := 160) (by decide +kernel)
theorem wi_87 : Cond.instanceMethod yX1_hire ∈ lw_tbl := List.mem_of_getElem? (i := 161) (by decide +kernel)
theorem wi_88 : Cond.selects RX1 yX1_hire yX1_hire ∈ lw_tbl := List.mem_of_getElem? (i := 162) (by decide +kernel)
theorem wi_89 : Cond.code yX1_hire cX1_hire 3 none ∈ lw_tbl := List.mem_of_getElem? (i := 163) (by decide +kernel)
theorem wi_90 : Cond.fieldLink RX1 37 "FactShares$Worker" "here" "Z" ∈ lw_tbl := List.mem_of_getElem? (i := 139) (by decide +kernel)
theorem wi_91 : Cond.fieldLink RX1 41 "FactShares$Worker" "loseFrom" "I" ∈ lw_tbl := List.mem_of_getElem? (i := 141) (by decide +kernel)
theorem wi_92 : Cond.instanceMethod yX5_init ∈ lw_tbl := List.mem_of_getElem? (i := 188) (by decide +kernel)
theorem wi_93 : Cond.code yX5_init cX5_init 1 none ∈ lw_tbl := List.mem_of_getElem? (i := 189) (by decide +kernel)
theorem wi_94 : Cond.methodLink RX5 3 objectInit ∈ lw_tbl := List.mem_of_getElem? (i := 190) (by decide +kernel)
theorem wi_95 : Cond.fieldLink RX5 9 "FactShares$Tally" "rounds" "I" ∈ lw_tbl := List.mem_of_getElem? (i := 192) (by decide +kernel)
theorem wr_4 : ∀ w ∈ wsL_law_r4, w ∈ lw_tbl := by
  unfold wsL_law_r4
  exact List.forall_mem_cons.mpr ⟨wi_72, List.forall_mem_cons.mpr ⟨wi_73, List.forall_mem_cons.mpr ⟨wi_74, List.forall_mem_cons.mpr ⟨wi_75, List.forall_mem_cons.mpr ⟨wi_76, List.forall_mem_cons.mpr ⟨wi_77, List.forall_mem_cons.mpr ⟨wi_78, List.forall_mem_cons.mpr ⟨wi_79, List.forall_mem_cons.mpr ⟨wi_80, List.forall_mem_cons.mpr ⟨wi_81, List.forall_mem_cons.mpr ⟨wi_82, List.forall_mem_cons.mpr ⟨wi_83, List.forall_mem_cons.mpr ⟨wi_84, List.forall_mem_cons.mpr ⟨wi_85, List.forall_mem_cons.mpr ⟨wi_86, List.forall_mem_cons.mpr ⟨wi_87, List.forall_mem_cons.mpr ⟨wi_88, List.forall_mem_cons.mpr ⟨wi_89, List.forall_mem_cons.mpr ⟨wi_90, List.forall_mem_cons.mpr ⟨wi_91, List.forall_mem_cons.mpr ⟨wi_92, List.forall_mem_cons.mpr ⟨wi_93, List.forall_mem_cons.mpr ⟨wi_94, List.forall_mem_cons.mpr ⟨wi_95, (fun _ h => absurd h List.not_mem_nil)⟩⟩⟩⟩⟩⟩⟩⟩⟩⟩⟩⟩⟩⟩⟩⟩⟩⟩⟩⟩⟩⟩⟩⟩
theorem wi_96 : Cond.constant RX5 15 (-2000000) ∈ lw_tbl := List.mem_of_getElem? (i := 191) (by decide +kernel)
theorem wi_97 : Cond.fieldLink RX5 16 "FactShares$Tally" "spoilt" "I" ∈ lw_tbl := List.mem_of_getElem? (i := 194) (by decide +kernel)
theorem wi_98 : Cond.fieldLink RX5 21 "FactShares$Tally" "refusal" "I" ∈ lw_tbl := List.mem_of_getElem? (i := 196) (by decide +kernel)
theorem wi_99 : Cond.fieldLink RX5 24 "FactShares$Tally" "acts" "I" ∈ lw_tbl := List.mem_of_getElem? (i := 198) (by decide +kernel)
theorem wi_100 : Cond.fieldLink RX5 27 "FactShares$Tally" "taken" "I" ∈ lw_tbl := List.mem_of_getElem? (i := 200) (by decide +kernel)
theorem wi_101 : Cond.fieldLink RX5 30 "FactShares$Tally" "left" "I" ∈ lw_tbl := List.mem_of_getElem? (i := 202) (by decide +kernel)
theorem wi_102 : Cond.instanceMethod yX4_init ∈ lw_tbl := List.mem_of_getElem? (i := 219) (by decide +kernel)
theorem wi_103 : Cond.code yX4_init cX4_init 1 none ∈ lw_tbl := List.mem_of_getElem? (i := 220) (by decide +kernel)
theorem wi_104 : Cond.methodLink RX4 3 objectInit ∈ lw_tbl := List.mem_of_getElem? (i := 221) (by decide +kernel)
theorem wi_105 : Cond.fieldLink RX4 11 "FactShares$Share" "sort" "[I" ∈ lw_tbl := List.mem_of_getElem? (i := 223) (by decide +kernel)
theorem wi_106 : Cond.fieldLink RX4 15 "FactShares$Share" "a" "[I" ∈ lw_tbl := List.mem_of_getElem? (i := 225) (by decide +kernel)
theorem wi_107 : Cond.fieldLink RX4 18 "FactShares$Share" "b" "[I" ∈ lw_tbl := List.mem_of_getElem? (i := 227) (by decide +kernel)
theorem wi_108 : Cond.fieldLink RX4 21 "FactShares$Share" "aim" "I" ∈ lw_tbl := List.mem_of_getElem? (i := 229) (by decide +kernel)
theorem wi_109 : Cond.fieldLink RX4 25 "FactShares$Share" "actCount" "I" ∈ lw_tbl := List.mem_of_getElem? (i := 232) (by decide +kernel)
theorem wi_110 : Cond.constant RX4 28 (-2000000) ∈ lw_tbl := List.mem_of_getElem? (i := 222) (by decide +kernel)
theorem wi_111 : Cond.fieldLink RX4 29 "FactShares$Share" "doneBy" "I" ∈ lw_tbl := List.mem_of_getElem? (i := 234) (by decide +kernel)
theorem wi_112 : Cond.fieldLink RX4 34 "FactShares$Share" "refusal" "I" ∈ lw_tbl := List.mem_of_getElem? (i := 236) (by decide +kernel)
theorem wi_113 : Cond.fieldLink RX4 37 "FactShares$Share" "answerLow" "I" ∈ lw_tbl := List.mem_of_getElem? (i := 238) (by decide +kernel)
theorem wi_114 : Cond.fieldLink RX4 40 "FactShares$Share" "answerHigh" "I" ∈ lw_tbl := List.mem_of_getElem? (i := 241) (by decide +kernel)
theorem wi_115 : Cond.methodLink RL 12 yX8_init ∈ lw_tbl := List.mem_of_getElem? (i := 522) (by decide +kernel)
theorem wi_116 : Cond.instanceMethod yX8_init ∈ lw_tbl := List.mem_of_getElem? (i := 523) (by decide +kernel)
theorem wi_117 : Cond.code yX8_init cX8_init 2 none ∈ lw_tbl := List.mem_of_getElem? (i := 524) (by decide +kernel)
theorem wi_118 : Cond.methodLink RX8 1 objectInit ∈ lw_tbl := List.mem_of_getElem? (i := 525) (by decide +kernel)
theorem wi_119 : Cond.fieldLink RX8 7 "FactSharesModel" "low" "[I" ∈ lw_tbl := List.mem_of_getElem? (i := 527) (by decide +kernel)
theorem wr_5 : ∀ w ∈ wsL_law_r5, w ∈ lw_tbl := by
  unfold wsL_law_r5
  exact List.forall_mem_cons.mpr ⟨wi_96, List.forall_mem_cons.mpr ⟨wi_97, List.forall_mem_cons.mpr ⟨wi_98, List.forall_mem_cons.mpr ⟨wi_99, List.forall_mem_cons.mpr ⟨wi_100, List.forall_mem_cons.mpr ⟨wi_101, List.forall_mem_cons.mpr ⟨wi_102, List.forall_mem_cons.mpr ⟨wi_103, List.forall_mem_cons.mpr ⟨wi_104, List.forall_mem_cons.mpr ⟨wi_105, List.forall_mem_cons.mpr ⟨wi_106, List.forall_mem_cons.mpr ⟨wi_107, List.forall_mem_cons.mpr ⟨wi_108, List.forall_mem_cons.mpr ⟨wi_109, List.forall_mem_cons.mpr ⟨wi_110, List.forall_mem_cons.mpr ⟨wi_111, List.forall_mem_cons.mpr ⟨wi_112, List.forall_mem_cons.mpr ⟨wi_113, List.forall_mem_cons.mpr ⟨wi_114, List.forall_mem_cons.mpr ⟨wi_115, List.forall_mem_cons.mpr ⟨wi_116, List.forall_mem_cons.mpr ⟨wi_117, List.forall_mem_cons.mpr ⟨wi_118, List.forall_mem_cons.mpr ⟨wi_119, (fun _ h => absurd h List.not_mem_nil)⟩⟩⟩⟩⟩⟩⟩⟩⟩⟩⟩⟩⟩⟩⟩⟩⟩⟩⟩⟩⟩⟩⟩⟩
theorem wi_120 : Cond.fieldLink RX8 13 "FactSharesModel" "high" "[I" ∈ lw_tbl := List.mem_of_getElem? (i := 528) (by decide +kernel)
theorem wi_121 : Cond.fieldLink RX8 16 "FactSharesModel" "aim" "[I" ∈ lw_tbl := List.mem_of_getElem? (i := 530) (by decide +kernel)
theorem wi_122 : Cond.fieldLink RX8 19 "FactSharesModel" "acts" "[I" ∈ lw_tbl := List.mem_of_getElem? (i := 531) (by decide +kernel)
theorem wi_123 : Cond.fieldLink RX8 22 "FactSharesModel" "sort" "[I" ∈ lw_tbl := List.mem_of_getElem? (i := 532) (by decide +kernel)
theorem wi_124 : Cond.fieldLink RX8 25 "FactSharesModel" "one" "[I" ∈ lw_tbl := List.mem_of_getElem? (i := 533) (by decide +kernel)
theorem wi_125 : Cond.fieldLink RX8 28 "FactSharesModel" "two" "[I" ∈ lw_tbl := List.mem_of_getElem? (i := 534) (by decide +kernel)
theorem wi_126 : Cond.fieldLink RX8 31 "FactSharesModel" "next" "[I" ∈ lw_tbl := List.mem_of_getElem? (i := 535) (by decide +kernel)
theorem wi_127 : Cond.fieldLink RX8 34 "FactSharesModel" "depth" "[I" ∈ lw_tbl := List.mem_of_getElem? (i := 536) (by decide +kernel)
theorem wi_128 : Cond.fieldLink RX8 37 "FactSharesModel" "stackLow" "[I" ∈ lw_tbl := List.mem_of_getElem? (i := 537) (by decide +kernel)
theorem wi_129 : Cond.fieldLink RX8 40 "FactSharesModel" "stackHigh" "[I" ∈ lw_tbl := List.mem_of_getElem? (i := 538) (by decide +kernel)
theorem wi_130 : Cond.fieldLink RX8 43 "FactSharesModel" "rowLow" "[I" ∈ lw_tbl := List.mem_of_getElem? (i := 539) (by decide +kernel)
theorem wi_131 : Cond.fieldLink RX8 46 "FactSharesModel" "rowHigh" "[I" ∈ lw_tbl := List.mem_of_getElem? (i := 540) (by decide +kernel)
theorem wi_132 : Cond.fieldLink RX8 49 "FactSharesModel" "spoilt" "[I" ∈ lw_tbl := List.mem_of_getElem? (i := 541) (by decide +kernel)
theorem wi_133 : Cond.fieldLink RX8 52 "FactSharesModel" "doneBy" "[I" ∈ lw_tbl := List.mem_of_getElem? (i := 542) (by decide +kernel)
theorem wi_134 : Cond.fieldLink RX8 55 "FactSharesModel" "isDone" "[Z" ∈ lw_tbl := List.mem_of_getElem? (i := 543) (by decide +kernel)
theorem wi_135 : Cond.fieldLink RX8 59 "FactSharesModel" "line" "[I" ∈ lw_tbl := List.mem_of_getElem? (i := 544) (by decide +kernel)
theorem wi_136 : Cond.fieldLink RX8 62 "FactSharesModel" "isThere" "[Z" ∈ lw_tbl := List.mem_of_getElem? (i := 547) (by decide +kernel)
theorem wi_137 : Cond.fieldLink RX8 65 "FactSharesModel" "lostFrom" "[I" ∈ lw_tbl := List.mem_of_getElem? (i := 548) (by decide +kernel)
theorem wi_138 : Cond.fieldLink RX8 68 "FactSharesModel" "has" "[I" ∈ lw_tbl := List.mem_of_getElem? (i := 549) (by decide +kernel)
theorem wi_139 : Cond.constant RX8 71 (-2000000) ∈ lw_tbl := List.mem_of_getElem? (i := 526) (by decide +kernel)
theorem wi_140 : Cond.fieldLink RX8 72 "FactSharesModel" "latest" "I" ∈ lw_tbl := List.mem_of_getElem? (i := 552) (by decide +kernel)
theorem wi_141 : Cond.fieldLink RX8 76 "FactSharesModel" "widen" "I" ∈ lw_tbl := List.mem_of_getElem? (i := 553) (by decide +kernel)
theorem wi_142 : Cond.fieldLink RX8 79 "FactSharesModel" "budget" "I" ∈ lw_tbl := List.mem_of_getElem? (i := 554) (by decide +kernel)
theorem wi_143 : Cond.fieldLink RX8 82 "FactSharesModel" "badShare" "I" ∈ lw_tbl := List.mem_of_getElem? (i := 556) (by decide +kernel)
theorem wr_6 : ∀ w ∈ wsL_law_r6, w ∈ lw_tbl := by
  unfold wsL_law_r6
  exact List.forall_mem_cons.mpr ⟨wi_120, List.forall_mem_cons.mpr ⟨wi_121, List.forall_mem_cons.mpr ⟨wi_122, List.forall_mem_cons.mpr ⟨wi_123, List.forall_mem_cons.mpr ⟨wi_124, List.forall_mem_cons.mpr ⟨wi_125, List.forall_mem_cons.mpr ⟨wi_126, List.forall_mem_cons.mpr ⟨wi_127, List.forall_mem_cons.mpr ⟨wi_128, List.forall_mem_cons.mpr ⟨wi_129, List.forall_mem_cons.mpr ⟨wi_130, List.forall_mem_cons.mpr ⟨wi_131, List.forall_mem_cons.mpr ⟨wi_132, List.forall_mem_cons.mpr ⟨wi_133, List.forall_mem_cons.mpr ⟨wi_134, List.forall_mem_cons.mpr ⟨wi_135, List.forall_mem_cons.mpr ⟨wi_136, List.forall_mem_cons.mpr ⟨wi_137, List.forall_mem_cons.mpr ⟨wi_138, List.forall_mem_cons.mpr ⟨wi_139, List.forall_mem_cons.mpr ⟨wi_140, List.forall_mem_cons.mpr ⟨wi_141, List.forall_mem_cons.mpr ⟨wi_142, List.forall_mem_cons.mpr ⟨wi_143, (fun _ h => absurd h List.not_mem_nil)⟩⟩⟩⟩⟩⟩⟩⟩⟩⟩⟩⟩⟩⟩⟩⟩⟩⟩⟩⟩⟩⟩⟩⟩
theorem wi_144 : Cond.methodLink RL 13 yX7_share ∈ lw_tbl := List.mem_of_getElem? (i := 291) (by decide +kernel)
theorem wi_145 : Cond.instanceMethod yX7_share ∈ lw_tbl := List.mem_of_getElem? (i := 292) (by decide +kernel)
theorem wi_146 : Cond.selects RX7 yX7_share yX7_share ∈ lw_tbl := List.mem_of_getElem? (i := 293) (by decide +kernel)
theorem wi_147 : Cond.code yX7_share cX7_share 2 (some .int) ∈ lw_tbl := List.mem_of_getElem? (i := 294) (by decide +kernel)
theorem wi_148 : Cond.constant RX7 61 (-2000001) ∈ lw_tbl := List.mem_of_getElem? (i := 298) (by decide +kernel)
theorem wi_149 : Cond.constant RX7 62 (-2000003) ∈ lw_tbl := List.mem_of_getElem? (i := 299) (by decide +kernel)
theorem wi_150 : Cond.fieldLink RX7 63 "FactShares$Share" "aim" "I" ∈ lw_tbl := List.mem_of_getElem? (i := 230) (by decide +kernel)
theorem wi_151 : Cond.methodLink RX7 57 yX7_isFact ∈ lw_tbl := List.mem_of_getElem? (i := 295) (by decide +kernel)
theorem wi_152 : Cond.static yX7_isFact ∈ lw_tbl := List.mem_of_getElem? (i := 296) (by decide +kernel)
theorem wi_153 : Cond.code yX7_isFact cX7_isFact 1 (some .boolean) ∈ lw_tbl := List.mem_of_getElem? (i := 297) (by decide +kernel)
theorem wi_154 : Cond.methodLink RL 17 yX8_share ∈ lw_tbl := List.mem_of_getElem? (i := 630) (by decide +kernel)
theorem wi_155 : Cond.instanceMethod yX8_share ∈ lw_tbl := List.mem_of_getElem? (i := 631) (by decide +kernel)
theorem wi_156 : Cond.selects RX8 yX8_share yX8_share ∈ lw_tbl := List.mem_of_getElem? (i := 632) (by decide +kernel)
theorem wi_157 : Cond.code yX8_share cX8_share 2 (some .int) ∈ lw_tbl := List.mem_of_getElem? (i := 633) (by decide +kernel)
theorem wi_158 : Cond.constant RX8 94 (-2000001) ∈ lw_tbl := List.mem_of_getElem? (i := 637) (by decide +kernel)
theorem wi_159 : Cond.fieldLink RX8 87 "FactSharesModel" "shares" "I" ∈ lw_tbl := List.mem_of_getElem? (i := 529) (by decide +kernel)
theorem wi_160 : Cond.constant RX8 95 (-2000003) ∈ lw_tbl := List.mem_of_getElem? (i := 638) (by decide +kernel)
theorem wi_161 : Cond.methodLink RX8 90 yX8_isFact ∈ lw_tbl := List.mem_of_getElem? (i := 634) (by decide +kernel)
theorem wi_162 : Cond.static yX8_isFact ∈ lw_tbl := List.mem_of_getElem? (i := 635) (by decide +kernel)
theorem wi_163 : Cond.code yX8_isFact cX8_isFact 1 (some .boolean) ∈ lw_tbl := List.mem_of_getElem? (i := 636) (by decide +kernel)
theorem wi_164 : Cond.methodLink RL 18 yX7_act ∈ lw_tbl := List.mem_of_getElem? (i := 300) (by decide +kernel)
theorem wi_165 : Cond.instanceMethod yX7_act ∈ lw_tbl := List.mem_of_getElem? (i := 301) (by decide +kernel)
theorem wi_166 : Cond.selects RX7 yX7_act yX7_act ∈ lw_tbl := List.mem_of_getElem? (i := 302) (by decide +kernel)
theorem wi_167 : Cond.code yX7_act cX7_act 5 (some .int) ∈ lw_tbl := List.mem_of_getElem? (i := 303) (by decide +kernel)
theorem wr_7 : ∀ w ∈ wsL_law_r7, w ∈ lw_tbl := by
  unfold wsL_law_r7
  exact List.forall_mem_cons.mpr ⟨wi_144, List.forall_mem_cons.mpr ⟨wi_145, List.forall_mem_cons.mpr ⟨wi_146, List.forall_mem_cons.mpr ⟨wi_147, List.forall_mem_cons.mpr ⟨wi_148, List.forall_mem_cons.mpr ⟨wi_149, List.forall_mem_cons.mpr ⟨wi_150, List.forall_mem_cons.mpr ⟨wi_151, List.forall_mem_cons.mpr ⟨wi_152, List.forall_mem_cons.mpr ⟨wi_153, List.forall_mem_cons.mpr ⟨wi_154, List.forall_mem_cons.mpr ⟨wi_155, List.forall_mem_cons.mpr ⟨wi_156, List.forall_mem_cons.mpr ⟨wi_157, List.forall_mem_cons.mpr ⟨wi_158, List.forall_mem_cons.mpr ⟨wi_159, List.forall_mem_cons.mpr ⟨wi_160, List.forall_mem_cons.mpr ⟨wi_161, List.forall_mem_cons.mpr ⟨wi_162, List.forall_mem_cons.mpr ⟨wi_163, List.forall_mem_cons.mpr ⟨wi_164, List.forall_mem_cons.mpr ⟨wi_165, List.forall_mem_cons.mpr ⟨wi_166, List.forall_mem_cons.mpr ⟨wi_167, (fun _ h => absurd h List.not_mem_nil)⟩⟩⟩⟩⟩⟩⟩⟩⟩⟩⟩⟩⟩⟩⟩⟩⟩⟩⟩⟩⟩⟩⟩⟩
theorem wi_168 : Cond.constant RX7 71 (-2000002) ∈ lw_tbl := List.mem_of_getElem? (i := 308) (by decide +kernel)
theorem wi_169 : Cond.fieldLink RX7 79 "FactShares$Share" "actCount" "I" ∈ lw_tbl := List.mem_of_getElem? (i := 233) (by decide +kernel)
theorem wi_170 : Cond.methodLink RX7 66 yX7_isShare ∈ lw_tbl := List.mem_of_getElem? (i := 304) (by decide +kernel)
theorem wi_171 : Cond.instanceMethod yX7_isShare ∈ lw_tbl := List.mem_of_getElem? (i := 306) (by decide +kernel)
theorem wi_172 : Cond.selects RX7 yX7_isShare yX7_isShare ∈ lw_tbl := List.mem_of_getElem? (i := 0) (by decide +kernel)
theorem wi_173 : Cond.code yX7_isShare cX7_isShare 2 (some .boolean) ∈ lw_tbl := List.mem_of_getElem? (i := 307) (by decide +kernel)
theorem wi_174 : Cond.methodLink RX7 72 yX7_isEnd ∈ lw_tbl := List.mem_of_getElem? (i := 309) (by decide +kernel)
theorem wi_175 : Cond.static yX7_isEnd ∈ lw_tbl := List.mem_of_getElem? (i := 310) (by decide +kernel)
theorem wi_176 : Cond.code yX7_isEnd cX7_isEnd 1 (some .boolean) ∈ lw_tbl := List.mem_of_getElem? (i := 311) (by decide +kernel)
theorem wi_177 : Cond.constant RX7 157 (-1000000) ∈ lw_tbl := List.mem_of_getElem? (i := 312) (by decide +kernel)
theorem wi_178 : Cond.constant RX7 158 (1000000) ∈ lw_tbl := List.mem_of_getElem? (i := 313) (by decide +kernel)
theorem wi_179 : Cond.methodLink RX7 75 yX4_addAct ∈ lw_tbl := List.mem_of_getElem? (i := 314) (by decide +kernel)
theorem wi_180 : Cond.instanceMethod yX4_addAct ∈ lw_tbl := List.mem_of_getElem? (i := 315) (by decide +kernel)
theorem wi_181 : Cond.selects RX4 yX4_addAct yX4_addAct ∈ lw_tbl := List.mem_of_getElem? (i := 316) (by decide +kernel)
theorem wi_182 : Cond.code yX4_addAct cX4_addAct 4 (some .boolean) ∈ lw_tbl := List.mem_of_getElem? (i := 317) (by decide +kernel)
theorem wi_183 : Cond.methodLink RL 22 yX8_act ∈ lw_tbl := List.mem_of_getElem? (i := 639) (by decide +kernel)
theorem wi_184 : Cond.instanceMethod yX8_act ∈ lw_tbl := List.mem_of_getElem? (i := 640) (by decide +kernel)
theorem wi_185 : Cond.selects RX8 yX8_act yX8_act ∈ lw_tbl := List.mem_of_getElem? (i := 641) (by decide +kernel)
theorem wi_186 : Cond.code yX8_act cX8_act 5 (some .int) ∈ lw_tbl := List.mem_of_getElem? (i := 642) (by decide +kernel)
theorem wi_187 : Cond.constant RX8 102 (-2000002) ∈ lw_tbl := List.mem_of_getElem? (i := 652) (by decide +kernel)
theorem wi_188 : Cond.methodLink RX8 96 yX8_isShare ∈ lw_tbl := List.mem_of_getElem? (i := 643) (by decide +kernel)
theorem wi_189 : Cond.instanceMethod yX8_isShare ∈ lw_tbl := List.mem_of_getElem? (i := 645) (by decide +kernel)
theorem wi_190 : Cond.selects RX8 yX8_isShare yX8_isShare ∈ lw_tbl := List.mem_of_getElem? (i := 19) (by decide +kernel)
theorem wi_191 : Cond.code yX8_isShare cX8_isShare 2 (some .boolean) ∈ lw_tbl := List.mem_of_getElem? (i := 646) (by decide +kernel)
theorem wr_8 : ∀ w ∈ wsL_law_r8, w ∈ lw_tbl := by
  unfold wsL_law_r8
  exact List.forall_mem_cons.mpr ⟨wi_168, List.forall_mem_cons.mpr ⟨wi_169, List.forall_mem_cons.mpr ⟨wi_170, List.forall_mem_cons.mpr ⟨wi_171, List.forall_mem_cons.mpr ⟨wi_172, List.forall_mem_cons.mpr ⟨wi_173, List.forall_mem_cons.mpr ⟨wi_174, List.forall_mem_cons.mpr ⟨wi_175, List.forall_mem_cons.mpr ⟨wi_176, List.forall_mem_cons.mpr ⟨wi_177, List.forall_mem_cons.mpr ⟨wi_178, List.forall_mem_cons.mpr ⟨wi_179, List.forall_mem_cons.mpr ⟨wi_180, List.forall_mem_cons.mpr ⟨wi_181, List.forall_mem_cons.mpr ⟨wi_182, List.forall_mem_cons.mpr ⟨wi_183, List.forall_mem_cons.mpr ⟨wi_184, List.forall_mem_cons.mpr ⟨wi_185, List.forall_mem_cons.mpr ⟨wi_186, List.forall_mem_cons.mpr ⟨wi_187, List.forall_mem_cons.mpr ⟨wi_188, List.forall_mem_cons.mpr ⟨wi_189, List.forall_mem_cons.mpr ⟨wi_190, List.forall_mem_cons.mpr ⟨wi_191, (fun _ h => absurd h List.not_mem_nil)⟩⟩⟩⟩⟩⟩⟩⟩⟩⟩⟩⟩⟩⟩⟩⟩⟩⟩⟩⟩⟩⟩⟩⟩
theorem wi_192 : Cond.methodLink RX8 99 yX8_isEnd ∈ lw_tbl := List.mem_of_getElem? (i := 647) (by decide +kernel)
theorem wi_193 : Cond.static yX8_isEnd ∈ lw_tbl := List.mem_of_getElem? (i := 648) (by decide +kernel)
theorem wi_194 : Cond.code yX8_isEnd cX8_isEnd 1 (some .boolean) ∈ lw_tbl := List.mem_of_getElem? (i := 649) (by decide +kernel)
theorem wi_195 : Cond.constant RX8 85 (-1000000) ∈ lw_tbl := List.mem_of_getElem? (i := 650) (by decide +kernel)
theorem wi_196 : Cond.constant RX8 86 (1000000) ∈ lw_tbl := List.mem_of_getElem? (i := 651) (by decide +kernel)
theorem wi_197 : Cond.methodLink RL 23 yX7_fact ∈ lw_tbl := List.mem_of_getElem? (i := 318) (by decide +kernel)
theorem wi_198 : Cond.instanceMethod yX7_fact ∈ lw_tbl := List.mem_of_getElem? (i := 319) (by decide +kernel)
theorem wi_199 : Cond.selects RX7 yX7_fact yX7_fact ∈ lw_tbl := List.mem_of_getElem? (i := 320) (by decide +kernel)
theorem wi_200 : Cond.code yX7_fact cX7_fact 4 (some .int) ∈ lw_tbl := List.mem_of_getElem? (i := 321) (by decide +kernel)
theorem wi_201 : Cond.methodLink RX7 82 yX2_put ∈ lw_tbl := List.mem_of_getElem? (i := 322) (by decide +kernel)
theorem wi_202 : Cond.instanceMethod yX2_put ∈ lw_tbl := List.mem_of_getElem? (i := 323) (by decide +kernel)
theorem wi_203 : Cond.selects RX2 yX2_put yX2_put ∈ lw_tbl := List.mem_of_getElem? (i := 324) (by decide +kernel)
theorem wi_204 : Cond.code yX2_put cX2_put 4 none ∈ lw_tbl := List.mem_of_getElem? (i := 325) (by decide +kernel)
theorem wi_205 : Cond.methodLink RL 27 yX8_fact ∈ lw_tbl := List.mem_of_getElem? (i := 653) (by decide +kernel)
theorem wi_206 : Cond.instanceMethod yX8_fact ∈ lw_tbl := List.mem_of_getElem? (i := 654) (by decide +kernel)
theorem wi_207 : Cond.selects RX8 yX8_fact yX8_fact ∈ lw_tbl := List.mem_of_getElem? (i := 655) (by decide +kernel)
theorem wi_208 : Cond.code yX8_fact cX8_fact 4 (some .int) ∈ lw_tbl := List.mem_of_getElem? (i := 656) (by decide +kernel)
theorem wi_209 : Cond.methodLink RL 28 yX7_end ∈ lw_tbl := List.mem_of_getElem? (i := 327) (by decide +kernel)
theorem wi_210 : Cond.instanceMethod yX7_end ∈ lw_tbl := List.mem_of_getElem? (i := 328) (by decide +kernel)
theorem wi_211 : Cond.selects RX7 yX7_end yX7_end ∈ lw_tbl := List.mem_of_getElem? (i := 329) (by decide +kernel)
theorem wi_212 : Cond.code yX7_end cX7_end 3 (some .int) ∈ lw_tbl := List.mem_of_getElem? (i := 330) (by decide +kernel)
theorem wi_213 : Cond.fieldLink RX7 86 "FactShares$Facts" "known" "[Z" ∈ lw_tbl := List.mem_of_getElem? (i := 58) (by decide +kernel)
theorem wi_214 : Cond.constant RX7 90 (-2000000) ∈ lw_tbl := List.mem_of_getElem? (i := 331) (by decide +kernel)
theorem wi_215 : Cond.fieldLink RX7 91 "FactShares$Facts" "low" "[I" ∈ lw_tbl := List.mem_of_getElem? (i := 61) (by decide +kernel)
theorem wr_9 : ∀ w ∈ wsL_law_r9, w ∈ lw_tbl := by
  unfold wsL_law_r9
  exact List.forall_mem_cons.mpr ⟨wi_192, List.forall_mem_cons.mpr ⟨wi_193, List.forall_mem_cons.mpr ⟨wi_194, List.forall_mem_cons.mpr ⟨wi_195, List.forall_mem_cons.mpr ⟨wi_196, List.forall_mem_cons.mpr ⟨wi_197, List.forall_mem_cons.mpr ⟨wi_198, List.forall_mem_cons.mpr ⟨wi_199, List.forall_mem_cons.mpr ⟨wi_200, List.forall_mem_cons.mpr ⟨wi_201, List.forall_mem_cons.mpr ⟨wi_202, List.forall_mem_cons.mpr ⟨wi_203, List.forall_mem_cons.mpr ⟨wi_204, List.forall_mem_cons.mpr ⟨wi_205, List.forall_mem_cons.mpr ⟨wi_206, List.forall_mem_cons.mpr ⟨wi_207, List.forall_mem_cons.mpr ⟨wi_208, List.forall_mem_cons.mpr ⟨wi_209, List.forall_mem_cons.mpr ⟨wi_210, List.forall_mem_cons.mpr ⟨wi_211, List.forall_mem_cons.mpr ⟨wi_212, List.forall_mem_cons.mpr ⟨wi_213, List.forall_mem_cons.mpr ⟨wi_214, List.forall_mem_cons.mpr ⟨wi_215, (fun _ h => absurd h List.not_mem_nil)⟩⟩⟩⟩⟩⟩⟩⟩⟩⟩⟩⟩⟩⟩⟩⟩⟩⟩⟩⟩⟩⟩⟩⟩
theorem wi_216 : Cond.fieldLink RX7 95 "FactShares$Facts" "high" "[I" ∈ lw_tbl := List.mem_of_getElem? (i := 64) (by decide +kernel)
theorem wi_217 : Cond.methodLink RL 32 yX8_end ∈ lw_tbl := List.mem_of_getElem? (i := 657) (by decide +kernel)
theorem wi_218 : Cond.instanceMethod yX8_end ∈ lw_tbl := List.mem_of_getElem? (i := 658) (by decide +kernel)
theorem wi_219 : Cond.selects RX8 yX8_end yX8_end ∈ lw_tbl := List.mem_of_getElem? (i := 659) (by decide +kernel)
theorem wi_220 : Cond.code yX8_end cX8_end 3 (some .int) ∈ lw_tbl := List.mem_of_getElem? (i := 660) (by decide +kernel)
theorem wi_221 : Cond.methodLink RL 33 yX7_workers ∈ lw_tbl := List.mem_of_getElem? (i := 332) (by decide +kernel)
theorem wi_222 : Cond.instanceMethod yX7_workers ∈ lw_tbl := List.mem_of_getElem? (i := 333) (by decide +kernel)
theorem wi_223 : Cond.selects RX7 yX7_workers yX7_workers ∈ lw_tbl := List.mem_of_getElem? (i := 334) (by decide +kernel)
theorem wi_224 : Cond.code yX7_workers cX7_workers 3 (some .int) ∈ lw_tbl := List.mem_of_getElem? (i := 335) (by decide +kernel)
theorem wi_225 : Cond.fieldLink RX7 98 "FactShares$Crew" "left" "I" ∈ lw_tbl := List.mem_of_getElem? (i := 167) (by decide +kernel)
theorem wi_226 : Cond.methodLink RX7 101 yX1_hire ∈ lw_tbl := List.mem_of_getElem? (i := 336) (by decide +kernel)
theorem wi_227 : Cond.methodLink RL 36 yX8_workers ∈ lw_tbl := List.mem_of_getElem? (i := 661) (by decide +kernel)
theorem wi_228 : Cond.instanceMethod yX8_workers ∈ lw_tbl := List.mem_of_getElem? (i := 662) (by decide +kernel)
theorem wi_229 : Cond.selects RX8 yX8_workers yX8_workers ∈ lw_tbl := List.mem_of_getElem? (i := 663) (by decide +kernel)
theorem wi_230 : Cond.code yX8_workers cX8_workers 4 (some .int) ∈ lw_tbl := List.mem_of_getElem? (i := 664) (by decide +kernel)
theorem wi_231 : Cond.methodLink RX8 103 yX8_workersLeft ∈ lw_tbl := List.mem_of_getElem? (i := 665) (by decide +kernel)
theorem wi_232 : Cond.instanceMethod yX8_workersLeft ∈ lw_tbl := List.mem_of_getElem? (i := 667) (by decide +kernel)
theorem wi_233 : Cond.selects RX8 yX8_workersLeft yX8_workersLeft ∈ lw_tbl := List.mem_of_getElem? (i := 20) (by decide +kernel)
theorem wi_234 : Cond.code yX8_workersLeft cX8_workersLeft 3 (some .int) ∈ lw_tbl := List.mem_of_getElem? (i := 668) (by decide +kernel)
theorem wi_235 : Cond.methodLink RL 37 yX7_lose ∈ lw_tbl := List.mem_of_getElem? (i := 337) (by decide +kernel)
theorem wi_236 : Cond.instanceMethod yX7_lose ∈ lw_tbl := List.mem_of_getElem? (i := 338) (by decide +kernel)
theorem wi_237 : Cond.selects RX7 yX7_lose yX7_lose ∈ lw_tbl := List.mem_of_getElem? (i := 339) (by decide +kernel)
theorem wi_238 : Cond.code yX7_lose cX7_lose 3 (some .int) ∈ lw_tbl := List.mem_of_getElem? (i := 340) (by decide +kernel)
theorem wi_239 : Cond.constant RX7 108 (100000) ∈ lw_tbl := List.mem_of_getElem? (i := 345) (by decide +kernel)
theorem wr_10 : ∀ w ∈ wsL_law_r10, w ∈ lw_tbl := by
  unfold wsL_law_r10
  exact List.forall_mem_cons.mpr ⟨wi_216, List.forall_mem_cons.mpr ⟨wi_217, List.forall_mem_cons.mpr ⟨wi_218, List.forall_mem_cons.mpr ⟨wi_219, List.forall_mem_cons.mpr ⟨wi_220, List.forall_mem_cons.mpr ⟨wi_221, List.forall_mem_cons.mpr ⟨wi_222, List.forall_mem_cons.mpr ⟨wi_223, List.forall_mem_cons.mpr ⟨wi_224, List.forall_mem_cons.mpr ⟨wi_225, List.forall_mem_cons.mpr ⟨wi_226, List.forall_mem_cons.mpr ⟨wi_227, List.forall_mem_cons.mpr ⟨wi_228, List.forall_mem_cons.mpr ⟨wi_229, List.forall_mem_cons.mpr ⟨wi_230, List.forall_mem_cons.mpr ⟨wi_231, List.forall_mem_cons.mpr ⟨wi_232, List.forall_mem_cons.mpr ⟨wi_233, List.forall_mem_cons.mpr ⟨wi_234, List.forall_mem_cons.mpr ⟨wi_235, List.forall_mem_cons.mpr ⟨wi_236, List.forall_mem_cons.mpr ⟨wi_237, List.forall_mem_cons.mpr ⟨wi_238, List.forall_mem_cons.mpr ⟨wi_239, (fun _ h => absurd h List.not_mem_nil)⟩⟩⟩⟩⟩⟩⟩⟩⟩⟩⟩⟩⟩⟩⟩⟩⟩⟩⟩⟩⟩⟩⟩⟩
theorem wi_240 : Cond.fieldLink RX7 109 "FactShares$Crew" "all" "[LFactShares$Worker;" ∈ lw_tbl := List.mem_of_getElem? (i := 165) (by decide +kernel)
theorem wi_241 : Cond.fieldLink RX7 113 "FactShares$Worker" "loseFrom" "I" ∈ lw_tbl := List.mem_of_getElem? (i := 142) (by decide +kernel)
theorem wi_242 : Cond.methodLink RX7 105 yX1_isHere ∈ lw_tbl := List.mem_of_getElem? (i := 341) (by decide +kernel)
theorem wi_243 : Cond.instanceMethod yX1_isHere ∈ lw_tbl := List.mem_of_getElem? (i := 342) (by decide +kernel)
theorem wi_244 : Cond.selects RX1 yX1_isHere yX1_isHere ∈ lw_tbl := List.mem_of_getElem? (i := 343) (by decide +kernel)
theorem wi_245 : Cond.code yX1_isHere cX1_isHere 2 (some .boolean) ∈ lw_tbl := List.mem_of_getElem? (i := 344) (by decide +kernel)
theorem wi_246 : Cond.methodLink RL 40 yX8_lose ∈ lw_tbl := List.mem_of_getElem? (i := 669) (by decide +kernel)
theorem wi_247 : Cond.instanceMethod yX8_lose ∈ lw_tbl := List.mem_of_getElem? (i := 670) (by decide +kernel)
theorem wi_248 : Cond.selects RX8 yX8_lose yX8_lose ∈ lw_tbl := List.mem_of_getElem? (i := 671) (by decide +kernel)
theorem wi_249 : Cond.code yX8_lose cX8_lose 3 (some .int) ∈ lw_tbl := List.mem_of_getElem? (i := 672) (by decide +kernel)
theorem wi_250 : Cond.constant RX8 107 (100000) ∈ lw_tbl := List.mem_of_getElem? (i := 673) (by decide +kernel)
theorem wi_251 : Cond.methodLink RL 41 yX7_seed ∈ lw_tbl := List.mem_of_getElem? (i := 346) (by decide +kernel)
theorem wi_252 : Cond.instanceMethod yX7_seed ∈ lw_tbl := List.mem_of_getElem? (i := 347) (by decide +kernel)
theorem wi_253 : Cond.selects RX7 yX7_seed yX7_seed ∈ lw_tbl := List.mem_of_getElem? (i := 348) (by decide +kernel)
theorem wi_254 : Cond.code yX7_seed cX7_seed 3 (some .int) ∈ lw_tbl := List.mem_of_getElem? (i := 349) (by decide +kernel)
theorem wi_255 : Cond.fieldLink RX7 118 "FactShares$Crew" "x" "I" ∈ lw_tbl := List.mem_of_getElem? (i := 169) (by decide +kernel)
theorem wi_256 : Cond.methodLink RL 44 yX8_seed ∈ lw_tbl := List.mem_of_getElem? (i := 674) (by decide +kernel)
theorem wi_257 : Cond.instanceMethod yX8_seed ∈ lw_tbl := List.mem_of_getElem? (i := 675) (by decide +kernel)
theorem wi_258 : Cond.selects RX8 yX8_seed yX8_seed ∈ lw_tbl := List.mem_of_getElem? (i := 676) (by decide +kernel)
theorem wi_259 : Cond.code yX8_seed cX8_seed 3 (some .int) ∈ lw_tbl := List.mem_of_getElem? (i := 677) (by decide +kernel)
theorem wi_260 : Cond.fieldLink RX8 108 "FactSharesModel" "x" "I" ∈ lw_tbl := List.mem_of_getElem? (i := 551) (by decide +kernel)
theorem wi_261 : Cond.methodLink RL 45 yX7_set ∈ lw_tbl := List.mem_of_getElem? (i := 350) (by decide +kernel)
theorem wi_262 : Cond.instanceMethod yX7_set ∈ lw_tbl := List.mem_of_getElem? (i := 351) (by decide +kernel)
theorem wi_263 : Cond.selects RX7 yX7_set yX7_set ∈ lw_tbl := List.mem_of_getElem? (i := 352) (by decide +kernel)
theorem wr_11 : ∀ w ∈ wsL_law_r11, w ∈ lw_tbl := by
  unfold wsL_law_r11
  exact List.forall_mem_cons.mpr ⟨wi_240, List.forall_mem_cons.mpr ⟨wi_241, List.forall_mem_cons.mpr ⟨wi_242, List.forall_mem_cons.mpr ⟨wi_243, List.forall_mem_cons.mpr ⟨wi_244, List.forall_mem_cons.mpr ⟨wi_245, List.forall_mem_cons.mpr ⟨wi_246, List.forall_mem_cons.mpr ⟨wi_247, List.forall_mem_cons.mpr ⟨wi_248, List.forall_mem_cons.mpr ⟨wi_249, List.forall_mem_cons.mpr ⟨wi_250, List.forall_mem_cons.mpr ⟨wi_251, List.forall_mem_cons.mpr ⟨wi_252, List.forall_mem_cons.mpr ⟨wi_253, List.forall_mem_cons.mpr ⟨wi_254, List.forall_mem_cons.mpr ⟨wi_255, List.forall_mem_cons.mpr ⟨wi_256, List.forall_mem_cons.mpr ⟨wi_257, List.forall_mem_cons.mpr ⟨wi_258, List.forall_mem_cons.mpr ⟨wi_259, List.forall_mem_cons.mpr ⟨wi_260, List.forall_mem_cons.mpr ⟨wi_261, List.forall_mem_cons.mpr ⟨wi_262, List.forall_mem_cons.mpr ⟨wi_263, (fun _ h => absurd h List.not_mem_nil)⟩⟩⟩⟩⟩⟩⟩⟩⟩⟩⟩⟩⟩⟩⟩⟩⟩⟩⟩⟩⟩⟩⟩⟩
theorem wi_264 : Cond.code yX7_set cX7_set 4 (some .int) ∈ lw_tbl := List.mem_of_getElem? (i := 353) (by decide +kernel)
theorem wi_265 : Cond.methodLink RL 48 yX8_set ∈ lw_tbl := List.mem_of_getElem? (i := 678) (by decide +kernel)
theorem wi_266 : Cond.instanceMethod yX8_set ∈ lw_tbl := List.mem_of_getElem? (i := 679) (by decide +kernel)
theorem wi_267 : Cond.selects RX8 yX8_set yX8_set ∈ lw_tbl := List.mem_of_getElem? (i := 680) (by decide +kernel)
theorem wi_268 : Cond.code yX8_set cX8_set 4 (some .int) ∈ lw_tbl := List.mem_of_getElem? (i := 681) (by decide +kernel)
theorem wi_269 : Cond.methodLink RL 49 yX7_run ∈ lw_tbl := List.mem_of_getElem? (i := 354) (by decide +kernel)
theorem wi_270 : Cond.instanceMethod yX7_run ∈ lw_tbl := List.mem_of_getElem? (i := 355) (by decide +kernel)
theorem wi_271 : Cond.selects RX7 yX7_run yX7_run ∈ lw_tbl := List.mem_of_getElem? (i := 356) (by decide +kernel)
theorem wi_272 : Cond.code yX7_run cX7_run 4 (some .int) ∈ lw_tbl := List.mem_of_getElem? (i := 357) (by decide +kernel)
theorem wi_273 : Cond.methodLink RX7 121 yX5_beginRun ∈ lw_tbl := List.mem_of_getElem? (i := 358) (by decide +kernel)
theorem wi_274 : Cond.instanceMethod yX5_beginRun ∈ lw_tbl := List.mem_of_getElem? (i := 359) (by decide +kernel)
theorem wi_275 : Cond.selects RX5 yX5_beginRun yX5_beginRun ∈ lw_tbl := List.mem_of_getElem? (i := 360) (by decide +kernel)
theorem wi_276 : Cond.code yX5_beginRun cX5_beginRun 1 none ∈ lw_tbl := List.mem_of_getElem? (i := 361) (by decide +kernel)
theorem wi_277 : Cond.methodLink RX7 124 yX7_playRound ∈ lw_tbl := List.mem_of_getElem? (i := 362) (by decide +kernel)
theorem wi_278 : Cond.instanceMethod yX7_playRound ∈ lw_tbl := List.mem_of_getElem? (i := 364) (by decide +kernel)
theorem wi_279 : Cond.selects RX7 yX7_playRound yX7_playRound ∈ lw_tbl := List.mem_of_getElem? (i := 1) (by decide +kernel)
theorem wi_280 : Cond.code yX7_playRound cX7_playRound 4 (some .int) ∈ lw_tbl := List.mem_of_getElem? (i := 365) (by decide +kernel)
theorem wi_281 : Cond.fieldLink RX7 131 "FactShares$Tally" "spoilt" "I" ∈ lw_tbl := List.mem_of_getElem? (i := 195) (by decide +kernel)
theorem wi_282 : Cond.fieldLink RX7 168 "FactShares$Share" "refusal" "I" ∈ lw_tbl := List.mem_of_getElem? (i := 237) (by decide +kernel)
theorem wi_283 : Cond.fieldLink RX7 134 "FactShares$Tally" "refusal" "I" ∈ lw_tbl := List.mem_of_getElem? (i := 197) (by decide +kernel)
theorem wi_284 : Cond.fieldLink RX7 137 "FactShares$Tally" "acts" "I" ∈ lw_tbl := List.mem_of_getElem? (i := 199) (by decide +kernel)
theorem wi_285 : Cond.fieldLink RX7 128 "FactShares$Tally" "rounds" "I" ∈ lw_tbl := List.mem_of_getElem? (i := 193) (by decide +kernel)
theorem wi_286 : Cond.methodLink RX7 159 yX7_beginRound ∈ lw_tbl := List.mem_of_getElem? (i := 366) (by decide +kernel)
theorem wi_287 : Cond.instanceMethod yX7_beginRound ∈ lw_tbl := List.mem_of_getElem? (i := 368) (by decide +kernel)
theorem wr_12 : ∀ w ∈ wsL_law_r12, w ∈ lw_tbl := by
  unfold wsL_law_r12
  exact List.forall_mem_cons.mpr ⟨wi_264, List.forall_mem_cons.mpr ⟨wi_265, List.forall_mem_cons.mpr ⟨wi_266, List.forall_mem_cons.mpr ⟨wi_267, List.forall_mem_cons.mpr ⟨wi_268, List.forall_mem_cons.mpr ⟨wi_269, List.forall_mem_cons.mpr ⟨wi_270, List.forall_mem_cons.mpr ⟨wi_271, List.forall_mem_cons.mpr ⟨wi_272, List.forall_mem_cons.mpr ⟨wi_273, List.forall_mem_cons.mpr ⟨wi_274, List.forall_mem_cons.mpr ⟨wi_275, List.forall_mem_cons.mpr ⟨wi_276, List.forall_mem_cons.mpr ⟨wi_277, List.forall_mem_cons.mpr ⟨wi_278, List.forall_mem_cons.mpr ⟨wi_279, List.forall_mem_cons.mpr ⟨wi_280, List.forall_mem_cons.mpr ⟨wi_281, List.forall_mem_cons.mpr ⟨wi_282, List.forall_mem_cons.mpr ⟨wi_283, List.forall_mem_cons.mpr ⟨wi_284, List.forall_mem_cons.mpr ⟨wi_285, List.forall_mem_cons.mpr ⟨wi_286, List.forall_mem_cons.mpr ⟨wi_287, (fun _ h => absurd h List.not_mem_nil)⟩⟩⟩⟩⟩⟩⟩⟩⟩⟩⟩⟩⟩⟩⟩⟩⟩⟩⟩⟩⟩⟩⟩⟩
theorem wi_288 : Cond.selects RX7 yX7_beginRound yX7_beginRound ∈ lw_tbl := List.mem_of_getElem? (i := 2) (by decide +kernel)
theorem wi_289 : Cond.code yX7_beginRound cX7_beginRound 2 none ∈ lw_tbl := List.mem_of_getElem? (i := 369) (by decide +kernel)
theorem wi_290 : Cond.fieldLink RX7 150 "FactShares$Share" "doneBy" "I" ∈ lw_tbl := List.mem_of_getElem? (i := 235) (by decide +kernel)
theorem wi_291 : Cond.methodLink RX7 176 yX3_fill ∈ lw_tbl := List.mem_of_getElem? (i := 370) (by decide +kernel)
theorem wi_292 : Cond.instanceMethod yX3_fill ∈ lw_tbl := List.mem_of_getElem? (i := 371) (by decide +kernel)
theorem wi_293 : Cond.selects RX3 yX3_fill yX3_fill ∈ lw_tbl := List.mem_of_getElem? (i := 372) (by decide +kernel)
theorem wi_294 : Cond.code yX3_fill cX3_fill 4 none ∈ lw_tbl := List.mem_of_getElem? (i := 373) (by decide +kernel)
theorem wi_295 : Cond.methodLink RX3 24 Lib.Math.min.name ∈ lw_tbl := List.mem_of_getElem? (i := 374) (by decide +kernel)
theorem wi_296 : Cond.static Lib.Math.min.name ∈ lw_tbl := List.mem_of_getElem? (i := 375) (by decide +kernel)
theorem wi_297 : Cond.initialized "java/lang/Math" ∈ lw_tbl := List.mem_of_getElem? (i := 42) (by decide +kernel)
theorem wi_298 : Cond.code Lib.Math.min.name Lib.Math.min.code 2 (some .int) ∈ lw_tbl := List.mem_of_getElem? (i := 376) (by decide +kernel)
theorem wi_299 : Cond.methodLink RX7 162 yX7_playTurn ∈ lw_tbl := List.mem_of_getElem? (i := 377) (by decide +kernel)
theorem wi_300 : Cond.instanceMethod yX7_playTurn ∈ lw_tbl := List.mem_of_getElem? (i := 379) (by decide +kernel)
theorem wi_301 : Cond.selects RX7 yX7_playTurn yX7_playTurn ∈ lw_tbl := List.mem_of_getElem? (i := 3) (by decide +kernel)
theorem wi_302 : Cond.code yX7_playTurn cX7_playTurn 2 none ∈ lw_tbl := List.mem_of_getElem? (i := 380) (by decide +kernel)
theorem wi_303 : Cond.fieldLink RX7 144 "FactShares$Crew" "turns" "I" ∈ lw_tbl := List.mem_of_getElem? (i := 171) (by decide +kernel)
theorem wi_304 : Cond.fieldLink RX7 191 "FactShares$Worker" "share" "LFactShares$Share;" ∈ lw_tbl := List.mem_of_getElem? (i := 144) (by decide +kernel)
theorem wi_305 : Cond.methodLink RX7 180 yX1_nextToMove ∈ lw_tbl := List.mem_of_getElem? (i := 381) (by decide +kernel)
theorem wi_306 : Cond.instanceMethod yX1_nextToMove ∈ lw_tbl := List.mem_of_getElem? (i := 382) (by decide +kernel)
theorem wi_307 : Cond.selects RX1 yX1_nextToMove yX1_nextToMove ∈ lw_tbl := List.mem_of_getElem? (i := 383) (by decide +kernel)
theorem wi_308 : Cond.code yX1_nextToMove cX1_nextToMove 2 (some (.object "FactShares$Worker")) ∈ lw_tbl := List.mem_of_getElem? (i := 384) (by decide +kernel)
theorem wi_309 : Cond.constant RX1 44 (1103515245) ∈ lw_tbl := List.mem_of_getElem? (i := 385) (by decide +kernel)
theorem wi_310 : Cond.fieldLink RX1 49 "FactShares$Worker" "number" "I" ∈ lw_tbl := List.mem_of_getElem? (i := 134) (by decide +kernel)
theorem wi_311 : Cond.methodLink RX1 45 yX1_leftAt ∈ lw_tbl := List.mem_of_getElem? (i := 386) (by decide +kernel)
theorem wr_13 : ∀ w ∈ wsL_law_r13, w ∈ lw_tbl := by
  unfold wsL_law_r13
  exact List.forall_mem_cons.mpr ⟨wi_288, List.forall_mem_cons.mpr ⟨wi_289, List.forall_mem_cons.mpr ⟨wi_290, List.forall_mem_cons.mpr ⟨wi_291, List.forall_mem_cons.mpr ⟨wi_292, List.forall_mem_cons.mpr ⟨wi_293, List.forall_mem_cons.mpr ⟨wi_294, List.forall_mem_cons.mpr ⟨wi_295, List.forall_mem_cons.mpr ⟨wi_296, List.forall_mem_cons.mpr ⟨wi_297, List.forall_mem_cons.mpr ⟨wi_298, List.forall_mem_cons.mpr ⟨wi_299, List.forall_mem_cons.mpr ⟨wi_300, List.forall_mem_cons.mpr ⟨wi_301, List.forall_mem_cons.mpr ⟨wi_302, List.forall_mem_cons.mpr ⟨wi_303, List.forall_mem_cons.mpr ⟨wi_304, List.forall_mem_cons.mpr ⟨wi_305, List.forall_mem_cons.mpr ⟨wi_306, List.forall_mem_cons.mpr ⟨wi_307, List.forall_mem_cons.mpr ⟨wi_308, List.forall_mem_cons.mpr ⟨wi_309, List.forall_mem_cons.mpr ⟨wi_310, List.forall_mem_cons.mpr ⟨wi_311, (fun _ h => absurd h List.not_mem_nil)⟩⟩⟩⟩⟩⟩⟩⟩⟩⟩⟩⟩⟩⟩⟩⟩⟩⟩⟩⟩⟩⟩⟩⟩
theorem wi_312 : Cond.instanceMethod yX1_leftAt ∈ lw_tbl := List.mem_of_getElem? (i := 388) (by decide +kernel)
theorem wi_313 : Cond.selects RX1 yX1_leftAt yX1_leftAt ∈ lw_tbl := List.mem_of_getElem? (i := 4) (by decide +kernel)
theorem wi_314 : Cond.code yX1_leftAt cX1_leftAt 4 (some (.object "FactShares$Worker")) ∈ lw_tbl := List.mem_of_getElem? (i := 389) (by decide +kernel)
theorem wi_315 : Cond.methodLink RX7 184 yX6_isToBeLost ∈ lw_tbl := List.mem_of_getElem? (i := 390) (by decide +kernel)
theorem wi_316 : Cond.instanceMethod yX6_isToBeLost ∈ lw_tbl := List.mem_of_getElem? (i := 391) (by decide +kernel)
theorem wi_317 : Cond.selects RX6 yX6_isToBeLost yX6_isToBeLost ∈ lw_tbl := List.mem_of_getElem? (i := 392) (by decide +kernel)
theorem wi_318 : Cond.code yX6_isToBeLost cX6_isToBeLost 2 (some .boolean) ∈ lw_tbl := List.mem_of_getElem? (i := 393) (by decide +kernel)
theorem wi_319 : Cond.methodLink RX7 187 yX7_loseNow ∈ lw_tbl := List.mem_of_getElem? (i := 394) (by decide +kernel)
theorem wi_320 : Cond.instanceMethod yX7_loseNow ∈ lw_tbl := List.mem_of_getElem? (i := 396) (by decide +kernel)
theorem wi_321 : Cond.selects RX7 yX7_loseNow yX7_loseNow ∈ lw_tbl := List.mem_of_getElem? (i := 5) (by decide +kernel)
theorem wi_322 : Cond.code yX7_loseNow cX7_loseNow 2 none ∈ lw_tbl := List.mem_of_getElem? (i := 397) (by decide +kernel)
theorem wi_323 : Cond.fieldLink RX7 143 "FactShares$Tally" "left" "I" ∈ lw_tbl := List.mem_of_getElem? (i := 203) (by decide +kernel)
theorem wi_324 : Cond.methodLink RX7 202 yX3_putInFront ∈ lw_tbl := List.mem_of_getElem? (i := 398) (by decide +kernel)
theorem wi_325 : Cond.instanceMethod yX3_putInFront ∈ lw_tbl := List.mem_of_getElem? (i := 399) (by decide +kernel)
theorem wi_326 : Cond.selects RX3 yX3_putInFront yX3_putInFront ∈ lw_tbl := List.mem_of_getElem? (i := 400) (by decide +kernel)
theorem wi_327 : Cond.code yX3_putInFront cX3_putInFront 2 none ∈ lw_tbl := List.mem_of_getElem? (i := 401) (by decide +kernel)
theorem wi_328 : Cond.methodLink RX7 206 yX1_remove ∈ lw_tbl := List.mem_of_getElem? (i := 402) (by decide +kernel)
theorem wi_329 : Cond.instanceMethod yX1_remove ∈ lw_tbl := List.mem_of_getElem? (i := 403) (by decide +kernel)
theorem wi_330 : Cond.selects RX1 yX1_remove yX1_remove ∈ lw_tbl := List.mem_of_getElem? (i := 404) (by decide +kernel)
theorem wi_331 : Cond.code yX1_remove cX1_remove 2 none ∈ lw_tbl := List.mem_of_getElem? (i := 405) (by decide +kernel)
theorem wi_332 : Cond.methodLink RX7 195 yX7_takeShare ∈ lw_tbl := List.mem_of_getElem? (i := 406) (by decide +kernel)
theorem wi_333 : Cond.instanceMethod yX7_takeShare ∈ lw_tbl := List.mem_of_getElem? (i := 408) (by decide +kernel)
theorem wi_334 : Cond.selects RX7 yX7_takeShare yX7_takeShare ∈ lw_tbl := List.mem_of_getElem? (i := 6) (by decide +kernel)
theorem wi_335 : Cond.code yX7_takeShare cX7_takeShare 3 none ∈ lw_tbl := List.mem_of_getElem? (i := 409) (by decide +kernel)
theorem wr_14 : ∀ w ∈ wsL_law_r14, w ∈ lw_tbl := by
  unfold wsL_law_r14
  exact List.forall_mem_cons.mpr ⟨wi_312, List.forall_mem_cons.mpr ⟨wi_313, List.forall_mem_cons.mpr ⟨wi_314, List.forall_mem_cons.mpr ⟨wi_315, List.forall_mem_cons.mpr ⟨wi_316, List.forall_mem_cons.mpr ⟨wi_317, List.forall_mem_cons.mpr ⟨wi_318, List.forall_mem_cons.mpr ⟨wi_319, List.forall_mem_cons.mpr ⟨wi_320, List.forall_mem_cons.mpr ⟨wi_321, List.forall_mem_cons.mpr ⟨wi_322, List.forall_mem_cons.mpr ⟨wi_323, List.forall_mem_cons.mpr ⟨wi_324, List.forall_mem_cons.mpr ⟨wi_325, List.forall_mem_cons.mpr ⟨wi_326, List.forall_mem_cons.mpr ⟨wi_327, List.forall_mem_cons.mpr ⟨wi_328, List.forall_mem_cons.mpr ⟨wi_329, List.forall_mem_cons.mpr ⟨wi_330, List.forall_mem_cons.mpr ⟨wi_331, List.forall_mem_cons.mpr ⟨wi_332, List.forall_mem_cons.mpr ⟨wi_333, List.forall_mem_cons.mpr ⟨wi_334, List.forall_mem_cons.mpr ⟨wi_335, (fun _ h => absurd h List.not_mem_nil)⟩⟩⟩⟩⟩⟩⟩⟩⟩⟩⟩⟩⟩⟩⟩⟩⟩⟩⟩⟩⟩⟩⟩⟩
theorem wi_336 : Cond.fieldLink RX7 140 "FactShares$Tally" "taken" "I" ∈ lw_tbl := List.mem_of_getElem? (i := 201) (by decide +kernel)
theorem wi_337 : Cond.methodLink RX7 209 yX3_takeFirst ∈ lw_tbl := List.mem_of_getElem? (i := 410) (by decide +kernel)
theorem wi_338 : Cond.instanceMethod yX3_takeFirst ∈ lw_tbl := List.mem_of_getElem? (i := 411) (by decide +kernel)
theorem wi_339 : Cond.selects RX3 yX3_takeFirst yX3_takeFirst ∈ lw_tbl := List.mem_of_getElem? (i := 412) (by decide +kernel)
theorem wi_340 : Cond.code yX3_takeFirst cX3_takeFirst 1 (some (.object "FactShares$Share")) ∈ lw_tbl := List.mem_of_getElem? (i := 413) (by decide +kernel)
theorem wi_341 : Cond.methodLink RX7 213 yX6_begin ∈ lw_tbl := List.mem_of_getElem? (i := 414) (by decide +kernel)
theorem wi_342 : Cond.instanceMethod yX6_begin ∈ lw_tbl := List.mem_of_getElem? (i := 415) (by decide +kernel)
theorem wi_343 : Cond.selects RX6 yX6_begin yX6_begin ∈ lw_tbl := List.mem_of_getElem? (i := 416) (by decide +kernel)
theorem wi_344 : Cond.code yX6_begin cX6_begin 2 none ∈ lw_tbl := List.mem_of_getElem? (i := 417) (by decide +kernel)
theorem wi_345 : Cond.methodLink RX6 34 yX0_empty ∈ lw_tbl := List.mem_of_getElem? (i := 418) (by decide +kernel)
theorem wi_346 : Cond.instanceMethod yX0_empty ∈ lw_tbl := List.mem_of_getElem? (i := 419) (by decide +kernel)
theorem wi_347 : Cond.selects RX0 yX0_empty yX0_empty ∈ lw_tbl := List.mem_of_getElem? (i := 420) (by decide +kernel)
theorem wi_348 : Cond.code yX0_empty cX0_empty 2 none ∈ lw_tbl := List.mem_of_getElem? (i := 421) (by decide +kernel)
theorem wi_349 : Cond.methodLink RX7 216 yX7_finish ∈ lw_tbl := List.mem_of_getElem? (i := 422) (by decide +kernel)
theorem wi_350 : Cond.instanceMethod yX7_finish ∈ lw_tbl := List.mem_of_getElem? (i := 424) (by decide +kernel)
theorem wi_351 : Cond.selects RX7 yX7_finish yX7_finish ∈ lw_tbl := List.mem_of_getElem? (i := 7) (by decide +kernel)
theorem wi_352 : Cond.code yX7_finish cX7_finish 4 none ∈ lw_tbl := List.mem_of_getElem? (i := 425) (by decide +kernel)
theorem wi_353 : Cond.fieldLink RX7 223 "FactShares$Worker" "bench" "LFactShares$Bench;" ∈ lw_tbl := List.mem_of_getElem? (i := 137) (by decide +kernel)
theorem wi_354 : Cond.fieldLink RX7 244 "FactShares$Worker" "number" "I" ∈ lw_tbl := List.mem_of_getElem? (i := 135) (by decide +kernel)
theorem wi_355 : Cond.methodLink RX7 240 yX0_giveAnswer ∈ lw_tbl := List.mem_of_getElem? (i := 426) (by decide +kernel)
theorem wi_356 : Cond.instanceMethod yX0_giveAnswer ∈ lw_tbl := List.mem_of_getElem? (i := 427) (by decide +kernel)
theorem wi_357 : Cond.selects RX0 yX0_giveAnswer yX0_giveAnswer ∈ lw_tbl := List.mem_of_getElem? (i := 428) (by decide +kernel)
theorem wi_358 : Cond.code yX0_giveAnswer cX0_giveAnswer 2 (some .int) ∈ lw_tbl := List.mem_of_getElem? (i := 429) (by decide +kernel)
theorem wi_359 : Cond.fieldLink RX0 55 "FactShares$Share" "answerLow" "I" ∈ lw_tbl := List.mem_of_getElem? (i := 240) (by decide +kernel)
theorem wr_15 : ∀ w ∈ wsL_law_r15, w ∈ lw_tbl := by
  unfold wsL_law_r15
  exact List.forall_mem_cons.mpr ⟨wi_336, List.forall_mem_cons.mpr ⟨wi_337, List.forall_mem_cons.mpr ⟨wi_338, List.forall_mem_cons.mpr ⟨wi_339, List.forall_mem_cons.mpr ⟨wi_340, List.forall_mem_cons.mpr ⟨wi_341, List.forall_mem_cons.mpr ⟨wi_342, List.forall_mem_cons.mpr ⟨wi_343, List.forall_mem_cons.mpr ⟨wi_344, List.forall_mem_cons.mpr ⟨wi_345, List.forall_mem_cons.mpr ⟨wi_346, List.forall_mem_cons.mpr ⟨wi_347, List.forall_mem_cons.mpr ⟨wi_348, List.forall_mem_cons.mpr ⟨wi_349, List.forall_mem_cons.mpr ⟨wi_350, List.forall_mem_cons.mpr ⟨wi_351, List.forall_mem_cons.mpr ⟨wi_352, List.forall_mem_cons.mpr ⟨wi_353, List.forall_mem_cons.mpr ⟨wi_354, List.forall_mem_cons.mpr ⟨wi_355, List.forall_mem_cons.mpr ⟨wi_356, List.forall_mem_cons.mpr ⟨wi_357, List.forall_mem_cons.mpr ⟨wi_358, List.forall_mem_cons.mpr ⟨wi_359, (fun _ h => absurd h List.not_mem_nil)⟩⟩⟩⟩⟩⟩⟩⟩⟩⟩⟩⟩⟩⟩⟩⟩⟩⟩⟩⟩⟩⟩⟩⟩
theorem wi_360 : Cond.fieldLink RX0 60 "FactShares$Share" "answerHigh" "I" ∈ lw_tbl := List.mem_of_getElem? (i := 243) (by decide +kernel)
theorem wi_361 : Cond.methodLink RX7 198 yX7_doNextAct ∈ lw_tbl := List.mem_of_getElem? (i := 430) (by decide +kernel)
theorem wi_362 : Cond.instanceMethod yX7_doNextAct ∈ lw_tbl := List.mem_of_getElem? (i := 432) (by decide +kernel)
theorem wi_363 : Cond.selects RX7 yX7_doNextAct yX7_doNextAct ∈ lw_tbl := List.mem_of_getElem? (i := 8) (by decide +kernel)
theorem wi_364 : Cond.code yX7_doNextAct cX7_doNextAct 5 none ∈ lw_tbl := List.mem_of_getElem? (i := 433) (by decide +kernel)
theorem wi_365 : Cond.fieldLink RX7 220 "FactShares$Worker" "nextAct" "I" ∈ lw_tbl := List.mem_of_getElem? (i := 146) (by decide +kernel)
theorem wi_366 : Cond.fieldLink RX7 227 "FactShares$Share" "sort" "[I" ∈ lw_tbl := List.mem_of_getElem? (i := 224) (by decide +kernel)
theorem wi_367 : Cond.fieldLink RX7 230 "FactShares$Share" "a" "[I" ∈ lw_tbl := List.mem_of_getElem? (i := 226) (by decide +kernel)
theorem wi_368 : Cond.fieldLink RX7 233 "FactShares$Share" "b" "[I" ∈ lw_tbl := List.mem_of_getElem? (i := 228) (by decide +kernel)
theorem wi_369 : Cond.methodLink RX7 236 yX0_doAct ∈ lw_tbl := List.mem_of_getElem? (i := 434) (by decide +kernel)
theorem wi_370 : Cond.instanceMethod yX0_doAct ∈ lw_tbl := List.mem_of_getElem? (i := 435) (by decide +kernel)
theorem wi_371 : Cond.selects RX0 yX0_doAct yX0_doAct ∈ lw_tbl := List.mem_of_getElem? (i := 436) (by decide +kernel)
theorem wi_372 : Cond.code yX0_doAct cX0_doAct 5 (some .int) ∈ lw_tbl := List.mem_of_getElem? (i := 437) (by decide +kernel)
theorem wi_373 : Cond.methodLink RX0 30 yX0_push ∈ lw_tbl := List.mem_of_getElem? (i := 438) (by decide +kernel)
theorem wi_374 : Cond.instanceMethod yX0_push ∈ lw_tbl := List.mem_of_getElem? (i := 440) (by decide +kernel)
theorem wi_375 : Cond.selects RX0 yX0_push yX0_push ∈ lw_tbl := List.mem_of_getElem? (i := 9) (by decide +kernel)
theorem wi_376 : Cond.code yX0_push cX0_push 3 (some .int) ∈ lw_tbl := List.mem_of_getElem? (i := 441) (by decide +kernel)
theorem wi_377 : Cond.methodLink RX0 34 yX0_pushFact ∈ lw_tbl := List.mem_of_getElem? (i := 442) (by decide +kernel)
theorem wi_378 : Cond.instanceMethod yX0_pushFact ∈ lw_tbl := List.mem_of_getElem? (i := 444) (by decide +kernel)
theorem wi_379 : Cond.selects RX0 yX0_pushFact yX0_pushFact ∈ lw_tbl := List.mem_of_getElem? (i := 10) (by decide +kernel)
theorem wi_380 : Cond.code yX0_pushFact cX0_pushFact 3 (some .int) ∈ lw_tbl := List.mem_of_getElem? (i := 445) (by decide +kernel)
theorem wi_381 : Cond.fieldLink RX0 69 "FactShares$Facts" "known" "[Z" ∈ lw_tbl := List.mem_of_getElem? (i := 59) (by decide +kernel)
theorem wi_382 : Cond.fieldLink RX0 74 "FactShares$Facts" "low" "[I" ∈ lw_tbl := List.mem_of_getElem? (i := 62) (by decide +kernel)
theorem wi_383 : Cond.fieldLink RX0 75 "FactShares$Facts" "high" "[I" ∈ lw_tbl := List.mem_of_getElem? (i := 65) (by decide +kernel)
theorem wr_16 : ∀ w ∈ wsL_law_r16, w ∈ lw_tbl := by
  unfold wsL_law_r16
  exact List.forall_mem_cons.mpr ⟨wi_360, List.forall_mem_cons.mpr ⟨wi_361, List.forall_mem_cons.mpr ⟨wi_362, List.forall_mem_cons.mpr ⟨wi_363, List.forall_mem_cons.mpr ⟨wi_364, List.forall_mem_cons.mpr ⟨wi_365, List.forall_mem_cons.mpr ⟨wi_366, List.forall_mem_cons.mpr ⟨wi_367, List.forall_mem_cons.mpr ⟨wi_368, List.forall_mem_cons.mpr ⟨wi_369, List.forall_mem_cons.mpr ⟨wi_370, List.forall_mem_cons.mpr ⟨wi_371, List.forall_mem_cons.mpr ⟨wi_372, List.forall_mem_cons.mpr ⟨wi_373, List.forall_mem_cons.mpr ⟨wi_374, List.forall_mem_cons.mpr ⟨wi_375, List.forall_mem_cons.mpr ⟨wi_376, List.forall_mem_cons.mpr ⟨wi_377, List.forall_mem_cons.mpr ⟨wi_378, List.forall_mem_cons.mpr ⟨wi_379, List.forall_mem_cons.mpr ⟨wi_380, List.forall_mem_cons.mpr ⟨wi_381, List.forall_mem_cons.mpr ⟨wi_382, List.forall_mem_cons.mpr ⟨wi_383, (fun _ h => absurd h List.not_mem_nil)⟩⟩⟩⟩⟩⟩⟩⟩⟩⟩⟩⟩⟩⟩⟩⟩⟩⟩⟩⟩⟩⟩⟩⟩
theorem wi_384 : Cond.methodLink RX0 38 yX0_joinUpperTwo ∈ lw_tbl := List.mem_of_getElem? (i := 447) (by decide +kernel)
theorem wi_385 : Cond.instanceMethod yX0_joinUpperTwo ∈ lw_tbl := List.mem_of_getElem? (i := 449) (by decide +kernel)
theorem wi_386 : Cond.selects RX0 yX0_joinUpperTwo yX0_joinUpperTwo ∈ lw_tbl := List.mem_of_getElem? (i := 11) (by decide +kernel)
theorem wi_387 : Cond.code yX0_joinUpperTwo cX0_joinUpperTwo 4 (some .int) ∈ lw_tbl := List.mem_of_getElem? (i := 450) (by decide +kernel)
theorem wi_388 : Cond.methodLink RX0 79 Lib.Math.max.name ∈ lw_tbl := List.mem_of_getElem? (i := 454) (by decide +kernel)
theorem wi_389 : Cond.static Lib.Math.max.name ∈ lw_tbl := List.mem_of_getElem? (i := 455) (by decide +kernel)
theorem wi_390 : Cond.code Lib.Math.max.name Lib.Math.max.code 2 (some .int) ∈ lw_tbl := List.mem_of_getElem? (i := 456) (by decide +kernel)
theorem wi_391 : Cond.methodLink RX0 84 Lib.Math.min.name ∈ lw_tbl := List.mem_of_getElem? (i := 457) (by decide +kernel)
theorem wi_392 : Cond.static yX7_nearestEnd ∈ lw_tbl := List.mem_of_getElem? (i := 452) (by decide +kernel)
theorem wi_393 : Cond.code yX7_nearestEnd cX7_nearestEnd 1 (some .int) ∈ lw_tbl := List.mem_of_getElem? (i := 453) (by decide +kernel)
theorem wi_394 : Cond.methodLink RX0 42 yX0_divideUpper ∈ lw_tbl := List.mem_of_getElem? (i := 458) (by decide +kernel)
theorem wi_395 : Cond.instanceMethod yX0_divideUpper ∈ lw_tbl := List.mem_of_getElem? (i := 460) (by decide +kernel)
theorem wi_396 : Cond.selects RX0 yX0_divideUpper yX0_divideUpper ∈ lw_tbl := List.mem_of_getElem? (i := 12) (by decide +kernel)
theorem wi_397 : Cond.code yX0_divideUpper cX0_divideUpper 5 (some .int) ∈ lw_tbl := List.mem_of_getElem? (i := 461) (by decide +kernel)
theorem wi_398 : Cond.methodLink RX0 45 yX0_testPoint ∈ lw_tbl := List.mem_of_getElem? (i := 462) (by decide +kernel)
theorem wi_399 : Cond.instanceMethod yX0_testPoint ∈ lw_tbl := List.mem_of_getElem? (i := 464) (by decide +kernel)
theorem wi_400 : Cond.selects RX0 yX0_testPoint yX0_testPoint ∈ lw_tbl := List.mem_of_getElem? (i := 13) (by decide +kernel)
theorem wi_401 : Cond.code yX0_testPoint cX0_testPoint 1 (some .int) ∈ lw_tbl := List.mem_of_getElem? (i := 465) (by decide +kernel)
theorem wi_402 : Cond.methodLink RX0 49 yX0_keepUpper ∈ lw_tbl := List.mem_of_getElem? (i := 466) (by decide +kernel)
theorem wi_403 : Cond.instanceMethod yX0_keepUpper ∈ lw_tbl := List.mem_of_getElem? (i := 468) (by decide +kernel)
theorem wi_404 : Cond.selects RX0 yX0_keepUpper yX0_keepUpper ∈ lw_tbl := List.mem_of_getElem? (i := 14) (by decide +kernel)
theorem wi_405 : Cond.code yX0_keepUpper cX0_keepUpper 2 (some .int) ∈ lw_tbl := List.mem_of_getElem? (i := 469) (by decide +kernel)
theorem wi_406 : Cond.methodLink RX0 87 yX0_isItem ∈ lw_tbl := List.mem_of_getElem? (i := 470) (by decide +kernel)
theorem wi_407 : Cond.static yX0_isItem ∈ lw_tbl := List.mem_of_getElem? (i := 471) (by decide +kernel)
theorem wr_17 : ∀ w ∈ wsL_law_r17, w ∈ lw_tbl := by
  unfold wsL_law_r17
  exact List.forall_mem_cons.mpr ⟨wi_384, List.forall_mem_cons.mpr ⟨wi_385, List.forall_mem_cons.mpr ⟨wi_386, List.forall_mem_cons.mpr ⟨wi_387, List.forall_mem_cons.mpr ⟨wi_388, List.forall_mem_cons.mpr ⟨wi_389, List.forall_mem_cons.mpr ⟨wi_390, List.forall_mem_cons.mpr ⟨wi_391, List.forall_mem_cons.mpr ⟨wi_392, List.forall_mem_cons.mpr ⟨wi_393, List.forall_mem_cons.mpr ⟨wi_394, List.forall_mem_cons.mpr ⟨wi_395, List.forall_mem_cons.mpr ⟨wi_396, List.forall_mem_cons.mpr ⟨wi_397, List.forall_mem_cons.mpr ⟨wi_398, List.forall_mem_cons.mpr ⟨wi_399, List.forall_mem_cons.mpr ⟨wi_400, List.forall_mem_cons.mpr ⟨wi_401, List.forall_mem_cons.mpr ⟨wi_402, List.forall_mem_cons.mpr ⟨wi_403, List.forall_mem_cons.mpr ⟨wi_404, List.forall_mem_cons.mpr ⟨wi_405, List.forall_mem_cons.mpr ⟨wi_406, List.forall_mem_cons.mpr ⟨wi_407, (fun _ h => absurd h List.not_mem_nil)⟩⟩⟩⟩⟩⟩⟩⟩⟩⟩⟩⟩⟩⟩⟩⟩⟩⟩⟩⟩⟩⟩⟩⟩
theorem wi_408 : Cond.code yX0_isItem cX0_isItem 1 (some .boolean) ∈ lw_tbl := List.mem_of_getElem? (i := 472) (by decide +kernel)
theorem wi_409 : Cond.methodLink RX0 52 yX0_takeItem ∈ lw_tbl := List.mem_of_getElem? (i := 473) (by decide +kernel)
theorem wi_410 : Cond.instanceMethod yX0_takeItem ∈ lw_tbl := List.mem_of_getElem? (i := 475) (by decide +kernel)
theorem wi_411 : Cond.selects RX0 yX0_takeItem yX0_takeItem ∈ lw_tbl := List.mem_of_getElem? (i := 15) (by decide +kernel)
theorem wi_412 : Cond.code yX0_takeItem cX0_takeItem 2 (some .int) ∈ lw_tbl := List.mem_of_getElem? (i := 476) (by decide +kernel)
theorem wi_413 : Cond.methodLink RX7 165 yX7_leastSpoilt ∈ lw_tbl := List.mem_of_getElem? (i := 477) (by decide +kernel)
theorem wi_414 : Cond.instanceMethod yX7_leastSpoilt ∈ lw_tbl := List.mem_of_getElem? (i := 479) (by decide +kernel)
theorem wi_415 : Cond.selects RX7 yX7_leastSpoilt yX7_leastSpoilt ∈ lw_tbl := List.mem_of_getElem? (i := 16) (by decide +kernel)
theorem wi_416 : Cond.code yX7_leastSpoilt cX7_leastSpoilt 2 (some .int) ∈ lw_tbl := List.mem_of_getElem? (i := 480) (by decide +kernel)
theorem wi_417 : Cond.methodLink RX7 169 yX7_actsOfAllShares ∈ lw_tbl := List.mem_of_getElem? (i := 481) (by decide +kernel)
theorem wi_418 : Cond.instanceMethod yX7_actsOfAllShares ∈ lw_tbl := List.mem_of_getElem? (i := 483) (by decide +kernel)
theorem wi_419 : Cond.selects RX7 yX7_actsOfAllShares yX7_actsOfAllShares ∈ lw_tbl := List.mem_of_getElem? (i := 17) (by decide +kernel)
theorem wi_420 : Cond.code yX7_actsOfAllShares cX7_actsOfAllShares 3 (some .int) ∈ lw_tbl := List.mem_of_getElem? (i := 484) (by decide +kernel)
theorem wi_421 : Cond.methodLink RX7 172 yX7_joinAnswers ∈ lw_tbl := List.mem_of_getElem? (i := 485) (by decide +kernel)
theorem wi_422 : Cond.instanceMethod yX7_joinAnswers ∈ lw_tbl := List.mem_of_getElem? (i := 487) (by decide +kernel)
theorem wi_423 : Cond.selects RX7 yX7_joinAnswers yX7_joinAnswers ∈ lw_tbl := List.mem_of_getElem? (i := 18) (by decide +kernel)
theorem wi_424 : Cond.code yX7_joinAnswers cX7_joinAnswers 4 (some .boolean) ∈ lw_tbl := List.mem_of_getElem? (i := 488) (by decide +kernel)
theorem wi_425 : Cond.methodLink RX7 247 yX2_join ∈ lw_tbl := List.mem_of_getElem? (i := 489) (by decide +kernel)
theorem wi_426 : Cond.instanceMethod yX2_join ∈ lw_tbl := List.mem_of_getElem? (i := 490) (by decide +kernel)
theorem wi_427 : Cond.selects RX2 yX2_join yX2_join ∈ lw_tbl := List.mem_of_getElem? (i := 491) (by decide +kernel)
theorem wi_428 : Cond.code yX2_join cX2_join 6 (some .boolean) ∈ lw_tbl := List.mem_of_getElem? (i := 492) (by decide +kernel)
theorem wi_429 : Cond.fieldLink RX2 26 "FactShares$Share" "aim" "I" ∈ lw_tbl := List.mem_of_getElem? (i := 231) (by decide +kernel)
theorem wi_430 : Cond.fieldLink RX2 32 "FactShares$Share" "answerLow" "I" ∈ lw_tbl := List.mem_of_getElem? (i := 239) (by decide +kernel)
theorem wi_431 : Cond.fieldLink RX2 35 "FactShares$Share" "answerHigh" "I" ∈ lw_tbl := List.mem_of_getElem? (i := 242) (by decide +kernel)
theorem wr_18 : ∀ w ∈ wsL_law_r18, w ∈ lw_tbl := by
  unfold wsL_law_r18
  exact List.forall_mem_cons.mpr ⟨wi_408, List.forall_mem_cons.mpr ⟨wi_409, List.forall_mem_cons.mpr ⟨wi_410, List.forall_mem_cons.mpr ⟨wi_411, List.forall_mem_cons.mpr ⟨wi_412, List.forall_mem_cons.mpr ⟨wi_413, List.forall_mem_cons.mpr ⟨wi_414, List.forall_mem_cons.mpr ⟨wi_415, List.forall_mem_cons.mpr ⟨wi_416, List.forall_mem_cons.mpr ⟨wi_417, List.forall_mem_cons.mpr ⟨wi_418, List.forall_mem_cons.mpr ⟨wi_419, List.forall_mem_cons.mpr ⟨wi_420, List.forall_mem_cons.mpr ⟨wi_421, List.forall_mem_cons.mpr ⟨wi_422, List.forall_mem_cons.mpr ⟨wi_423, List.forall_mem_cons.mpr ⟨wi_424, List.forall_mem_cons.mpr ⟨wi_425, List.forall_mem_cons.mpr ⟨wi_426, List.forall_mem_cons.mpr ⟨wi_427, List.forall_mem_cons.mpr ⟨wi_428, List.forall_mem_cons.mpr ⟨wi_429, List.forall_mem_cons.mpr ⟨wi_430, List.forall_mem_cons.mpr ⟨wi_431, (fun _ h => absurd h List.not_mem_nil)⟩⟩⟩⟩⟩⟩⟩⟩⟩⟩⟩⟩⟩⟩⟩⟩⟩⟩⟩⟩⟩⟩⟩⟩
theorem wi_432 : Cond.methodLink RX2 38 yX2_put ∈ lw_tbl := List.mem_of_getElem? (i := 493) (by decide +kernel)
theorem wi_433 : Cond.methodLink RX2 42 yX2_boundBelow ∈ lw_tbl := List.mem_of_getElem? (i := 494) (by decide +kernel)
theorem wi_434 : Cond.static yX2_boundBelow ∈ lw_tbl := List.mem_of_getElem? (i := 495) (by decide +kernel)
theorem wi_435 : Cond.code yX2_boundBelow cX2_boundBelow 2 (some .int) ∈ lw_tbl := List.mem_of_getElem? (i := 496) (by decide +kernel)
theorem wi_436 : Cond.fieldLink RX2 49 "FactShares$Facts" "BOUNDS" "[I" ∈ lw_tbl := List.mem_of_getElem? (i := 497) (by decide +kernel)
theorem wi_437 : Cond.constant RX2 52 (-1000000) ∈ lw_tbl := List.mem_of_getElem? (i := 499) (by decide +kernel)
theorem wi_438 : Cond.methodLink RX2 46 yX2_boundAbove ∈ lw_tbl := List.mem_of_getElem? (i := 500) (by decide +kernel)
theorem wi_439 : Cond.static yX2_boundAbove ∈ lw_tbl := List.mem_of_getElem? (i := 501) (by decide +kernel)
theorem wi_440 : Cond.code yX2_boundAbove cX2_boundAbove 2 (some .int) ∈ lw_tbl := List.mem_of_getElem? (i := 502) (by decide +kernel)
theorem wi_441 : Cond.constant RX2 53 (1000000) ∈ lw_tbl := List.mem_of_getElem? (i := 503) (by decide +kernel)
theorem wi_442 : Cond.methodLink RL 52 yX8_run ∈ lw_tbl := List.mem_of_getElem? (i := 682) (by decide +kernel)
theorem wi_443 : Cond.instanceMethod yX8_run ∈ lw_tbl := List.mem_of_getElem? (i := 683) (by decide +kernel)
theorem wi_444 : Cond.selects RX8 yX8_run yX8_run ∈ lw_tbl := List.mem_of_getElem? (i := 684) (by decide +kernel)
theorem wi_445 : Cond.code yX8_run cX8_run 6 (some .int) ∈ lw_tbl := List.mem_of_getElem? (i := 685) (by decide +kernel)
theorem wi_446 : Cond.fieldLink RX8 172 "FactSharesModel" "rounds" "I" ∈ lw_tbl := List.mem_of_getElem? (i := 555) (by decide +kernel)
theorem wi_447 : Cond.fieldLink RX8 175 "FactSharesModel" "badKind" "I" ∈ lw_tbl := List.mem_of_getElem? (i := 557) (by decide +kernel)
theorem wi_448 : Cond.fieldLink RX8 178 "FactSharesModel" "counted" "I" ∈ lw_tbl := List.mem_of_getElem? (i := 558) (by decide +kernel)
theorem wi_449 : Cond.fieldLink RX8 147 "FactSharesModel" "taken" "I" ∈ lw_tbl := List.mem_of_getElem? (i := 559) (by decide +kernel)
theorem wi_450 : Cond.fieldLink RX8 130 "FactSharesModel" "left" "I" ∈ lw_tbl := List.mem_of_getElem? (i := 560) (by decide +kernel)
theorem wi_451 : Cond.methodLink RX8 181 yX8_round ∈ lw_tbl := List.mem_of_getElem? (i := 686) (by decide +kernel)
theorem wi_452 : Cond.instanceMethod yX8_round ∈ lw_tbl := List.mem_of_getElem? (i := 688) (by decide +kernel)
theorem wi_453 : Cond.selects RX8 yX8_round yX8_round ∈ lw_tbl := List.mem_of_getElem? (i := 21) (by decide +kernel)
theorem wi_454 : Cond.code yX8_round cX8_round 2 (some .boolean) ∈ lw_tbl := List.mem_of_getElem? (i := 689) (by decide +kernel)
theorem wi_455 : Cond.fieldLink RX8 141 "FactSharesModel" "head" "I" ∈ lw_tbl := List.mem_of_getElem? (i := 545) (by decide +kernel)
theorem wr_19 : ∀ w ∈ wsL_law_r19, w ∈ lw_tbl := by
  unfold wsL_law_r19
  exact List.forall_mem_cons.mpr ⟨wi_432, List.forall_mem_cons.mpr ⟨wi_433, List.forall_mem_cons.mpr ⟨wi_434, List.forall_mem_cons.mpr ⟨wi_435, List.forall_mem_cons.mpr ⟨wi_436, List.forall_mem_cons.mpr ⟨wi_437, List.forall_mem_cons.mpr ⟨wi_438, List.forall_mem_cons.mpr ⟨wi_439, List.forall_mem_cons.mpr ⟨wi_440, List.forall_mem_cons.mpr ⟨wi_441, List.forall_mem_cons.mpr ⟨wi_442, List.forall_mem_cons.mpr ⟨wi_443, List.forall_mem_cons.mpr ⟨wi_444, List.forall_mem_cons.mpr ⟨wi_445, List.forall_mem_cons.mpr ⟨wi_446, List.forall_mem_cons.mpr ⟨wi_447, List.forall_mem_cons.mpr ⟨wi_448, List.forall_mem_cons.mpr ⟨wi_449, List.forall_mem_cons.mpr ⟨wi_450, List.forall_mem_cons.mpr ⟨wi_451, List.forall_mem_cons.mpr ⟨wi_452, List.forall_mem_cons.mpr ⟨wi_453, List.forall_mem_cons.mpr ⟨wi_454, List.forall_mem_cons.mpr ⟨wi_455, (fun _ h => absurd h List.not_mem_nil)⟩⟩⟩⟩⟩⟩⟩⟩⟩⟩⟩⟩⟩⟩⟩⟩⟩⟩⟩⟩⟩⟩⟩⟩
theorem wi_456 : Cond.fieldLink RX8 144 "FactSharesModel" "tail" "I" ∈ lw_tbl := List.mem_of_getElem? (i := 546) (by decide +kernel)
theorem wi_457 : Cond.methodLink RX8 162 yX8_areDone ∈ lw_tbl := List.mem_of_getElem? (i := 690) (by decide +kernel)
theorem wi_458 : Cond.instanceMethod yX8_areDone ∈ lw_tbl := List.mem_of_getElem? (i := 692) (by decide +kernel)
theorem wi_459 : Cond.selects RX8 yX8_areDone yX8_areDone ∈ lw_tbl := List.mem_of_getElem? (i := 22) (by decide +kernel)
theorem wi_460 : Cond.code yX8_areDone cX8_areDone 2 (some .boolean) ∈ lw_tbl := List.mem_of_getElem? (i := 693) (by decide +kernel)
theorem wi_461 : Cond.methodLink RX8 166 yX8_turn ∈ lw_tbl := List.mem_of_getElem? (i := 694) (by decide +kernel)
theorem wi_462 : Cond.instanceMethod yX8_turn ∈ lw_tbl := List.mem_of_getElem? (i := 696) (by decide +kernel)
theorem wi_463 : Cond.selects RX8 yX8_turn yX8_turn ∈ lw_tbl := List.mem_of_getElem? (i := 23) (by decide +kernel)
theorem wi_464 : Cond.code yX8_turn cX8_turn 3 none ∈ lw_tbl := List.mem_of_getElem? (i := 697) (by decide +kernel)
theorem wi_465 : Cond.fieldLink RX8 133 "FactSharesModel" "turns" "I" ∈ lw_tbl := List.mem_of_getElem? (i := 550) (by decide +kernel)
theorem wi_466 : Cond.constant RX8 136 (1103515245) ∈ lw_tbl := List.mem_of_getElem? (i := 698) (by decide +kernel)
theorem wi_467 : Cond.methodLink RX8 137 yX8_workerAt ∈ lw_tbl := List.mem_of_getElem? (i := 699) (by decide +kernel)
theorem wi_468 : Cond.instanceMethod yX8_workerAt ∈ lw_tbl := List.mem_of_getElem? (i := 701) (by decide +kernel)
theorem wi_469 : Cond.selects RX8 yX8_workerAt yX8_workerAt ∈ lw_tbl := List.mem_of_getElem? (i := 24) (by decide +kernel)
theorem wi_470 : Cond.code yX8_workerAt cX8_workerAt 4 (some .int) ∈ lw_tbl := List.mem_of_getElem? (i := 702) (by decide +kernel)
theorem wi_471 : Cond.methodLink RX8 150 yX8_begin ∈ lw_tbl := List.mem_of_getElem? (i := 703) (by decide +kernel)
theorem wi_472 : Cond.instanceMethod yX8_begin ∈ lw_tbl := List.mem_of_getElem? (i := 705) (by decide +kernel)
theorem wi_473 : Cond.selects RX8 yX8_begin yX8_begin ∈ lw_tbl := List.mem_of_getElem? (i := 25) (by decide +kernel)
theorem wi_474 : Cond.code yX8_begin cX8_begin 3 none ∈ lw_tbl := List.mem_of_getElem? (i := 706) (by decide +kernel)
theorem wi_475 : Cond.methodLink RX8 154 yX8_done ∈ lw_tbl := List.mem_of_getElem? (i := 707) (by decide +kernel)
theorem wi_476 : Cond.instanceMethod yX8_done ∈ lw_tbl := List.mem_of_getElem? (i := 709) (by decide +kernel)
theorem wi_477 : Cond.selects RX8 yX8_done yX8_done ∈ lw_tbl := List.mem_of_getElem? (i := 26) (by decide +kernel)
theorem wi_478 : Cond.code yX8_done cX8_done 3 none ∈ lw_tbl := List.mem_of_getElem? (i := 710) (by decide +kernel)
theorem wi_479 : Cond.methodLink RX8 158 yX8_work ∈ lw_tbl := List.mem_of_getElem? (i := 711) (by decide +kernel)
theorem wr_20 : ∀ w ∈ wsL_law_r20, w ∈ lw_tbl := by
  unfold wsL_law_r20
  exact List.forall_mem_cons.mpr ⟨wi_456, List.forall_mem_cons.mpr ⟨wi_457, List.forall_mem_cons.mpr ⟨wi_458, List.forall_mem_cons.mpr ⟨wi_459, List.forall_mem_cons.mpr ⟨wi_460, List.forall_mem_cons.mpr ⟨wi_461, List.forall_mem_cons.mpr ⟨wi_462, List.forall_mem_cons.mpr ⟨wi_463, List.forall_mem_cons.mpr ⟨wi_464, List.forall_mem_cons.mpr ⟨wi_465, List.forall_mem_cons.mpr ⟨wi_466, List.forall_mem_cons.mpr ⟨wi_467, List.forall_mem_cons.mpr ⟨wi_468, List.forall_mem_cons.mpr ⟨wi_469, List.forall_mem_cons.mpr ⟨wi_470, List.forall_mem_cons.mpr ⟨wi_471, List.forall_mem_cons.mpr ⟨wi_472, List.forall_mem_cons.mpr ⟨wi_473, List.forall_mem_cons.mpr ⟨wi_474, List.forall_mem_cons.mpr ⟨wi_475, List.forall_mem_cons.mpr ⟨wi_476, List.forall_mem_cons.mpr ⟨wi_477, List.forall_mem_cons.mpr ⟨wi_478, List.forall_mem_cons.mpr ⟨wi_479, (fun _ h => absurd h List.not_mem_nil)⟩⟩⟩⟩⟩⟩⟩⟩⟩⟩⟩⟩⟩⟩⟩⟩⟩⟩⟩⟩⟩⟩⟩⟩
theorem wi_480 : Cond.instanceMethod yX8_work ∈ lw_tbl := List.mem_of_getElem? (i := 713) (by decide +kernel)
theorem wi_481 : Cond.selects RX8 yX8_work yX8_work ∈ lw_tbl := List.mem_of_getElem? (i := 27) (by decide +kernel)
theorem wi_482 : Cond.code yX8_work cX8_work 8 (some .int) ∈ lw_tbl := List.mem_of_getElem? (i := 714) (by decide +kernel)
theorem wi_483 : Cond.methodLink RX8 115 yX8_push ∈ lw_tbl := List.mem_of_getElem? (i := 715) (by decide +kernel)
theorem wi_484 : Cond.instanceMethod yX8_push ∈ lw_tbl := List.mem_of_getElem? (i := 717) (by decide +kernel)
theorem wi_485 : Cond.selects RX8 yX8_push yX8_push ∈ lw_tbl := List.mem_of_getElem? (i := 28) (by decide +kernel)
theorem wi_486 : Cond.code yX8_push cX8_push 4 (some .int) ∈ lw_tbl := List.mem_of_getElem? (i := 718) (by decide +kernel)
theorem wi_487 : Cond.methodLink RX8 119 yX8_by ∈ lw_tbl := List.mem_of_getElem? (i := 719) (by decide +kernel)
theorem wi_488 : Cond.instanceMethod yX8_by ∈ lw_tbl := List.mem_of_getElem? (i := 721) (by decide +kernel)
theorem wi_489 : Cond.selects RX8 yX8_by yX8_by ∈ lw_tbl := List.mem_of_getElem? (i := 29) (by decide +kernel)
theorem wi_490 : Cond.code yX8_by cX8_by 7 (some .int) ∈ lw_tbl := List.mem_of_getElem? (i := 722) (by decide +kernel)
theorem wi_491 : Cond.methodLink RX8 126 yX8_nearest ∈ lw_tbl := List.mem_of_getElem? (i := 723) (by decide +kernel)
theorem wi_492 : Cond.static yX8_nearest ∈ lw_tbl := List.mem_of_getElem? (i := 724) (by decide +kernel)
theorem wi_493 : Cond.code yX8_nearest cX8_nearest 2 (some .int) ∈ lw_tbl := List.mem_of_getElem? (i := 725) (by decide +kernel)
theorem wi_494 : Cond.constantLong RX8 111 (-1000000) ∈ lw_tbl := List.mem_of_getElem? (i := 726) (by decide +kernel)
theorem wi_495 : Cond.constantLong RX8 113 (1000000) ∈ lw_tbl := List.mem_of_getElem? (i := 727) (by decide +kernel)
theorem wi_496 : Cond.methodLink RX8 123 yX8_both ∈ lw_tbl := List.mem_of_getElem? (i := 728) (by decide +kernel)
theorem wi_497 : Cond.instanceMethod yX8_both ∈ lw_tbl := List.mem_of_getElem? (i := 730) (by decide +kernel)
theorem wi_498 : Cond.selects RX8 yX8_both yX8_both ∈ lw_tbl := List.mem_of_getElem? (i := 30) (by decide +kernel)
theorem wi_499 : Cond.code yX8_both cX8_both 9 (some .int) ∈ lw_tbl := List.mem_of_getElem? (i := 731) (by decide +kernel)
theorem wi_500 : Cond.methodLink RX8 184 yX8_join ∈ lw_tbl := List.mem_of_getElem? (i := 732) (by decide +kernel)
theorem wi_501 : Cond.instanceMethod yX8_join ∈ lw_tbl := List.mem_of_getElem? (i := 734) (by decide +kernel)
theorem wi_502 : Cond.selects RX8 yX8_join yX8_join ∈ lw_tbl := List.mem_of_getElem? (i := 31) (by decide +kernel)
theorem wi_503 : Cond.code yX8_join cX8_join 8 (some .boolean) ∈ lw_tbl := List.mem_of_getElem? (i := 735) (by decide +kernel)
theorem wr_21 : ∀ w ∈ wsL_law_r21, w ∈ lw_tbl := by
  unfold wsL_law_r21
  exact List.forall_mem_cons.mpr ⟨wi_480, List.forall_mem_cons.mpr ⟨wi_481, List.forall_mem_cons.mpr ⟨wi_482, List.forall_mem_cons.mpr ⟨wi_483, List.forall_mem_cons.mpr ⟨wi_484, List.forall_mem_cons.mpr ⟨wi_485, List.forall_mem_cons.mpr ⟨wi_486, List.forall_mem_cons.mpr ⟨wi_487, List.forall_mem_cons.mpr ⟨wi_488, List.forall_mem_cons.mpr ⟨wi_489, List.forall_mem_cons.mpr ⟨wi_490, List.forall_mem_cons.mpr ⟨wi_491, List.forall_mem_cons.mpr ⟨wi_492, List.forall_mem_cons.mpr ⟨wi_493, List.forall_mem_cons.mpr ⟨wi_494, List.forall_mem_cons.mpr ⟨wi_495, List.forall_mem_cons.mpr ⟨wi_496, List.forall_mem_cons.mpr ⟨wi_497, List.forall_mem_cons.mpr ⟨wi_498, List.forall_mem_cons.mpr ⟨wi_499, List.forall_mem_cons.mpr ⟨wi_500, List.forall_mem_cons.mpr ⟨wi_501, List.forall_mem_cons.mpr ⟨wi_502, List.forall_mem_cons.mpr ⟨wi_503, (fun _ h => absurd h List.not_mem_nil)⟩⟩⟩⟩⟩⟩⟩⟩⟩⟩⟩⟩⟩⟩⟩⟩⟩⟩⟩⟩⟩⟩⟩⟩
theorem wi_504 : Cond.methodLink RX8 169 yX8_bound ∈ lw_tbl := List.mem_of_getElem? (i := 736) (by decide +kernel)
theorem wi_505 : Cond.static yX8_bound ∈ lw_tbl := List.mem_of_getElem? (i := 737) (by decide +kernel)
theorem wi_506 : Cond.code yX8_bound cX8_bound 1 (some .int) ∈ lw_tbl := List.mem_of_getElem? (i := 738) (by decide +kernel)
theorem wi_507 : Cond.methodLink RL 53 yX7_told ∈ lw_tbl := List.mem_of_getElem? (i := 504) (by decide +kernel)
theorem wi_508 : Cond.instanceMethod yX7_told ∈ lw_tbl := List.mem_of_getElem? (i := 505) (by decide +kernel)
theorem wi_509 : Cond.selects RX7 yX7_told yX7_told ∈ lw_tbl := List.mem_of_getElem? (i := 506) (by decide +kernel)
theorem wi_510 : Cond.code yX7_told cX7_told 2 (some .int) ∈ lw_tbl := List.mem_of_getElem? (i := 507) (by decide +kernel)
theorem wi_511 : Cond.fieldLink RX7 147 "FactShares$Crew" "latest" "I" ∈ lw_tbl := List.mem_of_getElem? (i := 173) (by decide +kernel)
theorem wi_512 : Cond.methodLink RL 56 yX8_told ∈ lw_tbl := List.mem_of_getElem? (i := 739) (by decide +kernel)
theorem wi_513 : Cond.instanceMethod yX8_told ∈ lw_tbl := List.mem_of_getElem? (i := 740) (by decide +kernel)
theorem wi_514 : Cond.selects RX8 yX8_told yX8_told ∈ lw_tbl := List.mem_of_getElem? (i := 741) (by decide +kernel)
theorem wi_515 : Cond.code yX8_told cX8_told 2 (some .int) ∈ lw_tbl := List.mem_of_getElem? (i := 742) (by decide +kernel)
theorem wi_516 : Cond.methodLink RL 57 yX7_doer ∈ lw_tbl := List.mem_of_getElem? (i := 508) (by decide +kernel)
theorem wi_517 : Cond.instanceMethod yX7_doer ∈ lw_tbl := List.mem_of_getElem? (i := 509) (by decide +kernel)
theorem wi_518 : Cond.selects RX7 yX7_doer yX7_doer ∈ lw_tbl := List.mem_of_getElem? (i := 510) (by decide +kernel)
theorem wi_519 : Cond.code yX7_doer cX7_doer 2 (some .int) ∈ lw_tbl := List.mem_of_getElem? (i := 511) (by decide +kernel)
theorem wi_520 : Cond.methodLink RL 60 yX8_doer ∈ lw_tbl := List.mem_of_getElem? (i := 743) (by decide +kernel)
theorem wi_521 : Cond.instanceMethod yX8_doer ∈ lw_tbl := List.mem_of_getElem? (i := 744) (by decide +kernel)
theorem wi_522 : Cond.selects RX8 yX8_doer yX8_doer ∈ lw_tbl := List.mem_of_getElem? (i := 745) (by decide +kernel)
theorem wi_523 : Cond.code yX8_doer cX8_doer 2 (some .int) ∈ lw_tbl := List.mem_of_getElem? (i := 746) (by decide +kernel)
theorem wi_524 : Cond.methodLink RL 61 yX7_clear ∈ lw_tbl := List.mem_of_getElem? (i := 512) (by decide +kernel)
theorem wi_525 : Cond.instanceMethod yX7_clear ∈ lw_tbl := List.mem_of_getElem? (i := 513) (by decide +kernel)
theorem wi_526 : Cond.selects RX7 yX7_clear yX7_clear ∈ lw_tbl := List.mem_of_getElem? (i := 514) (by decide +kernel)
theorem wi_527 : Cond.code yX7_clear cX7_clear 1 (some .int) ∈ lw_tbl := List.mem_of_getElem? (i := 515) (by decide +kernel)
theorem wr_22 : ∀ w ∈ wsL_law_r22, w ∈ lw_tbl := by
  unfold wsL_law_r22
  exact List.forall_mem_cons.mpr ⟨wi_504, List.forall_mem_cons.mpr ⟨wi_505, List.forall_mem_cons.mpr ⟨wi_506, List.forall_mem_cons.mpr ⟨wi_507, List.forall_mem_cons.mpr ⟨wi_508, List.forall_mem_cons.mpr ⟨wi_509, List.forall_mem_cons.mpr ⟨wi_510, List.forall_mem_cons.mpr ⟨wi_511, List.forall_mem_cons.mpr ⟨wi_512, List.forall_mem_cons.mpr ⟨wi_513, List.forall_mem_cons.mpr ⟨wi_514, List.forall_mem_cons.mpr ⟨wi_515, List.forall_mem_cons.mpr ⟨wi_516, List.forall_mem_cons.mpr ⟨wi_517, List.forall_mem_cons.mpr ⟨wi_518, List.forall_mem_cons.mpr ⟨wi_519, List.forall_mem_cons.mpr ⟨wi_520, List.forall_mem_cons.mpr ⟨wi_521, List.forall_mem_cons.mpr ⟨wi_522, List.forall_mem_cons.mpr ⟨wi_523, List.forall_mem_cons.mpr ⟨wi_524, List.forall_mem_cons.mpr ⟨wi_525, List.forall_mem_cons.mpr ⟨wi_526, List.forall_mem_cons.mpr ⟨wi_527, (fun _ h => absurd h List.not_mem_nil)⟩⟩⟩⟩⟩⟩⟩⟩⟩⟩⟩⟩⟩⟩⟩⟩⟩⟩⟩⟩⟩⟩⟩⟩
theorem wi_528 : Cond.methodLink RX7 153 yX2_forgetAll ∈ lw_tbl := List.mem_of_getElem? (i := 516) (by decide +kernel)
theorem wi_529 : Cond.instanceMethod yX2_forgetAll ∈ lw_tbl := List.mem_of_getElem? (i := 517) (by decide +kernel)
theorem wi_530 : Cond.selects RX2 yX2_forgetAll yX2_forgetAll ∈ lw_tbl := List.mem_of_getElem? (i := 518) (by decide +kernel)
theorem wi_531 : Cond.code yX2_forgetAll cX2_forgetAll 3 (some .int) ∈ lw_tbl := List.mem_of_getElem? (i := 519) (by decide +kernel)
theorem wi_532 : Cond.methodLink RL 65 yX8_clear ∈ lw_tbl := List.mem_of_getElem? (i := 747) (by decide +kernel)
theorem wi_533 : Cond.instanceMethod yX8_clear ∈ lw_tbl := List.mem_of_getElem? (i := 748) (by decide +kernel)
theorem wi_534 : Cond.selects RX8 yX8_clear yX8_clear ∈ lw_tbl := List.mem_of_getElem? (i := 749) (by decide +kernel)
theorem wi_535 : Cond.code yX8_clear cX8_clear 3 (some .int) ∈ lw_tbl := List.mem_of_getElem? (i := 750) (by decide +kernel)
theorem wr_23 : ∀ w ∈ wsL_law_r23, w ∈ lw_tbl := by
  unfold wsL_law_r23
  exact List.forall_mem_cons.mpr ⟨wi_528, List.forall_mem_cons.mpr ⟨wi_529, List.forall_mem_cons.mpr ⟨wi_530, List.forall_mem_cons.mpr ⟨wi_531, List.forall_mem_cons.mpr ⟨wi_532, List.forall_mem_cons.mpr ⟨wi_533, List.forall_mem_cons.mpr ⟨wi_534, List.forall_mem_cons.mpr ⟨wi_535, (fun _ h => absurd h List.not_mem_nil)⟩⟩⟩⟩⟩⟩⟩⟩
theorem wl_0_0 : u_lay RX0 TX0 0 ∈ lw_tbl := List.mem_of_getElem? (i := 120) (by decide +kernel)
theorem wl_0_1 : u_lay RX0 TX0 1 ∈ lw_tbl := List.mem_of_getElem? (i := 122) (by decide +kernel)
theorem wl_0_2 : u_lay RX0 TX0 2 ∈ lw_tbl := List.mem_of_getElem? (i := 124) (by decide +kernel)
theorem wl_0_3 : u_lay RX0 TX0 3 ∈ lw_tbl := List.mem_of_getElem? (i := 126) (by decide +kernel)
theorem wl_0_4 : u_lay RX0 TX0 4 ∈ lw_tbl := List.mem_of_getElem? (i := 128) (by decide +kernel)
theorem wl_0_5 : u_lay RX0 TX0 5 ∈ lw_tbl := List.mem_of_getElem? (i := 130) (by decide +kernel)
theorem wL_0 : ∀ w ∈ wsX00, w ∈ lw_tbl := by
  intro w hw
  obtain ⟨k, hk, rfl⟩ := List.mem_map.mp hw
  have hk := List.mem_range.mp hk
  rcases (show k = 0 ∨ k = 1 ∨ k = 2 ∨ k = 3 ∨ k = 4 ∨ k = 5 by omega) with rfl | rfl | rfl | rfl | rfl | rfl
  · exact wl_0_0
  · exact wl_0_1
  · exact wl_0_2
  · exact wl_0_3
  · exact wl_0_4
  · exact wl_0_5
theorem wl_1_0 : u_lay RX1 TX1 0 ∈ lw_tbl := List.mem_of_getElem? (i := 174) (by decide +kernel)
theorem wl_1_1 : u_lay RX1 TX1 1 ∈ lw_tbl := List.mem_of_getElem? (i := 176) (by decide +kernel)
theorem wl_1_2 : u_lay RX1 TX1 2 ∈ lw_tbl := List.mem_of_getElem? (i := 178) (by decide +kernel)
theorem wl_1_3 : u_lay RX1 TX1 3 ∈ lw_tbl := List.mem_of_getElem? (i := 180) (by decide +kernel)
theorem wl_1_4 : u_lay RX1 TX1 4 ∈ lw_tbl := List.mem_of_getElem? (i := 182) (by decide +kernel)
theorem wL_1 : ∀ w ∈ wsX10, w ∈ lw_tbl := by
  intro w hw
  obtain ⟨k, hk, rfl⟩ := List.mem_map.mp hw
  have hk := List.mem_range.mp hk
  rcases (show k = 0 ∨ k = 1 ∨ k = 2 ∨ k = 3 ∨ k = 4 by omega) with rfl | rfl | rfl | rfl | rfl
  · exact wl_1_0
  · exact wl_1_1
  · exact wl_1_2
  · exact wl_1_3
  · exact wl_1_4
theorem wl_2_0 : u_lay RX2 TX2 0 ∈ lw_tbl := List.mem_of_getElem? (i := 66) (by decide +kernel)
theorem wl_2_1 : u_lay RX2 TX2 1 ∈ lw_tbl := List.mem_of_getElem? (i := 68) (by decide +kernel)
theorem wl_2_2 : u_lay RX2 TX2 2 ∈ lw_tbl := List.mem_of_getElem? (i := 70) (by decide +kernel)
theorem wL_2 : ∀ w ∈ wsX20, w ∈ lw_tbl := by
  intro w hw
  obtain ⟨k, hk, rfl⟩ := List.mem_map.mp hw
  have hk := List.mem_range.mp hk
  rcases (show k = 0 ∨ k = 1 ∨ k = 2 by omega) with rfl | rfl | rfl
  · exact wl_2_0
  · exact wl_2_1
  · exact wl_2_2
theorem wl_3_0 : u_lay RX3 TX3 0 ∈ lw_tbl := List.mem_of_getElem? (i := 87) (by decide +kernel)
theorem wl_3_1 : u_lay RX3 TX3 1 ∈ lw_tbl := List.mem_of_getElem? (i := 89) (by decide +kernel)
theorem wl_3_2 : u_lay RX3 TX3 2 ∈ lw_tbl := List.mem_of_getElem? (i := 91) (by decide +kernel)
theorem wL_3 : ∀ w ∈ wsX30, w ∈ lw_tbl := by
  intro w hw
  obtain ⟨k, hk, rfl⟩ := List.mem_map.mp hw
  have hk := List.mem_range.mp hk
  rcases (show k = 0 ∨ k = 1 ∨ k = 2 by omega) with rfl | rfl | rfl
  · exact wl_3_0
  · exact wl_3_1
  · exact wl_3_2
theorem wl_4_0 : u_lay RX4 TX4 0 ∈ lw_tbl := List.mem_of_getElem? (i := 244) (by decide +kernel)
theorem wl_4_1 : u_lay RX4 TX4 1 ∈ lw_tbl := List.mem_of_getElem? (i := 246) (by decide +kernel)
theorem wl_4_2 : u_lay RX4 TX4 2 ∈ lw_tbl := List.mem_of_getElem? (i := 248) (by decide +kernel)
theorem wl_4_3 : u_lay RX4 TX4 3 ∈ lw_tbl := List.mem_of_getElem? (i := 250) (by decide +kernel)
theorem wl_4_4 : u_lay RX4 TX4 4 ∈ lw_tbl := List.mem_of_getElem? (i := 252) (by decide +kernel)
theorem wl_4_5 : u_lay RX4 TX4 5 ∈ lw_tbl := List.mem_of_getElem? (i := 254) (by decide +kernel)
theorem wl_4_6 : u_lay RX4 TX4 6 ∈ lw_tbl := List.mem_of_getElem? (i := 256) (by decide +kernel)
theorem wl_4_7 : u_lay RX4 TX4 7 ∈ lw_tbl := List.mem_of_getElem? (i := 258) (by decide +kernel)
theorem wl_4_8 : u_lay RX4 TX4 8 ∈ lw_tbl := List.mem_of_getElem? (i := 260) (by decide +kernel)
theorem wL_4 : ∀ w ∈ wsX40, w ∈ lw_tbl := by
  intro w hw
  obtain ⟨k, hk, rfl⟩ := List.mem_map.mp hw
  have hk := List.mem_range.mp hk
  rcases (show k = 0 ∨ k = 1 ∨ k = 2 ∨ k = 3 ∨ k = 4 ∨ k = 5 ∨ k = 6 ∨ k = 7 ∨ k = 8 by omega) with rfl | rfl | rfl | rfl | rfl | rfl | rfl | rfl | rfl
  · exact wl_4_0
  · exact wl_4_1
  · exact wl_4_2
  · exact wl_4_3
  · exact wl_4_4
  · exact wl_4_5
  · exact wl_4_6
  · exact wl_4_7
  · exact wl_4_8
theorem wl_5_0 : u_lay RX5 TX5 0 ∈ lw_tbl := List.mem_of_getElem? (i := 204) (by decide +kernel)
theorem wl_5_1 : u_lay RX5 TX5 1 ∈ lw_tbl := List.mem_of_getElem? (i := 206) (by decide +kernel)
theorem wl_5_2 : u_lay RX5 TX5 2 ∈ lw_tbl := List.mem_of_getElem? (i := 208) (by decide +kernel)
theorem wl_5_3 : u_lay RX5 TX5 3 ∈ lw_tbl := List.mem_of_getElem? (i := 210) (by decide +kernel)
theorem wl_5_4 : u_lay RX5 TX5 4 ∈ lw_tbl := List.mem_of_getElem? (i := 212) (by decide +kernel)
theorem wl_5_5 : u_lay RX5 TX5 5 ∈ lw_tbl := List.mem_of_getElem? (i := 214) (by decide +kernel)
theorem wL_5 : ∀ w ∈ wsX50, w ∈ lw_tbl := by
  intro w hw
  obtain ⟨k, hk, rfl⟩ := List.mem_map.mp hw
  have hk := List.mem_range.mp hk
  rcases (show k = 0 ∨ k = 1 ∨ k = 2 ∨ k = 3 ∨ k = 4 ∨ k = 5 by omega) with rfl | rfl | rfl | rfl | rfl | rfl
  · exact wl_5_0
  · exact wl_5_1
  · exact wl_5_2
  · exact wl_5_3
  · exact wl_5_4
  · exact wl_5_5
theorem wl_6_0 : u_lay RX6 TX6 0 ∈ lw_tbl := List.mem_of_getElem? (i := 147) (by decide +kernel)
theorem wl_6_1 : u_lay RX6 TX6 1 ∈ lw_tbl := List.mem_of_getElem? (i := 149) (by decide +kernel)
theorem wl_6_2 : u_lay RX6 TX6 2 ∈ lw_tbl := List.mem_of_getElem? (i := 151) (by decide +kernel)
theorem wl_6_3 : u_lay RX6 TX6 3 ∈ lw_tbl := List.mem_of_getElem? (i := 153) (by decide +kernel)
theorem wl_6_4 : u_lay RX6 TX6 4 ∈ lw_tbl := List.mem_of_getElem? (i := 155) (by decide +kernel)
theorem wl_6_5 : u_lay RX6 TX6 5 ∈ lw_tbl := List.mem_of_getElem? (i := 157) (by decide +kernel)
theorem wL_6 : ∀ w ∈ wsX60, w ∈ lw_tbl := by
  intro w hw
  obtain ⟨k, hk, rfl⟩ := List.mem_map.mp hw
  have hk := List.mem_range.mp hk
  rcases (show k = 0 ∨ k = 1 ∨ k = 2 ∨ k = 3 ∨ k = 4 ∨ k = 5 by omega) with rfl | rfl | rfl | rfl | rfl | rfl
  · exact wl_6_0
  · exact wl_6_1
  · exact wl_6_2
  · exact wl_6_3
  · exact wl_6_4
  · exact wl_6_5
theorem wl_7_0 : u_lay RX7 TX7 0 ∈ lw_tbl := List.mem_of_getElem? (i := 272) (by decide +kernel)
theorem wl_7_1 : u_lay RX7 TX7 1 ∈ lw_tbl := List.mem_of_getElem? (i := 274) (by decide +kernel)
theorem wl_7_2 : u_lay RX7 TX7 2 ∈ lw_tbl := List.mem_of_getElem? (i := 276) (by decide +kernel)
theorem wl_7_3 : u_lay RX7 TX7 3 ∈ lw_tbl := List.mem_of_getElem? (i := 278) (by decide +kernel)
theorem wl_7_4 : u_lay RX7 TX7 4 ∈ lw_tbl := List.mem_of_getElem? (i := 280) (by decide +kernel)
theorem wl_7_5 : u_lay RX7 TX7 5 ∈ lw_tbl := List.mem_of_getElem? (i := 282) (by decide +kernel)
theorem wl_7_6 : u_lay RX7 TX7 6 ∈ lw_tbl := List.mem_of_getElem? (i := 284) (by decide +kernel)
theorem wl_7_7 : u_lay RX7 TX7 7 ∈ lw_tbl := List.mem_of_getElem? (i := 286) (by decide +kernel)
theorem wl_7_8 : u_lay RX7 TX7 8 ∈ lw_tbl := List.mem_of_getElem? (i := 288) (by decide +kernel)
theorem wL_7 : ∀ w ∈ wsX70, w ∈ lw_tbl := by
  intro w hw
  obtain ⟨k, hk, rfl⟩ := List.mem_map.mp hw
  have hk := List.mem_range.mp hk
  rcases (show k = 0 ∨ k = 1 ∨ k = 2 ∨ k = 3 ∨ k = 4 ∨ k = 5 ∨ k = 6 ∨ k = 7 ∨ k = 8 by omega) with rfl | rfl | rfl | rfl | rfl | rfl | rfl | rfl | rfl
  · exact wl_7_0
  · exact wl_7_1
  · exact wl_7_2
  · exact wl_7_3
  · exact wl_7_4
  · exact wl_7_5
  · exact wl_7_6
  · exact wl_7_7
  · exact wl_7_8
theorem wl_8_0 : u_lay RX8 TX8 0 ∈ lw_tbl := List.mem_of_getElem? (i := 561) (by decide +kernel)
theorem wl_8_1 : u_lay RX8 TX8 1 ∈ lw_tbl := List.mem_of_getElem? (i := 563) (by decide +kernel)
theorem wl_8_2 : u_lay RX8 TX8 2 ∈ lw_tbl := List.mem_of_getElem? (i := 565) (by decide +kernel)
theorem wl_8_3 : u_lay RX8 TX8 3 ∈ lw_tbl := List.mem_of_getElem? (i := 567) (by decide +kernel)
theorem wl_8_4 : u_lay RX8 TX8 4 ∈ lw_tbl := List.mem_of_getElem? (i := 569) (by decide +kernel)
theorem wl_8_5 : u_lay RX8 TX8 5 ∈ lw_tbl := List.mem_of_getElem? (i := 571) (by decide +kernel)
theorem wl_8_6 : u_lay RX8 TX8 6 ∈ lw_tbl := List.mem_of_getElem? (i := 573) (by decide +kernel)
theorem wl_8_7 : u_lay RX8 TX8 7 ∈ lw_tbl := List.mem_of_getElem? (i := 575) (by decide +kernel)
theorem wl_8_8 : u_lay RX8 TX8 8 ∈ lw_tbl := List.mem_of_getElem? (i := 577) (by decide +kernel)
theorem wl_8_9 : u_lay RX8 TX8 9 ∈ lw_tbl := List.mem_of_getElem? (i := 579) (by decide +kernel)
theorem wl_8_10 : u_lay RX8 TX8 10 ∈ lw_tbl := List.mem_of_getElem? (i := 581) (by decide +kernel)
theorem wl_8_11 : u_lay RX8 TX8 11 ∈ lw_tbl := List.mem_of_getElem? (i := 583) (by decide +kernel)
theorem wl_8_12 : u_lay RX8 TX8 12 ∈ lw_tbl := List.mem_of_getElem? (i := 585) (by decide +kernel)
theorem wl_8_13 : u_lay RX8 TX8 13 ∈ lw_tbl := List.mem_of_getElem? (i := 587) (by decide +kernel)
theorem wl_8_14 : u_lay RX8 TX8 14 ∈ lw_tbl := List.mem_of_getElem? (i := 589) (by decide +kernel)
theorem wl_8_15 : u_lay RX8 TX8 15 ∈ lw_tbl := List.mem_of_getElem? (i := 591) (by decide +kernel)
theorem wl_8_16 : u_lay RX8 TX8 16 ∈ lw_tbl := List.mem_of_getElem? (i := 593) (by decide +kernel)
theorem wl_8_17 : u_lay RX8 TX8 17 ∈ lw_tbl := List.mem_of_getElem? (i := 595) (by decide +kernel)
theorem wl_8_18 : u_lay RX8 TX8 18 ∈ lw_tbl := List.mem_of_getElem? (i := 597) (by decide +kernel)
theorem wl_8_19 : u_lay RX8 TX8 19 ∈ lw_tbl := List.mem_of_getElem? (i := 599) (by decide +kernel)
theorem wl_8_20 : u_lay RX8 TX8 20 ∈ lw_tbl := List.mem_of_getElem? (i := 601) (by decide +kernel)
theorem wl_8_21 : u_lay RX8 TX8 21 ∈ lw_tbl := List.mem_of_getElem? (i := 603) (by decide +kernel)
theorem wl_8_22 : u_lay RX8 TX8 22 ∈ lw_tbl := List.mem_of_getElem? (i := 605) (by decide +kernel)
theorem wl_8_23 : u_lay RX8 TX8 23 ∈ lw_tbl := List.mem_of_getElem? (i := 607) (by decide +kernel)
theorem wl_8_24 : u_lay RX8 TX8 24 ∈ lw_tbl := List.mem_of_getElem? (i := 609) (by decide +kernel)
theorem wl_8_25 : u_lay RX8 TX8 25 ∈ lw_tbl := List.mem_of_getElem? (i := 611) (by decide +kernel)
theorem wl_8_26 : u_lay RX8 TX8 26 ∈ lw_tbl := List.mem_of_getElem? (i := 613) (by decide +kernel)
theorem wl_8_27 : u_lay RX8 TX8 27 ∈ lw_tbl := List.mem_of_getElem? (i := 615) (by decide +kernel)
theorem wl_8_28 : u_lay RX8 TX8 28 ∈ lw_tbl := List.mem_of_getElem? (i := 617) (by decide +kernel)
theorem wl_8_29 : u_lay RX8 TX8 29 ∈ lw_tbl := List.mem_of_getElem? (i := 619) (by decide +kernel)
theorem wl_8_30 : u_lay RX8 TX8 30 ∈ lw_tbl := List.mem_of_getElem? (i := 621) (by decide +kernel)
theorem wl_8_31 : u_lay RX8 TX8 31 ∈ lw_tbl := List.mem_of_getElem? (i := 623) (by decide +kernel)
theorem wl_8_32 : u_lay RX8 TX8 32 ∈ lw_tbl := List.mem_of_getElem? (i := 625) (by decide +kernel)
theorem wl_8_33 : u_lay RX8 TX8 33 ∈ lw_tbl := List.mem_of_getElem? (i := 627) (by decide +kernel)
theorem wL_8 : ∀ w ∈ wsX80, w ∈ lw_tbl := by
  intro w hw
  obtain ⟨k, hk, rfl⟩ := List.mem_map.mp hw
  have hk := List.mem_range.mp hk
  rcases (show k = 0 ∨ k = 1 ∨ k = 2 ∨ k = 3 ∨ k = 4 ∨ k = 5 ∨ k = 6 ∨ k = 7 ∨ k = 8 ∨ k = 9 ∨ k = 10 ∨ k = 11 ∨ k = 12 ∨ k = 13 ∨ k = 14 ∨ k = 15 ∨ k = 16 ∨ k = 17 ∨ k = 18 ∨ k = 19 ∨ k = 20 ∨ k = 21 ∨ k = 22 ∨ k = 23 ∨ k = 24 ∨ k = 25 ∨ k = 26 ∨ k = 27 ∨ k = 28 ∨ k = 29 ∨ k = 30 ∨ k = 31 ∨ k = 32 ∨ k = 33 by omega) with rfl | rfl | rfl | rfl | rfl | rfl | rfl | rfl | rfl | rfl | rfl | rfl | rfl | rfl | rfl | rfl | rfl | rfl | rfl | rfl | rfl | rfl | rfl | rfl | rfl | rfl | rfl | rfl | rfl | rfl | rfl | rfl | rfl | rfl
  · exact wl_8_0
  · exact wl_8_1
  · exact wl_8_2
  · exact wl_8_3
  · exact wl_8_4
  · exact wl_8_5
  · exact wl_8_6
  · exact wl_8_7
  · exact wl_8_8
  · exact wl_8_9
  · exact wl_8_10
  · exact wl_8_11
  · exact wl_8_12
  · exact wl_8_13
  · exact wl_8_14
  · exact wl_8_15
  · exact wl_8_16
  · exact wl_8_17
  · exact wl_8_18
  · exact wl_8_19
  · exact wl_8_20
  · exact wl_8_21
  · exact wl_8_22
  · exact wl_8_23
  · exact wl_8_24
  · exact wl_8_25
  · exact wl_8_26
  · exact wl_8_27
  · exact wl_8_28
  · exact wl_8_29
  · exact wl_8_30
  · exact wl_8_31
  · exact wl_8_32
  · exact wl_8_33
theorem wsL_law_in : ∀ w ∈ wsL_law, w ∈ lw_tbl := by
  unfold wsL_law
  exact List.forall_mem_append.mpr ⟨List.forall_mem_append.mpr ⟨List.forall_mem_append.mpr ⟨List.forall_mem_append.mpr ⟨List.forall_mem_append.mpr ⟨List.forall_mem_append.mpr ⟨List.forall_mem_append.mpr ⟨List.forall_mem_append.mpr ⟨List.forall_mem_append.mpr ⟨List.forall_mem_append.mpr ⟨List.forall_mem_append.mpr ⟨wr_1, List.forall_mem_append.mpr ⟨wr_2, List.forall_mem_append.mpr ⟨wr_3, List.forall_mem_append.mpr ⟨wr_4, List.forall_mem_append.mpr ⟨wr_5, List.forall_mem_append.mpr ⟨wr_6, List.forall_mem_append.mpr ⟨wr_7, List.forall_mem_append.mpr ⟨wr_8, List.forall_mem_append.mpr ⟨wr_9, List.forall_mem_append.mpr ⟨wr_10, List.forall_mem_append.mpr ⟨wr_11, List.forall_mem_append.mpr ⟨wr_12, List.forall_mem_append.mpr ⟨wr_13, List.forall_mem_append.mpr ⟨wr_14, List.forall_mem_append.mpr ⟨wr_15, List.forall_mem_append.mpr ⟨wr_16, List.forall_mem_append.mpr ⟨wr_17, List.forall_mem_append.mpr ⟨wr_18, List.forall_mem_append.mpr ⟨wr_19, List.forall_mem_append.mpr ⟨wr_20, List.forall_mem_append.mpr ⟨wr_21, List.forall_mem_append.mpr ⟨wr_22, wr_23⟩⟩⟩⟩⟩⟩⟩⟩⟩⟩⟩⟩⟩⟩⟩⟩⟩⟩⟩⟩⟩⟩, wL_7⟩, wL_8⟩, wL_2⟩, wL_3⟩, wL_1⟩, wL_5⟩, wL_4⟩, wL_6⟩, wL_0⟩, fun _ h => absurd h List.not_mem_nil⟩
theorem wx_ao4 : Cond.arrayOver (.object RX4) ∈ lw_tbl := List.mem_of_getElem? (i := 76) (by decide +kernel)
theorem wx_ao6 : Cond.arrayOver (.object RX6) ∈ lw_tbl := List.mem_of_getElem? (i := 101) (by decide +kernel)
theorem wx_ls : Cond.laysStatic RX2 "BOUNDS" "[I" ∈ lw_tbl := List.mem_of_getElem? (i := 498) (by decide +kernel)
theorem wx_RX0_63 : Cond.methodLinkNest RX0 63 yX7_isFact RX7 ∈ lw_tbl := List.mem_of_getElem? (i := 446) (by decide +kernel)
theorem wx_RX0_76 : Cond.methodLinkNest RX0 76 yX7_nearestEnd RX7 ∈ lw_tbl := List.mem_of_getElem? (i := 451) (by decide +kernel)
theorem wx_RX2_22 : Cond.methodLinkNest RX2 22 yX7_isFact RX7 ∈ lw_tbl := List.mem_of_getElem? (i := 326) (by decide +kernel)
theorem wx_RX7_9 : Cond.methodLinkNest RX7 9 yX2_init RX7 ∈ lw_tbl := List.mem_of_getElem? (i := 53) (by decide +kernel)
theorem wx_RX7_24 : Cond.methodLinkNest RX7 24 yX3_init RX7 ∈ lw_tbl := List.mem_of_getElem? (i := 79) (by decide +kernel)
theorem wx_RX7_38 : Cond.methodLinkNest RX7 38 yX5_init RX7 ∈ lw_tbl := List.mem_of_getElem? (i := 187) (by decide +kernel)
theorem wx_RX7_56 : Cond.methodLinkNest RX7 56 yX4_init RX7 ∈ lw_tbl := List.mem_of_getElem? (i := 218) (by decide +kernel)
theorem wx_RX6_9 : Cond.methodLinkNest RX6 9 yX0_init RX7 ∈ lw_tbl := List.mem_of_getElem? (i := 110) (by decide +kernel)
