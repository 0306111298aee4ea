/-! THE TABLES HOLD: against decode, and against the tables' words by their places -/
theorem sx_all_app {α : Type} {p : α → Bool} {a b : List α} (h1 : a.all p = true) (h2 : b.all p = true) : (a ++ b).all p = true := by rw [List.all_append, h1, h2]; rfl
set_option maxRecDepth 100000 in
theorem sx_d0 : (sx_t0).all (fun q => decide (decode cX1_colourAt q.1 = .ok q.2)) = true := by decide +kernel
set_option maxRecDepth 100000 in
theorem sx_d1 : (sx_t1).all (fun q => decide (decode cX0_repeatsBy q.1 = .ok q.2)) = true := by decide +kernel
set_option maxRecDepth 100000 in
theorem sx_d2 : (sx_t2).all (fun q => decide (decode cX0_leastRepeat q.1 = .ok q.2)) = true := by decide +kernel
set_option maxRecDepth 100000 in
theorem sx_d3 : (sx_t3).all (fun q => decide (decode cX0_readsAlikeBack q.1 = .ok q.2)) = true := by decide +kernel
set_option maxRecDepth 100000 in
theorem sx_d4 : (sx_t4).all (fun q => decide (decode cX0_isBegin q.1 = .ok q.2)) = true := by decide +kernel
set_option maxRecDepth 100000 in
theorem sx_d5 : (sx_t5).all (fun q => decide (decode cX0_countRuns q.1 = .ok q.2)) = true := by decide +kernel
set_option maxRecDepth 100000 in
theorem sx_d6 : (sx_t6).all (fun q => decide (decode cX0_findRun q.1 = .ok q.2)) = true := by decide +kernel
set_option maxRecDepth 100000 in
theorem sx_d7 : (sx_t7).all (fun q => decide (decode cX0_cellsFrom q.1 = .ok q.2)) = true := by decide +kernel
set_option maxRecDepth 100000 in
theorem sx_d8 : (sx_t8).all (fun q => decide (decode cX1_size q.1 = .ok q.2)) = true := by decide +kernel
set_option maxRecDepth 100000 in
theorem sx_d9 : (sx_t9).all (fun q => decide (decode cX1_colourIn q.1 = .ok q.2)) = true := by decide +kernel
set_option maxRecDepth 100000 in
theorem sx_d10 : (sx_t10).all (fun q => decide (decode cX0_countSharedErrors q.1 = .ok q.2)) = true := by decide +kernel
set_option maxRecDepth 100000 in
theorem sx_d11 : (sx_t11).all (fun q => decide (decode cX0_countInStep q.1 = .ok q.2)) = true := by decide +kernel
set_option maxRecDepth 100000 in
theorem sx_d12 : (sx_t12).all (fun q => decide (decode cX0_mostFrequent q.1 = .ok q.2)) = true := by decide +kernel
set_option maxRecDepth 100000 in
theorem sx_d13 : (sx_t13).all (fun q => decide (decode cX4_goThrough q.1 = .ok q.2)) = true := by decide +kernel
set_option maxRecDepth 100000 in
theorem sx_d14 : (sx_t14).all (fun q => decide (decode cX4_goForthAndBack q.1 = .ok q.2)) = true := by decide +kernel
set_option maxRecDepth 100000 in
theorem sx_d15 : (sx_t15).all (fun q => decide (decode cX4_goThroughEven q.1 = .ok q.2)) = true := by decide +kernel
set_option maxRecDepth 100000 in
theorem sx_d16 : (sx_t16).all (fun q => decide (decode cX4_goThroughOdd q.1 = .ok q.2)) = true := by decide +kernel
set_option maxRecDepth 100000 in
theorem sx_d17 : (sx_t17).all (fun q => decide (decode cX4_goTwiceThroughEach q.1 = .ok q.2)) = true := by decide +kernel
set_option maxRecDepth 100000 in
theorem sx_d18 : (sx_t18).all (fun q => decide (decode cX4_init q.1 = .ok q.2)) = true := by decide +kernel
set_option maxRecDepth 100000 in
theorem sx_d19 : (sx_t19).all (fun q => decide (decode cX4_length q.1 = .ok q.2)) = true := by decide +kernel
set_option maxRecDepth 100000 in
theorem sx_d20 : (sx_t20).all (fun q => decide (decode cX4_cellAt q.1 = .ok q.2)) = true := by decide +kernel
set_option maxRecDepth 100000 in
theorem sx_d21 : (sx_t21).all (fun q => decide (decode cX1_passesOf q.1 = .ok q.2)) = true := by decide +kernel
set_option maxRecDepth 100000 in
theorem sx_d22 : (sx_t22).all (fun q => decide (decode cX1_setPasses q.1 = .ok q.2)) = true := by decide +kernel
set_option maxRecDepth 100000 in
theorem sx_d23 : (sx_t23).all (fun q => decide (decode cX1_init q.1 = .ok q.2)) = true := by decide +kernel
set_option maxRecDepth 100000 in
theorem sx_d24 : (sx_t24).all (fun q => decide (decode cX1_isLike q.1 = .ok q.2)) = true := by decide +kernel
set_option maxRecDepth 100000 in
theorem sx_d25 : (sx_t25).all (fun q => decide (decode cX1_hasPlace q.1 = .ok q.2)) = true := by decide +kernel
set_option maxRecDepth 100000 in
theorem sx_d26 : (sx_t26).all (fun q => decide (decode cX1_cellOf q.1 = .ok q.2)) = true := by decide +kernel
set_option maxRecDepth 100000 in
theorem sx_d27 : (sx_t27).all (fun q => decide (decode cX1_kindIn q.1 = .ok q.2)) = true := by decide +kernel
set_option maxRecDepth 100000 in
theorem sx_d28 : (sx_t28).all (fun q => decide (decode cX3_has q.1 = .ok q.2)) = true := by decide +kernel
set_option maxRecDepth 100000 in
theorem sx_d29 : (sx_t29).all (fun q => decide (decode cX3_colourOf q.1 = .ok q.2)) = true := by decide +kernel
set_option maxRecDepth 100000 in
theorem sx_d30 : (sx_t30).all (fun q => decide (decode cX1_put q.1 = .ok q.2)) = true := by decide +kernel
set_option maxRecDepth 100000 in
theorem sx_d31 : (sx_t31).all (fun q => decide (decode cX1_countOf q.1 = .ok q.2)) = true := by decide +kernel
set_option maxRecDepth 100000 in
theorem sx_d32 : (sx_t32).all (fun q => decide (decode cX3_widthOf q.1 = .ok q.2)) = true := by decide +kernel
set_option maxRecDepth 100000 in
theorem sx_d33 : (sx_t33).all (fun q => decide (decode cX1_widthOfRow q.1 = .ok q.2)) = true := by decide +kernel
set_option maxRecDepth 100000 in
theorem sx_d34 : (sx_t34).all (fun q => decide (decode cX1_hasEmptyWithin q.1 = .ok q.2)) = true := by decide +kernel
set_option maxRecDepth 100000 in
theorem sx_d35 : (sx_t35).all (fun q => decide (decode cJ9_floorMod_7cf53 q.1 = .ok q.2)) = true := by decide +kernel
set_option maxRecDepth 100000 in
theorem sx_d36 : (sx_t36).all (fun q => decide (decode cX1_spread q.1 = .ok q.2)) = true := by decide +kernel
set_option maxRecDepth 100000 in
theorem sx_d37 : (sx_t37).all (fun q => decide (decode cX3_holeOf q.1 = .ok q.2)) = true := by decide +kernel
set_option maxRecDepth 100000 in
theorem sx_d38 : (sx_t38).all (fun q => decide (decode cX1_isPassedTooOften q.1 = .ok q.2)) = true := by decide +kernel
set_option maxRecDepth 100000 in
theorem sx_d39 : (sx_t39).all (fun q => decide (decode cX1_holdsTogether q.1 = .ok q.2)) = true := by decide +kernel
set_option maxRecDepth 100000 in
theorem sx_d40 : (sx_t40).all (fun q => decide (decode cX2_init q.1 = .ok q.2)) = true := by decide +kernel
set_option maxRecDepth 100000 in
theorem sx_d41 : (sx_t41).all (fun q => decide (decode cX2_findEmpties q.1 = .ok q.2)) = true := by decide +kernel
set_option maxRecDepth 100000 in
theorem sx_d42 : (sx_t42).all (fun q => decide (decode cX5_isThree q.1 = .ok q.2)) = true := by decide +kernel
set_option maxRecDepth 100000 in
theorem sx_d43 : (sx_t43).all (fun q => decide (decode cX5_leavesFrame q.1 = .ok q.2)) = true := by decide +kernel
set_option maxRecDepth 100000 in
theorem sx_d44 : (sx_t44).all (fun q => decide (decode cX8_areNeighbours q.1 = .ok q.2)) = true := by decide +kernel
set_option maxRecDepth 100000 in
theorem sx_d45 : (sx_t45).all (fun q => decide (decode cX8_isSlant q.1 = .ok q.2)) = true := by decide +kernel
set_option maxRecDepth 100000 in
theorem sx_d46 : (sx_t46).all (fun q => decide (decode cX5_countTwos q.1 = .ok q.2)) = true := by decide +kernel
set_option maxRecDepth 100000 in
theorem sx_d47 : (sx_t47).all (fun q => decide (decode cX5_countBreaches q.1 = .ok q.2)) = true := by decide +kernel
set_option maxRecDepth 100000 in
theorem sx_d48 : (sx_t48).all (fun q => decide (decode cX5_countOwnBreaches q.1 = .ok q.2)) = true := by decide +kernel
set_option maxRecDepth 100000 in
theorem sx_d49 : (sx_t49).all (fun q => decide (decode cX5_isBrokenAt q.1 = .ok q.2)) = true := by decide +kernel
set_option maxRecDepth 100000 in
theorem sx_d50 : (sx_t50).all (fun q => decide (decode cX2_tryNext q.1 = .ok q.2)) = true := by decide +kernel
set_option maxRecDepth 100000 in
theorem sx_d51 : (sx_t51).all (fun q => decide (decode cX2_tryWays q.1 = .ok q.2)) = true := by decide +kernel
set_option maxRecDepth 100000 in
theorem sx_d52 : (sx_t52).all (fun q => decide (decode cX3_init q.1 = .ok q.2)) = true := by decide +kernel
set_option maxRecDepth 100000 in
theorem sx_d53 : (sx_t53).all (fun q => decide (decode cX3_size q.1 = .ok q.2)) = true := by decide +kernel
set_option maxRecDepth 100000 in
theorem sx_d54 : (sx_t54).all (fun q => decide (decode cX3_isFull q.1 = .ok q.2)) = true := by decide +kernel
set_option maxRecDepth 100000 in
theorem sx_d55 : (sx_t55).all (fun q => decide (decode cX3_put q.1 = .ok q.2)) = true := by decide +kernel
set_option maxRecDepth 100000 in
theorem sx_d56 : (sx_t56).all (fun q => decide (decode cX3_stockOf q.1 = .ok q.2)) = true := by decide +kernel
set_option maxRecDepth 100000 in
theorem sx_d57 : (sx_t57).all (fun q => decide (decode cX3_wholeStock q.1 = .ok q.2)) = true := by decide +kernel
set_option maxRecDepth 100000 in
theorem sx_d58 : (sx_t58).all (fun q => decide (decode cX5_isOne q.1 = .ok q.2)) = true := by decide +kernel
set_option maxRecDepth 100000 in
theorem sx_d59 : (sx_t59).all (fun q => decide (decode cX7_init q.1 = .ok q.2)) = true := by decide +kernel
set_option maxRecDepth 100000 in
theorem sx_d60 : (sx_t60).all (fun q => decide (decode cX7_size q.1 = .ok q.2)) = true := by decide +kernel
set_option maxRecDepth 100000 in
theorem sx_d61 : (sx_t61).all (fun q => decide (decode cX8_isStitch q.1 = .ok q.2)) = true := by decide +kernel
set_option maxRecDepth 100000 in
theorem sx_d62 : (sx_t62).all (fun q => decide (decode cX9_init q.1 = .ok q.2)) = true := by decide +kernel
set_option maxRecDepth 100000 in
theorem sx_d63 : (sx_t63).all (fun q => decide (decode cX9_has q.1 = .ok q.2)) = true := by decide +kernel
set_option maxRecDepth 100000 in
theorem sx_d64 : (sx_t64).all (fun q => decide (decode cX9_wordFor q.1 = .ok q.2)) = true := by decide +kernel
set_option maxRecDepth 100000 in
theorem sx_d65 : (sx_t65).all (fun q => decide (decode cX10_init q.1 = .ok q.2)) = true := by decide +kernel
set_option maxRecDepth 100000 in
theorem sx_d66 : (sx_t66).all (fun q => decide (decode cX10_requireRange q.1 = .ok q.2)) = true := by decide +kernel
set_option maxRecDepth 100000 in
theorem sx_d67 : (sx_t67).all (fun q => decide (decode cX10_addKind q.1 = .ok q.2)) = true := by decide +kernel
set_option maxRecDepth 100000 in
theorem sx_d68 : (sx_t68).all (fun q => decide (decode cX10_thread q.1 = .ok q.2)) = true := by decide +kernel
set_option maxRecDepth 100000 in
theorem sx_d69 : (sx_t69).all (fun q => decide (decode cX10_addCloth q.1 = .ok q.2)) = true := by decide +kernel
set_option maxRecDepth 100000 in
theorem sx_d70 : (sx_t70).all (fun q => decide (decode cX10_clothOf q.1 = .ok q.2)) = true := by decide +kernel
set_option maxRecDepth 100000 in
theorem sx_d71 : (sx_t71).all (fun q => decide (decode cX10_requirePlace q.1 = .ok q.2)) = true := by decide +kernel
set_option maxRecDepth 100000 in
theorem sx_d72 : (sx_t72).all (fun q => decide (decode cX10_requireKind q.1 = .ok q.2)) = true := by decide +kernel
set_option maxRecDepth 100000 in
theorem sx_d73 : (sx_t73).all (fun q => decide (decode cX10_requireDrawn q.1 = .ok q.2)) = true := by decide +kernel
set_option maxRecDepth 100000 in
theorem sx_d74 : (sx_t74).all (fun q => decide (decode cX10_draw q.1 = .ok q.2)) = true := by decide +kernel
set_option maxRecDepth 100000 in
theorem sx_d75 : (sx_t75).all (fun q => decide (decode cX10_kindAt q.1 = .ok q.2)) = true := by decide +kernel
set_option maxRecDepth 100000 in
theorem sx_d76 : (sx_t76).all (fun q => decide (decode cX10_motif q.1 = .ok q.2)) = true := by decide +kernel
set_option maxRecDepth 100000 in
theorem sx_d77 : (sx_t77).all (fun q => decide (decode cX10_setRules q.1 = .ok q.2)) = true := by decide +kernel
set_option maxRecDepth 100000 in
theorem sx_d78 : (sx_t78).all (fun q => decide (decode cX10_broken q.1 = .ok q.2)) = true := by decide +kernel
set_option maxRecDepth 100000 in
theorem sx_d79 : (sx_t79).all (fun q => decide (decode cX10_requireFillable q.1 = .ok q.2)) = true := by decide +kernel
set_option maxRecDepth 100000 in
theorem sx_d80 : (sx_t80).all (fun q => decide (decode cX10_ways q.1 = .ok q.2)) = true := by decide +kernel
set_option maxRecDepth 100000 in
theorem sx_d81 : (sx_t81).all (fun q => decide (decode cX10_fill q.1 = .ok q.2)) = true := by decide +kernel
set_option maxRecDepth 100000 in
theorem sx_d82 : (sx_t82).all (fun q => decide (decode cX10_requireFull q.1 = .ok q.2)) = true := by decide +kernel
set_option maxRecDepth 100000 in
theorem sx_d83 : (sx_t83).all (fun q => decide (decode cX10_repeat q.1 = .ok q.2)) = true := by decide +kernel
set_option maxRecDepth 100000 in
theorem sx_d84 : (sx_t84).all (fun q => decide (decode cX10_isMirrored q.1 = .ok q.2)) = true := by decide +kernel
set_option maxRecDepth 100000 in
theorem sx_d85 : (sx_t85).all (fun q => decide (decode cX10_requireRow q.1 = .ok q.2)) = true := by decide +kernel
set_option maxRecDepth 100000 in
theorem sx_d86 : (sx_t86).all (fun q => decide (decode cX10_rowWidth q.1 = .ok q.2)) = true := by decide +kernel
set_option maxRecDepth 100000 in
theorem sx_d87 : (sx_t87).all (fun q => decide (decode cX10_runs q.1 = .ok q.2)) = true := by decide +kernel
set_option maxRecDepth 100000 in
theorem sx_d88 : (sx_t88).all (fun q => decide (decode cX10_beginOfRun q.1 = .ok q.2)) = true := by decide +kernel
set_option maxRecDepth 100000 in
theorem sx_d89 : (sx_t89).all (fun q => decide (decode cX10_runLength q.1 = .ok q.2)) = true := by decide +kernel
set_option maxRecDepth 100000 in
theorem sx_d90 : (sx_t90).all (fun q => decide (decode cX10_runColour q.1 = .ok q.2)) = true := by decide +kernel
set_option maxRecDepth 100000 in
theorem sx_d91 : (sx_t91).all (fun q => decide (decode cX10_runWord q.1 = .ok q.2)) = true := by decide +kernel
set_option maxRecDepth 100000 in
theorem sx_d92 : (sx_t92).all (fun q => decide (decode cX10_shared q.1 = .ok q.2)) = true := by decide +kernel
set_option maxRecDepth 100000 in
theorem sx_d93 : (sx_t93).all (fun q => decide (decode cX10_guess q.1 = .ok q.2)) = true := by decide +kernel
set_option maxRecDepth 100000 in
theorem sx_d94 : (sx_t94).all (fun q => decide (decode cX10_beadsInCloths q.1 = .ok q.2)) = true := by decide +kernel
set_option maxRecDepth 100000 in
theorem sx_d95 : (sx_t95).all (fun q => decide (decode cX10_isSound q.1 = .ok q.2)) = true := by decide +kernel
set_option maxRecDepth 100000 in
theorem sx_d96 : (sx_t96).all (fun q => decide (decode cJ9_max_7cf53 q.1 = .ok q.2)) = true := by decide +kernel
set_option maxRecDepth 100000 in
theorem sx_d97 : (sx_t97).all (fun q => decide (decode cL_cell q.1 = .ok q.2)) = true := by decide +kernel
set_option maxRecDepth 100000 in
theorem sx_d98 : (sx_t98).all (fun q => decide (decode cL_addKind q.1 = .ok q.2)) = true := by decide +kernel
set_option maxRecDepth 100000 in
theorem sx_d99 : (sx_t99).all (fun q => decide (decode cL_thread q.1 = .ok q.2)) = true := by decide +kernel
set_option maxRecDepth 100000 in
theorem sx_d100 : (sx_t100).all (fun q => decide (decode cL_addCloth q.1 = .ok q.2)) = true := by decide +kernel
set_option maxRecDepth 100000 in
theorem sx_d101 : (sx_t101).all (fun q => decide (decode cL_draw q.1 = .ok q.2)) = true := by decide +kernel
set_option maxRecDepth 100000 in
theorem sx_d102 : (sx_t102).all (fun q => decide (decode cL_kindAt q.1 = .ok q.2)) = true := by decide +kernel
set_option maxRecDepth 100000 in
theorem sx_d103 : (sx_t103).all (fun q => decide (decode cL_motif q.1 = .ok q.2)) = true := by decide +kernel
set_option maxRecDepth 100000 in
theorem sx_d104 : (sx_t104).all (fun q => decide (decode cL_setRules q.1 = .ok q.2)) = true := by decide +kernel
set_option maxRecDepth 100000 in
theorem sx_d105 : (sx_t105).all (fun q => decide (decode cL_broken q.1 = .ok q.2)) = true := by decide +kernel
set_option maxRecDepth 100000 in
theorem sx_d106 : (sx_t106).all (fun q => decide (decode cL_ways q.1 = .ok q.2)) = true := by decide +kernel
set_option maxRecDepth 100000 in
theorem sx_d107 : (sx_t107).all (fun q => decide (decode cL_fill q.1 = .ok q.2)) = true := by decide +kernel
set_option maxRecDepth 100000 in
theorem sx_d108 : (sx_t108).all (fun q => decide (decode cL_repeat q.1 = .ok q.2)) = true := by decide +kernel
set_option maxRecDepth 100000 in
theorem sx_d109 : (sx_t109).all (fun q => decide (decode cL_rowWidth q.1 = .ok q.2)) = true := by decide +kernel
set_option maxRecDepth 100000 in
theorem sx_d110 : (sx_t110).all (fun q => decide (decode cL_runs q.1 = .ok q.2)) = true := by decide +kernel
set_option maxRecDepth 100000 in
theorem sx_d111 : (sx_t111).all (fun q => decide (decode cL_runLength q.1 = .ok q.2)) = true := by decide +kernel
set_option maxRecDepth 100000 in
theorem sx_d112 : (sx_t112).all (fun q => decide (decode cL_runColour q.1 = .ok q.2)) = true := by decide +kernel
set_option maxRecDepth 100000 in
theorem sx_d113 : (sx_t113).all (fun q => decide (decode cL_runWord q.1 = .ok q.2)) = true := by decide +kernel
set_option maxRecDepth 100000 in
theorem sx_d114 : (sx_t114).all (fun q => decide (decode cL_shared q.1 = .ok q.2)) = true := by decide +kernel
set_option maxRecDepth 100000 in
theorem sx_d115 : (sx_t115).all (fun q => decide (decode cL_guess q.1 = .ok q.2)) = true := by decide +kernel
set_option maxRecDepth 100000 in
theorem sx_d116 : (sx_t116).all (fun q => decide (decode cL_isMirrored q.1 = .ok q.2)) = true := by decide +kernel
set_option maxRecDepth 100000 in
theorem sx_d117 : (sx_t117).all (fun q => decide (decode cL_in q.1 = .ok q.2)) = true := by decide +kernel
set_option maxRecDepth 100000 in
theorem sx_d118 : (sx_t118).all (fun q => decide (decode cL_makes q.1 = .ok q.2)) = true := by decide +kernel
set_option maxRecDepth 100000 in
theorem sx_d119 : (sx_t119).all (fun q => decide (decode cL_areNeighbours q.1 = .ok q.2)) = true := by decide +kernel
set_option maxRecDepth 100000 in
theorem sx_d120_0 : (sx_t120_0).all (fun q => decide (decode cL_broken_ q.1 = .ok q.2)) = true := by decide +kernel
set_option maxRecDepth 100000 in
theorem sx_d120_1 : (sx_t120_1).all (fun q => decide (decode cL_broken_ q.1 = .ok q.2)) = true := by decide +kernel
set_option maxRecDepth 100000 in
theorem sx_d120_2 : (sx_t120_2).all (fun q => decide (decode cL_broken_ q.1 = .ok q.2)) = true := by decide +kernel
set_option maxRecDepth 100000 in
theorem sx_d120_3 : (sx_t120_3).all (fun q => decide (decode cL_broken_ q.1 = .ok q.2)) = true := by decide +kernel
theorem sx_d120 : (sx_t120).all (fun q => decide (decode cL_broken_ q.1 = .ok q.2)) = true := sx_all_app sx_d120_0 (sx_all_app sx_d120_1 (sx_all_app sx_d120_2 (sx_d120_3)))
set_option maxRecDepth 100000 in
theorem sx_d121_0 : (sx_t121_0).all (fun q => decide (decode cL_law q.1 = .ok q.2)) = true := by decide +kernel
set_option maxRecDepth 100000 in
theorem sx_d121_1 : (sx_t121_1).all (fun q => decide (decode cL_law q.1 = .ok q.2)) = true := by decide +kernel
set_option maxRecDepth 100000 in
theorem sx_d121_2 : (sx_t121_2).all (fun q => decide (decode cL_law q.1 = .ok q.2)) = true := by decide +kernel
set_option maxRecDepth 100000 in
theorem sx_d121_3 : (sx_t121_3).all (fun q => decide (decode cL_law q.1 = .ok q.2)) = true := by decide +kernel
set_option maxRecDepth 100000 in
theorem sx_d121_4 : (sx_t121_4).all (fun q => decide (decode cL_law q.1 = .ok q.2)) = true := by decide +kernel
set_option maxRecDepth 100000 in
theorem sx_d121_5 : (sx_t121_5).all (fun q => decide (decode cL_law q.1 = .ok q.2)) = true := by decide +kernel
set_option maxRecDepth 100000 in
theorem sx_d121_6 : (sx_t121_6).all (fun q => decide (decode cL_law q.1 = .ok q.2)) = true := by decide +kernel
set_option maxRecDepth 100000 in
theorem sx_d121_7 : (sx_t121_7).all (fun q => decide (decode cL_law q.1 = .ok q.2)) = true := by decide +kernel
set_option maxRecDepth 100000 in
theorem sx_d121_8 : (sx_t121_8).all (fun q => decide (decode cL_law q.1 = .ok q.2)) = true := by decide +kernel
set_option maxRecDepth 100000 in
theorem sx_d121_9 : (sx_t121_9).all (fun q => decide (decode cL_law q.1 = .ok q.2)) = true := by decide +kernel
set_option maxRecDepth 100000 in
theorem sx_d121_10 : (sx_t121_10).all (fun q => decide (decode cL_law q.1 = .ok q.2)) = true := by decide +kernel
set_option maxRecDepth 100000 in
theorem sx_d121_11 : (sx_t121_11).all (fun q => decide (decode cL_law q.1 = .ok q.2)) = true := by decide +kernel
set_option maxRecDepth 100000 in
theorem sx_d121_12 : (sx_t121_12).all (fun q => decide (decode cL_law q.1 = .ok q.2)) = true := by decide +kernel
set_option maxRecDepth 100000 in
theorem sx_d121_13 : (sx_t121_13).all (fun q => decide (decode cL_law q.1 = .ok q.2)) = true := by decide +kernel
set_option maxRecDepth 100000 in
theorem sx_d121_14 : (sx_t121_14).all (fun q => decide (decode cL_law q.1 = .ok q.2)) = true := by decide +kernel
set_option maxRecDepth 100000 in
theorem sx_d121_15 : (sx_t121_15).all (fun q => decide (decode cL_law q.1 = .ok q.2)) = true := by decide +kernel
set_option maxRecDepth 100000 in
theorem sx_d121_16 : (sx_t121_16).all (fun q => decide (decode cL_law q.1 = .ok q.2)) = true := by decide +kernel
set_option maxRecDepth 100000 in
theorem sx_d121_17 : (sx_t121_17).all (fun q => decide (decode cL_law q.1 = .ok q.2)) = true := by decide +kernel
set_option maxRecDepth 100000 in
theorem sx_d121_18 : (sx_t121_18).all (fun q => decide (decode cL_law q.1 = .ok q.2)) = true := by decide +kernel
set_option maxRecDepth 100000 in
theorem sx_d121_19 : (sx_t121_19).all (fun q => decide (decode cL_law q.1 = .ok q.2)) = true := by decide +kernel
set_option maxRecDepth 100000 in
theorem sx_d121_20 : (sx_t121_20).all (fun q => decide (decode cL_law q.1 = .ok q.2)) = true := by decide +kernel
theorem sx_d121 : (sx_t121).all (fun q => decide (decode cL_law q.1 = .ok q.2)) = true := sx_all_app sx_d121_0 (sx_all_app sx_d121_1 (sx_all_app sx_d121_2 (sx_all_app sx_d121_3 (sx_all_app sx_d121_4 (sx_all_app sx_d121_5 (sx_all_app sx_d121_6 (sx_all_app sx_d121_7 (sx_all_app sx_d121_8 (sx_all_app sx_d121_9 (sx_all_app sx_d121_10 (sx_all_app sx_d121_11 (sx_all_app sx_d121_12 (sx_all_app sx_d121_13 (sx_all_app sx_d121_14 (sx_all_app sx_d121_15 (sx_all_app sx_d121_16 (sx_all_app sx_d121_17 (sx_all_app sx_d121_18 (sx_all_app sx_d121_19 (sx_d121_20))))))))))))))))))))
theorem sx_dz : ∀ q ∈ sx_tz, q.1.all (fun z => decide (decode q.2 z.1 = .ok z.2)) = true := List.forall_mem_cons.mpr ⟨sx_d0, List.forall_mem_cons.mpr ⟨sx_d1, List.forall_mem_cons.mpr ⟨sx_d2, List.forall_mem_cons.mpr ⟨sx_d3, List.forall_mem_cons.mpr ⟨sx_d4, List.forall_mem_cons.mpr ⟨sx_d5, List.forall_mem_cons.mpr ⟨sx_d6, List.forall_mem_cons.mpr ⟨sx_d7, List.forall_mem_cons.mpr ⟨sx_d8, List.forall_mem_cons.mpr ⟨sx_d9, List.forall_mem_cons.mpr ⟨sx_d10, List.forall_mem_cons.mpr ⟨sx_d11, List.forall_mem_cons.mpr ⟨sx_d12, List.forall_mem_cons.mpr ⟨sx_d13, List.forall_mem_cons.mpr ⟨sx_d14, List.forall_mem_cons.mpr ⟨sx_d15, List.forall_mem_cons.mpr ⟨sx_d16, List.forall_mem_cons.mpr ⟨sx_d17, List.forall_mem_cons.mpr ⟨sx_d18, List.forall_mem_cons.mpr ⟨sx_d19, List.forall_mem_cons.mpr ⟨sx_d20, List.forall_mem_cons.mpr ⟨sx_d21, List.forall_mem_cons.mpr ⟨sx_d22, List.forall_mem_cons.mpr ⟨sx_d23, List.forall_mem_cons.mpr ⟨sx_d24, List.forall_mem_cons.mpr ⟨sx_d25, List.forall_mem_cons.mpr ⟨sx_d26, List.forall_mem_cons.mpr ⟨sx_d27, List.forall_mem_cons.mpr ⟨sx_d28, List.forall_mem_cons.mpr ⟨sx_d29, List.forall_mem_cons.mpr ⟨sx_d30, List.forall_mem_cons.mpr ⟨sx_d31, List.forall_mem_cons.mpr ⟨sx_d32, List.forall_mem_cons.mpr ⟨sx_d33, List.forall_mem_cons.mpr ⟨sx_d34, List.forall_mem_cons.mpr ⟨sx_d35, List.forall_mem_cons.mpr ⟨sx_d36, List.forall_mem_cons.mpr ⟨sx_d37, List.forall_mem_cons.mpr ⟨sx_d38, List.forall_mem_cons.mpr ⟨sx_d39, List.forall_mem_cons.mpr ⟨sx_d40, List.forall_mem_cons.mpr ⟨sx_d41, List.forall_mem_cons.mpr ⟨sx_d42, List.forall_mem_cons.mpr ⟨sx_d43, List.forall_mem_cons.mpr ⟨sx_d44, List.forall_mem_cons.mpr ⟨sx_d45, List.forall_mem_cons.mpr ⟨sx_d46, List.forall_mem_cons.mpr ⟨sx_d47, List.forall_mem_cons.mpr ⟨sx_d48, List.forall_mem_cons.mpr ⟨sx_d49, List.forall_mem_cons.mpr ⟨sx_d50, List.forall_mem_cons.mpr ⟨sx_d51, List.forall_mem_cons.mpr ⟨sx_d52, List.forall_mem_cons.mpr ⟨sx_d53, List.forall_mem_cons.mpr ⟨sx_d54, List.forall_mem_cons.mpr ⟨sx_d55, List.forall_mem_cons.mpr ⟨sx_d56, List.forall_mem_cons.mpr ⟨sx_d57, List.forall_mem_cons.mpr ⟨sx_d58, List.forall_mem_cons.mpr ⟨sx_d59, List.forall_mem_cons.mpr ⟨sx_d60, List.forall_mem_cons.mpr ⟨sx_d61, List.forall_mem_cons.mpr ⟨sx_d62, List.forall_mem_cons.mpr ⟨sx_d63, List.forall_mem_cons.mpr ⟨sx_d64, List.forall_mem_cons.mpr ⟨sx_d65, List.forall_mem_cons.mpr ⟨sx_d66, List.forall_mem_cons.mpr ⟨sx_d67, List.forall_mem_cons.mpr ⟨sx_d68, List.forall_mem_cons.mpr ⟨sx_d69, List.forall_mem_cons.mpr ⟨sx_d70, List.forall_mem_cons.mpr ⟨sx_d71, List.forall_mem_cons.mpr ⟨sx_d72, List.forall_mem_cons.mpr ⟨sx_d73, List.forall_mem_cons.mpr ⟨sx_d74, List.forall_mem_cons.mpr ⟨sx_d75, List.forall_mem_cons.mpr ⟨sx_d76, List.forall_mem_cons.mpr ⟨sx_d77, List.forall_mem_cons.mpr ⟨sx_d78, List.forall_mem_cons.mpr ⟨sx_d79, List.forall_mem_cons.mpr ⟨sx_d80, List.forall_mem_cons.mpr ⟨sx_d81, List.forall_mem_cons.mpr ⟨sx_d82, List.forall_mem_cons.mpr ⟨sx_d83, List.forall_mem_cons.mpr ⟨sx_d84, List.forall_mem_cons.mpr ⟨sx_d85, List.forall_mem_cons.mpr ⟨sx_d86, List.forall_mem_cons.mpr ⟨sx_d87, List.forall_mem_cons.mpr ⟨sx_d88, List.forall_mem_cons.mpr ⟨sx_d89, List.forall_mem_cons.mpr ⟨sx_d90, List.forall_mem_cons.mpr ⟨sx_d91, List.forall_mem_cons.mpr ⟨sx_d92, List.forall_mem_cons.mpr ⟨sx_d93, List.forall_mem_cons.mpr ⟨sx_d94, List.forall_mem_cons.mpr ⟨sx_d95, List.forall_mem_cons.mpr ⟨sx_d96, List.forall_mem_cons.mpr ⟨sx_d97, List.forall_mem_cons.mpr ⟨sx_d98, List.forall_mem_cons.mpr ⟨sx_d99, List.forall_mem_cons.mpr ⟨sx_d100, List.forall_mem_cons.mpr ⟨sx_d101, List.forall_mem_cons.mpr ⟨sx_d102, List.forall_mem_cons.mpr ⟨sx_d103, List.forall_mem_cons.mpr ⟨sx_d104, List.forall_mem_cons.mpr ⟨sx_d105, List.forall_mem_cons.mpr ⟨sx_d106, List.forall_mem_cons.mpr ⟨sx_d107, List.forall_mem_cons.mpr ⟨sx_d108, List.forall_mem_cons.mpr ⟨sx_d109, List.forall_mem_cons.mpr ⟨sx_d110, List.forall_mem_cons.mpr ⟨sx_d111, List.forall_mem_cons.mpr ⟨sx_d112, List.forall_mem_cons.mpr ⟨sx_d113, List.forall_mem_cons.mpr ⟨sx_d114, List.forall_mem_cons.mpr ⟨sx_d115, List.forall_mem_cons.mpr ⟨sx_d116, List.forall_mem_cons.mpr ⟨sx_d117, List.forall_mem_cons.mpr ⟨sx_d118, List.forall_mem_cons.mpr ⟨sx_d119, List.forall_mem_cons.mpr ⟨sx_d120, List.forall_mem_cons.mpr ⟨sx_d121, fun _ h => absurd h List.not_mem_nil⟩⟩⟩⟩⟩⟩⟩⟩⟩⟩⟩⟩⟩⟩⟩⟩⟩⟩⟩⟩⟩⟩⟩⟩⟩⟩⟩⟩⟩⟩⟩⟩⟩⟩⟩⟩⟩⟩⟩⟩⟩⟩⟩⟩⟩⟩⟩⟩⟩⟩⟩⟩⟩⟩⟩⟩⟩⟩⟩⟩⟩⟩⟩⟩⟩⟩⟩⟩⟩⟩⟩⟩⟩⟩⟩⟩⟩⟩⟩⟩⟩⟩⟩⟩⟩⟩⟩⟩⟩⟩⟩⟩⟩⟩⟩⟩⟩⟩⟩⟩⟩⟩⟩⟩⟩⟩⟩⟩⟩⟩⟩⟩⟩⟩⟩⟩⟩⟩⟩⟩⟩⟩
theorem sx_getD_or {α : Type} : ∀ (l : List α) (k : Nat) (d : α), l.getD k d ∈ l ∨ l.getD k d = d
  | [], _, _ => Or.inr rfl
  | a :: l, 0, _ => Or.inl List.mem_cons_self
  | a :: l, k + 1, d => (sx_getD_or l k d).imp (fun h => List.mem_cons_of_mem _ h) id
theorem sx_dec_all (k : Nat) : (sx_tab k).all (fun q => decide (decode (sx_b k) q.1 = .ok q.2)) = true := by
  rcases sx_getD_or sx_tz k ([], .empty) with h | h
  · exact sx_dz _ h
  · unfold sx_tab sx_b
    rw [h]
    rfl
theorem sx_lookup_mem {α : Type} : ∀ {l : List (Nat × α)} {k : Nat} {v : α}, l.lookup k = some v → (k, v) ∈ l
  | [], _, _, h => by cases h
  | (a, b) :: l, k, v, h => by
    rw [List.lookup_cons] at h
    by_cases e : (k == a) = true
    · rw [e] at h
      cases h
      rw [eq_of_beq e]
      exact List.mem_cons_self
    · have e' : (k == a) = false := by cases q : (k == a) <;> simp_all
      rw [e'] at h
      exact List.mem_cons_of_mem _ (sx_lookup_mem h)
/-- of each method the places of its words: code, initialized, static or instanceMethod, selects -/
def sx_mwL : List (Nat × Nat × Nat × Nat) := [(546, 29, 544, 545), (642, 36, 641, 9999), (639, 36, 638, 9999), (758, 36, 757, 9999), (675, 36, 674, 9999), (672, 36, 671, 9999), (688, 36, 687, 9999), (692, 36, 691, 9999), (247, 29, 245, 246), (734, 29, 732, 733), (729, 36, 728, 9999), (747, 36, 746, 9999), (744, 36, 743, 9999), (359, 30, 358, 4), (355, 30, 354, 3), (363, 30, 362, 5), (367, 30, 366, 6), (371, 30, 370, 7), (350, 30, 349, 9999), (382, 30, 380, 381), (386, 30, 384, 385), (269, 29, 267, 268), (390, 29, 389, 8), (344, 29, 343, 9999), (725, 29, 723, 724), (450, 29, 448, 449), (480, 29, 478, 479), (256, 29, 254, 255), (161, 15, 159, 160), (489, 15, 487, 488), (485, 29, 483, 484), (251, 29, 249, 250), (662, 15, 660, 661), (658, 29, 656, 657), (507, 29, 505, 506), (516, 33, 515, 9999), (513, 29, 511, 512), (273, 15, 271, 272), (265, 29, 263, 264), (260, 29, 258, 259), (102, 18, 101, 9999), (586, 18, 585, 11), (542, 34, 541, 9999), (549, 34, 548, 9999), (555, 23, 554, 9999), (558, 23, 557, 9999), (552, 34, 551, 9999), (539, 34, 538, 9999), (581, 34, 580, 9999), (600, 34, 599, 9999), (593, 18, 592, 12), (578, 18, 576, 577), (49, 15, 48, 9999), (573, 15, 571, 572), (305, 15, 303, 304), (325, 15, 323, 324), (157, 15, 155, 156), (153, 15, 151, 152), (535, 34, 534, 9999), (79, 16, 78, 9999), (165, 16, 163, 164), (338, 23, 337, 9999), (92, 17, 91, 9999), (714, 17, 713, 9999), (711, 17, 709, 710), (41, 14, 40, 9999), (285, 14, 284, 9999), (282, 14, 280, 281), (777, 14, 775, 776), (335, 14, 333, 334), (173, 14, 172, 1), (446, 14, 445, 9999), (455, 14, 454, 9), (460, 14, 459, 9999), (443, 14, 441, 442), (496, 14, 494, 495), (503, 14, 501, 502), (525, 14, 523, 524), (532, 14, 530, 531), (569, 14, 568, 10), (565, 14, 563, 564), (608, 14, 606, 607), (635, 14, 634, 9999), (632, 14, 630, 631), (755, 14, 753, 754), (653, 14, 652, 9999), (650, 14, 648, 649), (669, 14, 667, 668), (685, 14, 684, 9999), (682, 14, 680, 681), (699, 14, 697, 698), (707, 14, 705, 706), (721, 14, 719, 720), (741, 14, 739, 740), (169, 14, 168, 0), (149, 14, 147, 148), (597, 33, 596, 9999), (764, 13, 763, 9999), (276, 13, 275, 9999), (773, 13, 772, 9999), (331, 13, 330, 9999), (437, 13, 436, 9999), (492, 13, 491, 9999), (499, 13, 498, 9999), (521, 13, 520, 9999), (528, 13, 527, 9999), (561, 13, 560, 9999), (603, 13, 602, 9999), (628, 13, 627, 9999), (646, 13, 645, 9999), (665, 13, 664, 9999), (678, 13, 677, 9999), (695, 13, 694, 9999), (703, 13, 702, 9999), (717, 13, 716, 9999), (737, 13, 736, 9999), (751, 13, 750, 9999), (761, 13, 760, 9999), (770, 13, 769, 9999), (785, 13, 784, 9999), (782, 13, 781, 9999), (9999, 9999, 9999, 9999)]
def sx_mw (k : Nat) : Nat × Nat × Nat × Nat := sx_mwL.getD k ((9999, 9999, 9999, 9999))
def sx_stL : List (Bool) := [false, true, true, true, true, true, true, true, false, false, true, true, true, false, false, false, false, false, false, false, false, false, false, false, false, false, false, false, false, false, false, false, false, false, false, true, false, false, false, false, false, false, true, true, true, true, true, true, true, true, false, false, false, false, false, false, false, false, true, false, false, true, false, true, false, false, true, false, false, false, false, true, false, true, false, false, false, false, false, false, false, false, true, false, false, true, false, false, true, false, false, false, false, false, false, false, true, true, true, true, true, true, true, true, true, true, true, true, true, true, true, true, true, true, true, true, true, true, true, true, true, false]
def sx_st (k : Nat) : Bool := sx_stL.getD k (false)
def sx_kwL : List (Nat × Nat) := [(341, 29), (99, 18), (46, 15), (347, 30), (76, 16), (89, 17), (38, 14)]
def sx_kw (k : Nat) : Nat × Nat := sx_kwL.getD k ((9999, 9999))
