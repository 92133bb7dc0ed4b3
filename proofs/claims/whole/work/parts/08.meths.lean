theorem gw_list {ws : List Cond} (ps : List Nat) (hp : ws = ps.filterMap (fun i => lw_tbl[i]?)) (h : ws.all goodWord = true) : ∀ w ∈ ws, w ∈ gw := by
  intro w hw
  have h1 := List.all_eq_true.mp h w hw
  rw [hp] at hw
  obtain ⟨i, -, hi⟩ := List.mem_filterMap.mp hw
  exact gw_in hi h1
theorem cwX0 : ∀ w ∈ u_ws RX0 TX0 4, w ∈ gw := gw_list [503, 505, 507, 509] (by decide +kernel) (by decide +kernel)
theorem cwX1 : ∀ w ∈ u_ws RX1 TX1 9, w ∈ gw := gw_list [472, 474, 476, 478, 480, 482, 484, 486, 488] (by decide +kernel) (by decide +kernel)
theorem cwX2 : ∀ w ∈ u_ws RX2 TX2 15, w ∈ gw := gw_list [212, 214, 216, 218, 220, 222, 224, 226, 228, 230, 232, 234, 236, 238, 240] (by decide +kernel) (by decide +kernel)
theorem cwX3 : ∀ w ∈ u_ws RX3 TX3 5, w ∈ gw := gw_list [525, 527, 529, 531, 533] (by decide +kernel) (by decide +kernel)
theorem cwX5 : ∀ w ∈ u_ws RX5 TX5 4, w ∈ gw := gw_list [391, 393, 395, 397] (by decide +kernel) (by decide +kernel)
theorem cwX6 : ∀ w ∈ u_ws RX6 TX6 3, w ∈ gw := gw_list [263, 265, 267] (by decide +kernel) (by decide +kernel)
theorem cwX7 : ∀ w ∈ u_ws RX7 TX7 14, w ∈ gw := gw_list [423, 425, 427, 429, 431, 433, 435, 437, 439, 441, 443, 445, 447, 449] (by decide +kernel) (by decide +kernel)
theorem cwX8 : ∀ w ∈ u_ws RX8 TX8 17, w ∈ gw := gw_list [312, 314, 316, 318, 320, 322, 324, 326, 328, 330, 332, 334, 336, 338, 340, 342, 344] (by decide +kernel) (by decide +kernel)
theorem cwX9 : ∀ w ∈ u_ws RX9 TX9 7, w ∈ gw := gw_list [543, 545, 547, 549, 551, 553, 555] (by decide +kernel) (by decide +kernel)
theorem cwX10 : ∀ w ∈ u_ws RX10 TX10 28, w ∈ gw := gw_list [1305, 1307, 1309, 1311, 1313, 1315, 1317, 1319, 1321, 1323, 1325, 1327, 1329, 1331, 1333, 1335, 1337, 1339, 1341, 1343, 1345, 1347, 1349, 1351, 1353, 1355, 1357, 1359] (by decide +kernel) (by decide +kernel)
theorem acI : Cond.arrayClass .int ∈ gw := gw_in (i := 243) (by decide +kernel) (by decide +kernel)
theorem acL : Cond.arrayClass .long ∈ gw := gw_in (i := 244) (by decide +kernel) (by decide +kernel)
theorem imO : Cond.instanceMethod Lib.objectInit ∈ gw := gw_in (i := 134) (by decide +kernel) (by decide +kernel)
theorem cdO : Cond.code Lib.objectInit ⟨#[0xb1]⟩ 1 none ∈ gw := gw_in (i := 135) (by decide +kernel) (by decide +kernel)
abbrev mX0_init : MT := (yX0_init, cX0_init, 1, none, 1, 40)
theorem kX0_init : CB mX0_init 0 := ⟨gw_in (i := 495) (by decide +kernel) (by decide +kernel), gw_in (i := 118) (by decide +kernel) (by decide +kernel), by decide +kernel, by decide +kernel, by decide +kernel⟩
theorem iX0_init : Cond.instanceMethod yX0_init ∈ gw := gw_in (i := 494) (by decide +kernel) (by decide +kernel)
abbrev mX0_open : MT := (yX0_open, cX0_open, 4, (some .boolean), 3, 72)
theorem kX0_open : CB mX0_open 1 := ⟨gw_in (i := 1117) (by decide +kernel) (by decide +kernel), gw_in (i := 118) (by decide +kernel) (by decide +kernel), by decide +kernel, by decide +kernel, by decide +kernel⟩
theorem iX0_open : Cond.instanceMethod yX0_open ∈ gw := gw_in (i := 1115) (by decide +kernel) (by decide +kernel)
theorem vX0_open : Cond.selects RX0 yX0_open yX0_open ∈ gw := gw_in (i := 1116) (by decide +kernel) (by decide +kernel)
abbrev mX0_turn : MT := (yX0_turn, cX0_turn, 2, none, 2, 42)
theorem kX0_turn : CB mX0_turn 0 := ⟨gw_in (i := 1122) (by decide +kernel) (by decide +kernel), gw_in (i := 118) (by decide +kernel) (by decide +kernel), by decide +kernel, by decide +kernel, by decide +kernel⟩
theorem iX0_turn : Cond.instanceMethod yX0_turn ∈ gw := gw_in (i := 1120) (by decide +kernel) (by decide +kernel)
theorem vX0_turn : Cond.selects RX0 yX0_turn yX0_turn ∈ gw := gw_in (i := 1121) (by decide +kernel) (by decide +kernel)
abbrev mX1_init : MT := (yX1_init, cX1_init, 2, none, 1, 40)
theorem kX1_init : CB mX1_init 1 := ⟨gw_in (i := 458) (by decide +kernel) (by decide +kernel), gw_in (i := 117) (by decide +kernel) (by decide +kernel), by decide +kernel, by decide +kernel, by decide +kernel⟩
theorem iX1_init : Cond.instanceMethod yX1_init ∈ gw := gw_in (i := 457) (by decide +kernel) (by decide +kernel)
abbrev mX1_tally : MT := (yX1_tally, cX1_tally, 5, (some .int), 6, 139)
theorem kX1_tally : CB mX1_tally 3 := ⟨gw_in (i := 984) (by decide +kernel) (by decide +kernel), gw_in (i := 117) (by decide +kernel) (by decide +kernel), by decide +kernel, by decide +kernel, by decide +kernel⟩
theorem iX1_tally : Cond.instanceMethod yX1_tally ∈ gw := gw_in (i := 982) (by decide +kernel) (by decide +kernel)
theorem vX1_tally : Cond.selects RX1 yX1_tally yX1_tally ∈ gw := gw_in (i := 983) (by decide +kernel) (by decide +kernel)
abbrev mX1_leastKnot : MT := (yX1_leastKnot, cX1_leastKnot, 4, (some .long), 6, 139)
theorem kX1_leastKnot : CB mX1_leastKnot 3 := ⟨gw_in (i := 1057) (by decide +kernel) (by decide +kernel), gw_in (i := 117) (by decide +kernel) (by decide +kernel), by decide +kernel, by decide +kernel, by decide +kernel⟩
theorem iX1_leastKnot : Cond.instanceMethod yX1_leastKnot ∈ gw := gw_in (i := 1055) (by decide +kernel) (by decide +kernel)
theorem vX1_leastKnot : Cond.selects RX1 yX1_leastKnot yX1_leastKnot ∈ gw := gw_in (i := 1056) (by decide +kernel) (by decide +kernel)
abbrev mX1_count : MT := (yX1_count, cX1_count, 7, (some .int), 5, 113)
theorem kX1_count : CB mX1_count 3 := ⟨gw_in (i := 988) (by decide +kernel) (by decide +kernel), gw_in (i := 117) (by decide +kernel) (by decide +kernel), by decide +kernel, by decide +kernel, by decide +kernel⟩
theorem iX1_count : Cond.instanceMethod yX1_count ∈ gw := gw_in (i := 987) (by decide +kernel) (by decide +kernel)
theorem vX1_count : Cond.selects RX1 yX1_count yX1_count ∈ gw := gw_in (i := 23) (by decide +kernel) (by decide +kernel)
abbrev mX1_turn : MT := (yX1_turn, cX1_turn, 3, (some .boolean), 1, 23)
theorem kX1_turn : CB mX1_turn 0 := ⟨gw_in (i := 1049) (by decide +kernel) (by decide +kernel), gw_in (i := 117) (by decide +kernel) (by decide +kernel), by decide +kernel, by decide +kernel, by decide +kernel⟩
theorem iX1_turn : Cond.instanceMethod yX1_turn ∈ gw := gw_in (i := 1048) (by decide +kernel) (by decide +kernel)
theorem vX1_turn : Cond.selects RX1 yX1_turn yX1_turn ∈ gw := gw_in (i := 36) (by decide +kernel) (by decide +kernel)
abbrev mX1_refresh : MT := (yX1_refresh, cX1_refresh, 4, none, 0, 0)
theorem kX1_refresh : CB mX1_refresh 1 := ⟨gw_in (i := 992) (by decide +kernel) (by decide +kernel), gw_in (i := 117) (by decide +kernel) (by decide +kernel), by decide +kernel, by decide +kernel, by decide +kernel⟩
theorem iX1_refresh : Cond.instanceMethod yX1_refresh ∈ gw := gw_in (i := 991) (by decide +kernel) (by decide +kernel)
theorem vX1_refresh : Cond.selects RX1 yX1_refresh yX1_refresh ∈ gw := gw_in (i := 24) (by decide +kernel) (by decide +kernel)
abbrev mX1_firstLast : MT := (yX1_firstLast, cX1_firstLast, 1, (some .int), 0, 0)
theorem kX1_firstLast : CB mX1_firstLast 0 := ⟨gw_in (i := 1001) (by decide +kernel) (by decide +kernel), gw_in (i := 117) (by decide +kernel) (by decide +kernel), by decide +kernel, by decide +kernel, by decide +kernel⟩
theorem iX1_firstLast : Cond.instanceMethod yX1_firstLast ∈ gw := gw_in (i := 1000) (by decide +kernel) (by decide +kernel)
theorem vX1_firstLast : Cond.selects RX1 yX1_firstLast yX1_firstLast ∈ gw := gw_in (i := 26) (by decide +kernel) (by decide +kernel)
abbrev mX1_countWords : MT := (yX1_countWords, cX1_countWords, 3, (some .int), 1, 20)
theorem kX1_countWords : CB mX1_countWords 0 := ⟨gw_in (i := 997) (by decide +kernel) (by decide +kernel), gw_in (i := 117) (by decide +kernel) (by decide +kernel), by decide +kernel, by decide +kernel, by decide +kernel⟩
theorem iX1_countWords : Cond.instanceMethod yX1_countWords ∈ gw := gw_in (i := 996) (by decide +kernel) (by decide +kernel)
theorem vX1_countWords : Cond.selects RX1 yX1_countWords yX1_countWords ∈ gw := gw_in (i := 25) (by decide +kernel) (by decide +kernel)
abbrev mX1_countStoppers : MT := (yX1_countStoppers, cX1_countStoppers, 5, (some .int), 1, 25)
theorem kX1_countStoppers : CB mX1_countStoppers 0 := ⟨gw_in (i := 1005) (by decide +kernel) (by decide +kernel), gw_in (i := 117) (by decide +kernel) (by decide +kernel), by decide +kernel, by decide +kernel, by decide +kernel⟩
theorem iX1_countStoppers : Cond.instanceMethod yX1_countStoppers ∈ gw := gw_in (i := 1004) (by decide +kernel) (by decide +kernel)
theorem vX1_countStoppers : Cond.selects RX1 yX1_countStoppers yX1_countStoppers ∈ gw := gw_in (i := 27) (by decide +kernel) (by decide +kernel)
abbrev mX1_countErasables : MT := (yX1_countErasables, cX1_countErasables, 3, (some .int), 2, 50)
theorem kX1_countErasables : CB mX1_countErasables 0 := ⟨gw_in (i := 1013) (by decide +kernel) (by decide +kernel), gw_in (i := 117) (by decide +kernel) (by decide +kernel), by decide +kernel, by decide +kernel, by decide +kernel⟩
theorem iX1_countErasables : Cond.instanceMethod yX1_countErasables ∈ gw := gw_in (i := 1012) (by decide +kernel) (by decide +kernel)
theorem vX1_countErasables : Cond.selects RX1 yX1_countErasables yX1_countErasables ∈ gw := gw_in (i := 29) (by decide +kernel) (by decide +kernel)
abbrev mX1_peelsAway : MT := (yX1_peelsAway, cX1_peelsAway, 6, (some .boolean), 1, 25)
theorem kX1_peelsAway : CB mX1_peelsAway 1 := ⟨gw_in (i := 1017) (by decide +kernel) (by decide +kernel), gw_in (i := 117) (by decide +kernel) (by decide +kernel), by decide +kernel, by decide +kernel, by decide +kernel⟩
theorem iX1_peelsAway : Cond.instanceMethod yX1_peelsAway ∈ gw := gw_in (i := 1016) (by decide +kernel) (by decide +kernel)
theorem vX1_peelsAway : Cond.selects RX1 yX1_peelsAway yX1_peelsAway ∈ gw := gw_in (i := 30) (by decide +kernel) (by decide +kernel)
abbrev mX1_justOnce : MT := (yX1_justOnce, cX1_justOnce, 6, (some .int), 0, 0)
theorem kX1_justOnce : CB mX1_justOnce 1 := ⟨gw_in (i := 1009) (by decide +kernel) (by decide +kernel), gw_in (i := 117) (by decide +kernel) (by decide +kernel), by decide +kernel, by decide +kernel, by decide +kernel⟩
theorem iX1_justOnce : Cond.instanceMethod yX1_justOnce ∈ gw := gw_in (i := 1008) (by decide +kernel) (by decide +kernel)
theorem vX1_justOnce : Cond.selects RX1 yX1_justOnce yX1_justOnce ∈ gw := gw_in (i := 28) (by decide +kernel) (by decide +kernel)
abbrev mX1_countKnots : MT := (yX1_countKnots, cX1_countKnots, 6, (some .int), 4, 88)
theorem kX1_countKnots : CB mX1_countKnots 0 := ⟨gw_in (i := 1021) (by decide +kernel) (by decide +kernel), gw_in (i := 117) (by decide +kernel) (by decide +kernel), by decide +kernel, by decide +kernel, by decide +kernel⟩
theorem iX1_countKnots : Cond.instanceMethod yX1_countKnots ∈ gw := gw_in (i := 1020) (by decide +kernel) (by decide +kernel)
theorem vX1_countKnots : Cond.selects RX1 yX1_countKnots yX1_countKnots ∈ gw := gw_in (i := 31) (by decide +kernel) (by decide +kernel)
abbrev mX1_areHeldBy : MT := (yX1_areHeldBy, cX1_areHeldBy, 3, (some .boolean), 2, 43)
theorem kX1_areHeldBy : CB mX1_areHeldBy 1 := ⟨gw_in (i := 1026) (by decide +kernel) (by decide +kernel), gw_in (i := 117) (by decide +kernel) (by decide +kernel), by decide +kernel, by decide +kernel, by decide +kernel⟩
theorem iX1_areHeldBy : Cond.instanceMethod yX1_areHeldBy ∈ gw := gw_in (i := 1025) (by decide +kernel) (by decide +kernel)
theorem vX1_areHeldBy : Cond.selects RX1 yX1_areHeldBy yX1_areHeldBy ∈ gw := gw_in (i := 32) (by decide +kernel) (by decide +kernel)
abbrev mX1_anySmallerKnot : MT := (yX1_anySmallerKnot, cX1_anySmallerKnot, 3, (some .boolean), 3, 66)
theorem kX1_anySmallerKnot : CB mX1_anySmallerKnot 0 := ⟨gw_in (i := 1030) (by decide +kernel) (by decide +kernel), gw_in (i := 117) (by decide +kernel) (by decide +kernel), by decide +kernel, by decide +kernel, by decide +kernel⟩
theorem iX1_anySmallerKnot : Cond.instanceMethod yX1_anySmallerKnot ∈ gw := gw_in (i := 1029) (by decide +kernel) (by decide +kernel)
theorem vX1_anySmallerKnot : Cond.selects RX1 yX1_anySmallerKnot yX1_anySmallerKnot ∈ gw := gw_in (i := 33) (by decide +kernel) (by decide +kernel)
abbrev mX1_isKnot : MT := (yX1_isKnot, cX1_isKnot, 4, (some .boolean), 2, 43)
theorem kX1_isKnot : CB mX1_isKnot 1 := ⟨gw_in (i := 1034) (by decide +kernel) (by decide +kernel), gw_in (i := 117) (by decide +kernel) (by decide +kernel), by decide +kernel, by decide +kernel, by decide +kernel⟩
theorem iX1_isKnot : Cond.instanceMethod yX1_isKnot ∈ gw := gw_in (i := 1033) (by decide +kernel) (by decide +kernel)
theorem vX1_isKnot : Cond.selects RX1 yX1_isKnot yX1_isKnot ∈ gw := gw_in (i := 34) (by decide +kernel) (by decide +kernel)
abbrev mX1_list : MT := (yX1_list, cX1_list, 5, none, 2, 62)
theorem kX1_list : CB mX1_list 0 := ⟨gw_in (i := 1038) (by decide +kernel) (by decide +kernel), gw_in (i := 117) (by decide +kernel) (by decide +kernel), by decide +kernel, by decide +kernel, by decide +kernel⟩
theorem iX1_list : Cond.instanceMethod yX1_list ∈ gw := gw_in (i := 1037) (by decide +kernel) (by decide +kernel)
theorem vX1_list : Cond.selects RX1 yX1_list yX1_list ∈ gw := gw_in (i := 35) (by decide +kernel) (by decide +kernel)
abbrev mX2_init : MT := (yX2_init, cX2_init, 9, none, 1, 40)
theorem kX2_init : CB mX2_init 6 := ⟨gw_in (i := 140) (by decide +kernel) (by decide +kernel), gw_in (i := 107) (by decide +kernel) (by decide +kernel), by decide +kernel, by decide +kernel, by decide +kernel⟩
theorem iX2_init : Cond.instanceMethod yX2_init ∈ gw := gw_in (i := 139) (by decide +kernel) (by decide +kernel)
abbrev mX2_lay : MT := (yX2_lay, cX2_lay, 8, none, 0, 0)
theorem kX2_lay : CB mX2_lay 2 := ⟨gw_in (i := 148) (by decide +kernel) (by decide +kernel), gw_in (i := 107) (by decide +kernel) (by decide +kernel), by decide +kernel, by decide +kernel, by decide +kernel⟩
theorem iX2_lay : Cond.instanceMethod yX2_lay ∈ gw := gw_in (i := 147) (by decide +kernel) (by decide +kernel)
theorem vX2_lay : Cond.selects RX2 yX2_lay yX2_lay ∈ gw := gw_in (i := 0) (by decide +kernel) (by decide +kernel)
abbrev mX2_reduce : MT := (yX2_reduce, cX2_reduce, 11, (some .long), 0, 0)
theorem kX2_reduce : CB mX2_reduce 3 := ⟨gw_in (i := 158) (by decide +kernel) (by decide +kernel), gw_in (i := 107) (by decide +kernel) (by decide +kernel), by decide +kernel, by decide +kernel, by decide +kernel⟩
theorem sX2_reduce : Cond.static yX2_reduce ∈ gw := gw_in (i := 157) (by decide +kernel) (by decide +kernel)
abbrev mX2_wordOf : MT := (yX2_wordOf, cX2_wordOf, 11, (some .long), 2, 42)
theorem kX2_wordOf : CB mX2_wordOf 1 := ⟨gw_in (i := 716) (by decide +kernel) (by decide +kernel), gw_in (i := 107) (by decide +kernel) (by decide +kernel), by decide +kernel, by decide +kernel, by decide +kernel⟩
theorem iX2_wordOf : Cond.instanceMethod yX2_wordOf ∈ gw := gw_in (i := 714) (by decide +kernel) (by decide +kernel)
theorem vX2_wordOf : Cond.selects RX2 yX2_wordOf yX2_wordOf ∈ gw := gw_in (i := 715) (by decide +kernel) (by decide +kernel)
abbrev mX2_moved : MT := (yX2_moved, cX2_moved, 7, (some (.object "LiftedChecks$Code")), 2, 68)
theorem kX2_moved : CB mX2_moved 3 := ⟨gw_in (i := 727) (by decide +kernel) (by decide +kernel), gw_in (i := 107) (by decide +kernel) (by decide +kernel), by decide +kernel, by decide +kernel, by decide +kernel⟩
theorem iX2_moved : Cond.instanceMethod yX2_moved ∈ gw := gw_in (i := 725) (by decide +kernel) (by decide +kernel)
theorem vX2_moved : Cond.selects RX2 yX2_moved yX2_moved ∈ gw := gw_in (i := 726) (by decide +kernel) (by decide +kernel)
abbrev mX2_countOdd : MT := (yX2_countOdd, cX2_countOdd, 5, (some .int), 1, 21)
theorem kX2_countOdd : CB mX2_countOdd 1 := ⟨gw_in (i := 382) (by decide +kernel) (by decide +kernel), gw_in (i := 107) (by decide +kernel) (by decide +kernel), by decide +kernel, by decide +kernel, by decide +kernel⟩
theorem iX2_countOdd : Cond.instanceMethod yX2_countOdd ∈ gw := gw_in (i := 380) (by decide +kernel) (by decide +kernel)
theorem vX2_countOdd : Cond.selects RX2 yX2_countOdd yX2_countOdd ∈ gw := gw_in (i := 381) (by decide +kernel) (by decide +kernel)
abbrev mX2_oddMask : MT := (yX2_oddMask, cX2_oddMask, 5, (some .int), 0, 0)
theorem kX2_oddMask : CB mX2_oddMask 1 := ⟨gw_in (i := 968) (by decide +kernel) (by decide +kernel), gw_in (i := 107) (by decide +kernel) (by decide +kernel), by decide +kernel, by decide +kernel, by decide +kernel⟩
theorem iX2_oddMask : Cond.instanceMethod yX2_oddMask ∈ gw := gw_in (i := 966) (by decide +kernel) (by decide +kernel)
theorem vX2_oddMask : Cond.selects RX2 yX2_oddMask yX2_oddMask ∈ gw := gw_in (i := 967) (by decide +kernel) (by decide +kernel)
abbrev mX2_isHeldBy : MT := (yX2_isHeldBy, cX2_isHeldBy, 4, (some .boolean), 1, 20)
theorem kX2_isHeldBy : CB mX2_isHeldBy 2 := ⟨gw_in (i := 972) (by decide +kernel) (by decide +kernel), gw_in (i := 107) (by decide +kernel) (by decide +kernel), by decide +kernel, by decide +kernel, by decide +kernel⟩
theorem iX2_isHeldBy : Cond.instanceMethod yX2_isHeldBy ∈ gw := gw_in (i := 970) (by decide +kernel) (by decide +kernel)
theorem vX2_isHeldBy : Cond.selects RX2 yX2_isHeldBy yX2_isHeldBy ∈ gw := gw_in (i := 971) (by decide +kernel) (by decide +kernel)
abbrev mX2_columnsOf : MT := (yX2_columnsOf, cX2_columnsOf, 4, (some .int), 0, 0)
theorem kX2_columnsOf : CB mX2_columnsOf 1 := ⟨gw_in (i := 1152) (by decide +kernel) (by decide +kernel), gw_in (i := 107) (by decide +kernel) (by decide +kernel), by decide +kernel, by decide +kernel, by decide +kernel⟩
theorem iX2_columnsOf : Cond.instanceMethod yX2_columnsOf ∈ gw := gw_in (i := 1150) (by decide +kernel) (by decide +kernel)
theorem vX2_columnsOf : Cond.selects RX2 yX2_columnsOf yX2_columnsOf ∈ gw := gw_in (i := 1151) (by decide +kernel) (by decide +kernel)
abbrev mX3_init : MT := (yX3_init, cX3_init, 1, none, 1, 40)
theorem kX3_init : CB mX3_init 0 := ⟨gw_in (i := 516) (by decide +kernel) (by decide +kernel), gw_in (i := 119) (by decide +kernel) (by decide +kernel), by decide +kernel, by decide +kernel, by decide +kernel⟩
theorem iX3_init : Cond.instanceMethod yX3_init ∈ gw := gw_in (i := 515) (by decide +kernel) (by decide +kernel)
abbrev mX3_run : MT := (yX3_run, cX3_run, 6, none, 4, 95)
theorem kX3_run : CB mX3_run 3 := ⟨gw_in (i := 1146) (by decide +kernel) (by decide +kernel), gw_in (i := 119) (by decide +kernel) (by decide +kernel), by decide +kernel, by decide +kernel, by decide +kernel⟩
theorem iX3_run : Cond.instanceMethod yX3_run ∈ gw := gw_in (i := 1144) (by decide +kernel) (by decide +kernel)
theorem vX3_run : Cond.selects RX3 yX3_run yX3_run ∈ gw := gw_in (i := 1145) (by decide +kernel) (by decide +kernel)
abbrev mX3_runLayer : MT := (yX3_runLayer, cX3_runLayer, 6, none, 1, 23)
theorem kX3_runLayer : CB mX3_runLayer 2 := ⟨gw_in (i := 1156) (by decide +kernel) (by decide +kernel), gw_in (i := 119) (by decide +kernel) (by decide +kernel), by decide +kernel, by decide +kernel, by decide +kernel⟩
theorem iX3_runLayer : Cond.instanceMethod yX3_runLayer ∈ gw := gw_in (i := 1155) (by decide +kernel) (by decide +kernel)
theorem vX3_runLayer : Cond.selects RX3 yX3_runLayer yX3_runLayer ∈ gw := gw_in (i := 38) (by decide +kernel) (by decide +kernel)
abbrev mX3_readyOf : MT := (yX3_readyOf, cX3_readyOf, 4, (some .int), 0, 0)
theorem kX3_readyOf : CB mX3_readyOf 2 := ⟨gw_in (i := 1160) (by decide +kernel) (by decide +kernel), gw_in (i := 119) (by decide +kernel) (by decide +kernel), by decide +kernel, by decide +kernel, by decide +kernel⟩
theorem iX3_readyOf : Cond.instanceMethod yX3_readyOf ∈ gw := gw_in (i := 1159) (by decide +kernel) (by decide +kernel)
theorem vX3_readyOf : Cond.selects RX3 yX3_readyOf yX3_readyOf ∈ gw := gw_in (i := 39) (by decide +kernel) (by decide +kernel)
abbrev mX3_countClashes : MT := (yX3_countClashes, cX3_countClashes, 6, (some .int), 4, 95)
theorem kX3_countClashes : CB mX3_countClashes 2 := ⟨gw_in (i := 1172) (by decide +kernel) (by decide +kernel), gw_in (i := 119) (by decide +kernel) (by decide +kernel), by decide +kernel, by decide +kernel, by decide +kernel⟩
theorem iX3_countClashes : Cond.instanceMethod yX3_countClashes ∈ gw := gw_in (i := 1170) (by decide +kernel) (by decide +kernel)
theorem vX3_countClashes : Cond.selects RX3 yX3_countClashes yX3_countClashes ∈ gw := gw_in (i := 1171) (by decide +kernel) (by decide +kernel)
abbrev mX4_way : MT := (yX4_way, cX4_way, 11, (some .int), 0, 0)
theorem kX4_way : CB mX4_way 4 := ⟨gw_in (i := 918) (by decide +kernel) (by decide +kernel), gw_in (i := 126) (by decide +kernel) (by decide +kernel), by decide +kernel, by decide +kernel, by decide +kernel⟩
theorem sX4_way : Cond.static yX4_way ∈ gw := gw_in (i := 917) (by decide +kernel) (by decide +kernel)
abbrev mX4_shortestRing : MT := (yX4_shortestRing, cX4_shortestRing, 6, (some .int), 1, 30)
theorem kX4_shortestRing : CB mX4_shortestRing 1 := ⟨gw_in (i := 914) (by decide +kernel) (by decide +kernel), gw_in (i := 126) (by decide +kernel) (by decide +kernel), by decide +kernel, by decide +kernel, by decide +kernel⟩
theorem sX4_shortestRing : Cond.static yX4_shortestRing ∈ gw := gw_in (i := 913) (by decide +kernel) (by decide +kernel)
abbrev mX4_countFours : MT := (yX4_countFours, cX4_countFours, 5, (some .int), 1, 21)
theorem kX4_countFours : CB mX4_countFours 1 := ⟨gw_in (i := 925) (by decide +kernel) (by decide +kernel), gw_in (i := 126) (by decide +kernel) (by decide +kernel), by decide +kernel, by decide +kernel, by decide +kernel⟩
theorem sX4_countFours : Cond.static yX4_countFours ∈ gw := gw_in (i := 924) (by decide +kernel) (by decide +kernel)
abbrev mX4_countSixes : MT := (yX4_countSixes, cX4_countSixes, 5, (some .int), 2, 50)
theorem kX4_countSixes : CB mX4_countSixes 1 := ⟨gw_in (i := 933) (by decide +kernel) (by decide +kernel), gw_in (i := 126) (by decide +kernel) (by decide +kernel), by decide +kernel, by decide +kernel, by decide +kernel⟩
theorem sX4_countSixes : Cond.static yX4_countSixes ∈ gw := gw_in (i := 932) (by decide +kernel) (by decide +kernel)
abbrev mX4_sixesOf : MT := (yX4_sixesOf, cX4_sixesOf, 10, (some .int), 1, 21)
theorem kX4_sixesOf : CB mX4_sixesOf 3 := ⟨gw_in (i := 936) (by decide +kernel) (by decide +kernel), gw_in (i := 126) (by decide +kernel) (by decide +kernel), by decide +kernel, by decide +kernel, by decide +kernel⟩
theorem sX4_sixesOf : Cond.static yX4_sixesOf ∈ gw := gw_in (i := 935) (by decide +kernel) (by decide +kernel)
abbrev mX4_countPieces : MT := (yX4_countPieces, cX4_countPieces, 5, (some .int), 1, 27)
theorem kX4_countPieces : CB mX4_countPieces 1 := ⟨gw_in (i := 948) (by decide +kernel) (by decide +kernel), gw_in (i := 126) (by decide +kernel) (by decide +kernel), by decide +kernel, by decide +kernel, by decide +kernel⟩
theorem sX4_countPieces : Cond.static yX4_countPieces ∈ gw := gw_in (i := 947) (by decide +kernel) (by decide +kernel)
abbrev mX4_pieceOf : MT := (yX4_pieceOf, cX4_pieceOf, 8, (some .long), 0, 0)
theorem kX4_pieceOf : CB mX4_pieceOf 2 := ⟨gw_in (i := 951) (by decide +kernel) (by decide +kernel), gw_in (i := 126) (by decide +kernel) (by decide +kernel), by decide +kernel, by decide +kernel, by decide +kernel⟩
theorem sX4_pieceOf : Cond.static yX4_pieceOf ∈ gw := gw_in (i := 950) (by decide +kernel) (by decide +kernel)
abbrev mX4_peel : MT := (yX4_peel, cX4_peel, 11, (some .long), 1, 21)
theorem kX4_peel : CB mX4_peel 2 := ⟨gw_in (i := 1089) (by decide +kernel) (by decide +kernel), gw_in (i := 126) (by decide +kernel) (by decide +kernel), by decide +kernel, by decide +kernel, by decide +kernel⟩
theorem sX4_peel : Cond.static yX4_peel ∈ gw := gw_in (i := 1088) (by decide +kernel) (by decide +kernel)
abbrev mX5_init : MT := (yX5_init, cX5_init, 2, none, 5, 116)
theorem kX5_init : CB mX5_init 1 := ⟨gw_in (i := 249) (by decide +kernel) (by decide +kernel), gw_in (i := 111) (by decide +kernel) (by decide +kernel), by decide +kernel, by decide +kernel, by decide +kernel⟩
theorem iX5_init : Cond.instanceMethod yX5_init ∈ gw := gw_in (i := 248) (by decide +kernel) (by decide +kernel)
abbrev mX5_copyFrom : MT := (yX5_copyFrom, cX5_copyFrom, 3, none, 4, 106)
theorem kX5_copyFrom : CB mX5_copyFrom 1 := ⟨gw_in (i := 1223) (by decide +kernel) (by decide +kernel), gw_in (i := 111) (by decide +kernel) (by decide +kernel), by decide +kernel, by decide +kernel, by decide +kernel⟩
theorem iX5_copyFrom : Cond.instanceMethod yX5_copyFrom ∈ gw := gw_in (i := 1221) (by decide +kernel) (by decide +kernel)
theorem vX5_copyFrom : Cond.selects RX5 yX5_copyFrom yX5_copyFrom ∈ gw := gw_in (i := 1222) (by decide +kernel) (by decide +kernel)
abbrev mX6_init : MT := (yX6_init, cX6_init, 1, none, 1, 40)
theorem kX6_init : CB mX6_init 0 := ⟨gw_in (i := 255) (by decide +kernel) (by decide +kernel), gw_in (i := 112) (by decide +kernel) (by decide +kernel), by decide +kernel, by decide +kernel, by decide +kernel⟩
theorem iX6_init : Cond.instanceMethod yX6_init ∈ gw := gw_in (i := 254) (by decide +kernel) (by decide +kernel)
abbrev mX6_put : MT := (yX6_put, cX6_put, 2, none, 3, 83)
theorem kX6_put : CB mX6_put 1 := ⟨gw_in (i := 698) (by decide +kernel) (by decide +kernel), gw_in (i := 112) (by decide +kernel) (by decide +kernel), by decide +kernel, by decide +kernel, by decide +kernel⟩
theorem iX6_put : Cond.instanceMethod yX6_put ∈ gw := gw_in (i := 696) (by decide +kernel) (by decide +kernel)
theorem vX6_put : Cond.selects RX6 yX6_put yX6_put ∈ gw := gw_in (i := 697) (by decide +kernel) (by decide +kernel)
abbrev mX6_copyTo : MT := (yX6_copyTo, cX6_copyTo, 3, none, 2, 61)
theorem kX6_copyTo : CB mX6_copyTo 2 := ⟨gw_in (i := 702) (by decide +kernel) (by decide +kernel), gw_in (i := 112) (by decide +kernel) (by decide +kernel), by decide +kernel, by decide +kernel, by decide +kernel⟩
theorem iX6_copyTo : Cond.instanceMethod yX6_copyTo ∈ gw := gw_in (i := 701) (by decide +kernel) (by decide +kernel)
theorem vX6_copyTo : Cond.selects RX6 yX6_copyTo yX6_copyTo ∈ gw := gw_in (i := 12) (by decide +kernel) (by decide +kernel)
abbrev mX6_takeBack : MT := (yX6_takeBack, cX6_takeBack, 3, (some .boolean), 2, 61)
theorem kX6_takeBack : CB mX6_takeBack 1 := ⟨gw_in (i := 819) (by decide +kernel) (by decide +kernel), gw_in (i := 112) (by decide +kernel) (by decide +kernel), by decide +kernel, by decide +kernel, by decide +kernel⟩
theorem iX6_takeBack : Cond.instanceMethod yX6_takeBack ∈ gw := gw_in (i := 817) (by decide +kernel) (by decide +kernel)
theorem vX6_takeBack : Cond.selects RX6 yX6_takeBack yX6_takeBack ∈ gw := gw_in (i := 818) (by decide +kernel) (by decide +kernel)
abbrev mX6_copyFrom : MT := (yX6_copyFrom, cX6_copyFrom, 4, none, 3, 83)
theorem kX6_copyFrom : CB mX6_copyFrom 1 := ⟨gw_in (i := 1228) (by decide +kernel) (by decide +kernel), gw_in (i := 112) (by decide +kernel) (by decide +kernel), by decide +kernel, by decide +kernel, by decide +kernel⟩
theorem iX6_copyFrom : Cond.instanceMethod yX6_copyFrom ∈ gw := gw_in (i := 1226) (by decide +kernel) (by decide +kernel)
theorem vX6_copyFrom : Cond.selects RX6 yX6_copyFrom yX6_copyFrom ∈ gw := gw_in (i := 1227) (by decide +kernel) (by decide +kernel)
abbrev mX7_init : MT := (yX7_init, cX7_init, 1, none, 1, 40)
theorem kX7_init : CB mX7_init 0 := ⟨gw_in (i := 404) (by decide +kernel) (by decide +kernel), gw_in (i := 116) (by decide +kernel) (by decide +kernel), by decide +kernel, by decide +kernel, by decide +kernel⟩
theorem iX7_init : Cond.instanceMethod yX7_init ∈ gw := gw_in (i := 403) (by decide +kernel) (by decide +kernel)
abbrev mX7_take : MT := (yX7_take, cX7_take, 3, none, 0, 0)
theorem kX7_take : CB mX7_take 1 := ⟨gw_in (i := 565) (by decide +kernel) (by decide +kernel), gw_in (i := 116) (by decide +kernel) (by decide +kernel), by decide +kernel, by decide +kernel, by decide +kernel⟩
theorem iX7_take : Cond.instanceMethod yX7_take ∈ gw := gw_in (i := 563) (by decide +kernel) (by decide +kernel)
theorem vX7_take : Cond.selects RX7 yX7_take yX7_take ∈ gw := gw_in (i := 564) (by decide +kernel) (by decide +kernel)
abbrev mX7_read : MT := (yX7_read, cX7_read, 3, (some (.object "LiftedChecks$Code")), 7, 149)
theorem kX7_read : CB mX7_read 0 := ⟨gw_in (i := 577) (by decide +kernel) (by decide +kernel), gw_in (i := 116) (by decide +kernel) (by decide +kernel), by decide +kernel, by decide +kernel, by decide +kernel⟩
theorem iX7_read : Cond.instanceMethod yX7_read ∈ gw := gw_in (i := 575) (by decide +kernel) (by decide +kernel)
theorem vX7_read : Cond.selects RX7 yX7_read yX7_read ∈ gw := gw_in (i := 576) (by decide +kernel) (by decide +kernel)
abbrev mX7_readClauses : MT := (yX7_readClauses, cX7_readClauses, 2, none, 6, 128)
theorem kX7_readClauses : CB mX7_readClauses 0 := ⟨gw_in (i := 581) (by decide +kernel) (by decide +kernel), gw_in (i := 116) (by decide +kernel) (by decide +kernel), by decide +kernel, by decide +kernel, by decide +kernel⟩
theorem iX7_readClauses : Cond.instanceMethod yX7_readClauses ∈ gw := gw_in (i := 580) (by decide +kernel) (by decide +kernel)
theorem vX7_readClauses : Cond.selects RX7 yX7_readClauses yX7_readClauses ∈ gw := gw_in (i := 2) (by decide +kernel) (by decide +kernel)
abbrev mX7_readClause : MT := (yX7_readClause, cX7_readClause, 2, none, 5, 107)
theorem kX7_readClause : CB mX7_readClause 1 := ⟨gw_in (i := 602) (by decide +kernel) (by decide +kernel), gw_in (i := 116) (by decide +kernel) (by decide +kernel), by decide +kernel, by decide +kernel, by decide +kernel⟩
theorem iX7_readClause : Cond.instanceMethod yX7_readClause ∈ gw := gw_in (i := 601) (by decide +kernel) (by decide +kernel)
theorem vX7_readClause : Cond.selects RX7 yX7_readClause yX7_readClause ∈ gw := gw_in (i := 5) (by decide +kernel) (by decide +kernel)
abbrev mX7_readNumber : MT := (yX7_readNumber, cX7_readNumber, 4, (some .int), 2, 42)
theorem kX7_readNumber : CB mX7_readNumber 2 := ⟨gw_in (i := 672) (by decide +kernel) (by decide +kernel), gw_in (i := 116) (by decide +kernel) (by decide +kernel), by decide +kernel, by decide +kernel, by decide +kernel⟩
theorem iX7_readNumber : Cond.instanceMethod yX7_readNumber ∈ gw := gw_in (i := 671) (by decide +kernel) (by decide +kernel)
theorem vX7_readNumber : Cond.selects RX7 yX7_readNumber yX7_readNumber ∈ gw := gw_in (i := 10) (by decide +kernel) (by decide +kernel)
abbrev mX7_readRow : MT := (yX7_readRow, cX7_readRow, 3, none, 2, 42)
theorem kX7_readRow : CB mX7_readRow 0 := ⟨gw_in (i := 659) (by decide +kernel) (by decide +kernel), gw_in (i := 116) (by decide +kernel) (by decide +kernel), by decide +kernel, by decide +kernel, by decide +kernel⟩
theorem iX7_readRow : Cond.instanceMethod yX7_readRow ∈ gw := gw_in (i := 658) (by decide +kernel) (by decide +kernel)
theorem vX7_readRow : Cond.selects RX7 yX7_readRow yX7_readRow ∈ gw := gw_in (i := 7) (by decide +kernel) (by decide +kernel)
abbrev mX7_entryFault : MT := (yX7_entryFault, cX7_entryFault, 2, (some .int), 0, 0)
theorem kX7_entryFault : CB mX7_entryFault 1 := ⟨gw_in (i := 667) (by decide +kernel) (by decide +kernel), gw_in (i := 116) (by decide +kernel) (by decide +kernel), by decide +kernel, by decide +kernel, by decide +kernel⟩
theorem iX7_entryFault : Cond.instanceMethod yX7_entryFault ∈ gw := gw_in (i := 666) (by decide +kernel) (by decide +kernel)
theorem vX7_entryFault : Cond.selects RX7 yX7_entryFault yX7_entryFault ∈ gw := gw_in (i := 9) (by decide +kernel) (by decide +kernel)
abbrev mX7_endRow : MT := (yX7_endRow, cX7_endRow, 2, none, 1, 21)
theorem kX7_endRow : CB mX7_endRow 1 := ⟨gw_in (i := 663) (by decide +kernel) (by decide +kernel), gw_in (i := 116) (by decide +kernel) (by decide +kernel), by decide +kernel, by decide +kernel, by decide +kernel⟩
theorem iX7_endRow : Cond.instanceMethod yX7_endRow ∈ gw := gw_in (i := 662) (by decide +kernel) (by decide +kernel)
theorem vX7_endRow : Cond.selects RX7 yX7_endRow yX7_endRow ∈ gw := gw_in (i := 8) (by decide +kernel) (by decide +kernel)
abbrev mX7_refuse : MT := (yX7_refuse, cX7_refuse, 2, none, 0, 0)
theorem kX7_refuse : CB mX7_refuse 1 := ⟨gw_in (i := 598) (by decide +kernel) (by decide +kernel), gw_in (i := 116) (by decide +kernel) (by decide +kernel), by decide +kernel, by decide +kernel, by decide +kernel⟩
theorem iX7_refuse : Cond.instanceMethod yX7_refuse ∈ gw := gw_in (i := 597) (by decide +kernel) (by decide +kernel)
theorem vX7_refuse : Cond.selects RX7 yX7_refuse yX7_refuse ∈ gw := gw_in (i := 4) (by decide +kernel) (by decide +kernel)
abbrev mX7_spells : MT := (yX7_spells, cX7_spells, 3, (some .boolean), 4, 85)
theorem kX7_spells : CB mX7_spells 1 := ⟨gw_in (i := 607) (by decide +kernel) (by decide +kernel), gw_in (i := 116) (by decide +kernel) (by decide +kernel), by decide +kernel, by decide +kernel, by decide +kernel⟩
theorem iX7_spells : Cond.instanceMethod yX7_spells ∈ gw := gw_in (i := 606) (by decide +kernel) (by decide +kernel)
theorem vX7_spells : Cond.selects RX7 yX7_spells yX7_spells ∈ gw := gw_in (i := 6) (by decide +kernel) (by decide +kernel)
abbrev mX7_readToken : MT := (yX7_readToken, cX7_readToken, 2, none, 1, 21)
theorem kX7_readToken : CB mX7_readToken 0 := ⟨gw_in (i := 585) (by decide +kernel) (by decide +kernel), gw_in (i := 116) (by decide +kernel) (by decide +kernel), by decide +kernel, by decide +kernel, by decide +kernel⟩
theorem iX7_readToken : Cond.instanceMethod yX7_readToken ∈ gw := gw_in (i := 584) (by decide +kernel) (by decide +kernel)
theorem vX7_readToken : Cond.selects RX7 yX7_readToken yX7_readToken ∈ gw := gw_in (i := 3) (by decide +kernel) (by decide +kernel)
abbrev mX7_isLetter : MT := (yX7_isLetter, cX7_isLetter, 1, (some .boolean), 0, 0)
theorem kX7_isLetter : CB mX7_isLetter 1 := ⟨gw_in (i := 588) (by decide +kernel) (by decide +kernel), gw_in (i := 116) (by decide +kernel) (by decide +kernel), by decide +kernel, by decide +kernel, by decide +kernel⟩
theorem sX7_isLetter : Cond.static yX7_isLetter ∈ gw := gw_in (i := 587) (by decide +kernel) (by decide +kernel)
abbrev mX7_isDigit : MT := (yX7_isDigit, cX7_isDigit, 1, (some .boolean), 0, 0)
theorem kX7_isDigit : CB mX7_isDigit 1 := ⟨gw_in (i := 591) (by decide +kernel) (by decide +kernel), gw_in (i := 116) (by decide +kernel) (by decide +kernel), by decide +kernel, by decide +kernel, by decide +kernel⟩
theorem sX7_isDigit : Cond.static yX7_isDigit ∈ gw := gw_in (i := 590) (by decide +kernel) (by decide +kernel)
abbrev mX8_init : MT := (yX8_init, cX8_init, 2, none, 1, 40)
theorem kX8_init : CB mX8_init 1 := ⟨gw_in (i := 276) (by decide +kernel) (by decide +kernel), gw_in (i := 113) (by decide +kernel) (by decide +kernel), by decide +kernel, by decide +kernel, by decide +kernel⟩
theorem iX8_init : Cond.instanceMethod yX8_init ∈ gw := gw_in (i := 275) (by decide +kernel) (by decide +kernel)
abbrev mX8_copyFrom : MT := (yX8_copyFrom, cX8_copyFrom, 2, none, 1, 40)
theorem kX8_copyFrom : CB mX8_copyFrom 1 := ⟨gw_in (i := 707) (by decide +kernel) (by decide +kernel), gw_in (i := 113) (by decide +kernel) (by decide +kernel), by decide +kernel, by decide +kernel, by decide +kernel⟩
theorem iX8_copyFrom : Cond.instanceMethod yX8_copyFrom ∈ gw := gw_in (i := 705) (by decide +kernel) (by decide +kernel)
theorem vX8_copyFrom : Cond.selects RX8 yX8_copyFrom yX8_copyFrom ∈ gw := gw_in (i := 706) (by decide +kernel) (by decide +kernel)
abbrev mX8_come : MT := (yX8_come, cX8_come, 2, none, 4, 95)
theorem kX8_come : CB mX8_come 1 := ⟨gw_in (i := 350) (by decide +kernel) (by decide +kernel), gw_in (i := 113) (by decide +kernel) (by decide +kernel), by decide +kernel, by decide +kernel, by decide +kernel⟩
theorem iX8_come : Cond.instanceMethod yX8_come ∈ gw := gw_in (i := 348) (by decide +kernel) (by decide +kernel)
theorem vX8_come : Cond.selects RX8 yX8_come yX8_come ∈ gw := gw_in (i := 349) (by decide +kernel) (by decide +kernel)
abbrev mX8_start : MT := (yX8_start, cX8_start, 2, none, 3, 66)
theorem kX8_start : CB mX8_start 1 := ⟨gw_in (i := 371) (by decide +kernel) (by decide +kernel), gw_in (i := 113) (by decide +kernel) (by decide +kernel), by decide +kernel, by decide +kernel, by decide +kernel⟩
theorem iX8_start : Cond.instanceMethod yX8_start ∈ gw := gw_in (i := 369) (by decide +kernel) (by decide +kernel)
theorem vX8_start : Cond.selects RX8 yX8_start yX8_start ∈ gw := gw_in (i := 370) (by decide +kernel) (by decide +kernel)
abbrev mX8_draw : MT := (yX8_draw, cX8_draw, 6, (some .int), 0, 0)
theorem kX8_draw : CB mX8_draw 2 := ⟨gw_in (i := 757) (by decide +kernel) (by decide +kernel), gw_in (i := 113) (by decide +kernel) (by decide +kernel), by decide +kernel, by decide +kernel, by decide +kernel⟩
theorem iX8_draw : Cond.instanceMethod yX8_draw ∈ gw := gw_in (i := 755) (by decide +kernel) (by decide +kernel)
theorem vX8_draw : Cond.selects RX8 yX8_draw yX8_draw ∈ gw := gw_in (i := 756) (by decide +kernel) (by decide +kernel)
abbrev mX8_go : MT := (yX8_go, cX8_go, 4, (some .int), 4, 98)
theorem kX8_go : CB mX8_go 1 := ⟨gw_in (i := 782) (by decide +kernel) (by decide +kernel), gw_in (i := 113) (by decide +kernel) (by decide +kernel), by decide +kernel, by decide +kernel, by decide +kernel⟩
theorem iX8_go : Cond.instanceMethod yX8_go ∈ gw := gw_in (i := 780) (by decide +kernel) (by decide +kernel)
theorem vX8_go : Cond.selects RX8 yX8_go yX8_go ∈ gw := gw_in (i := 781) (by decide +kernel) (by decide +kernel)
abbrev mX8_advance : MT := (yX8_advance, cX8_advance, 4, none, 3, 75)
theorem kX8_advance : CB mX8_advance 0 := ⟨gw_in (i := 786) (by decide +kernel) (by decide +kernel), gw_in (i := 113) (by decide +kernel) (by decide +kernel), by decide +kernel, by decide +kernel, by decide +kernel⟩
theorem iX8_advance : Cond.instanceMethod yX8_advance ∈ gw := gw_in (i := 785) (by decide +kernel) (by decide +kernel)
theorem vX8_advance : Cond.selects RX8 yX8_advance yX8_advance ∈ gw := gw_in (i := 15) (by decide +kernel) (by decide +kernel)
abbrev mX8_look : MT := (yX8_look, cX8_look, 2, none, 2, 45)
theorem kX8_look : CB mX8_look 0 := ⟨gw_in (i := 378) (by decide +kernel) (by decide +kernel), gw_in (i := 113) (by decide +kernel) (by decide +kernel), by decide +kernel, by decide +kernel, by decide +kernel⟩
theorem iX8_look : Cond.instanceMethod yX8_look ∈ gw := gw_in (i := 377) (by decide +kernel) (by decide +kernel)
theorem vX8_look : Cond.selects RX8 yX8_look yX8_look ∈ gw := gw_in (i := 1) (by decide +kernel) (by decide +kernel)
abbrev mX8_note : MT := (yX8_note, cX8_note, 8, none, 2, 42)
theorem kX8_note : CB mX8_note 2 := ⟨gw_in (i := 809) (by decide +kernel) (by decide +kernel), gw_in (i := 113) (by decide +kernel) (by decide +kernel), by decide +kernel, by decide +kernel, by decide +kernel⟩
theorem iX8_note : Cond.instanceMethod yX8_note ∈ gw := gw_in (i := 808) (by decide +kernel) (by decide +kernel)
theorem vX8_note : Cond.selects RX8 yX8_note yX8_note ∈ gw := gw_in (i := 20) (by decide +kernel) (by decide +kernel)
abbrev mX8_mendLayer : MT := (yX8_mendLayer, cX8_mendLayer, 6, none, 2, 50)
theorem kX8_mendLayer : CB mX8_mendLayer 1 := ⟨gw_in (i := 790) (by decide +kernel) (by decide +kernel), gw_in (i := 113) (by decide +kernel) (by decide +kernel), by decide +kernel, by decide +kernel, by decide +kernel⟩
theorem iX8_mendLayer : Cond.instanceMethod yX8_mendLayer ∈ gw := gw_in (i := 789) (by decide +kernel) (by decide +kernel)
theorem vX8_mendLayer : Cond.selects RX8 yX8_mendLayer yX8_mendLayer ∈ gw := gw_in (i := 16) (by decide +kernel) (by decide +kernel)
abbrev mX8_mendAtOnce : MT := (yX8_mendAtOnce, cX8_mendAtOnce, 4, none, 2, 50)
theorem kX8_mendAtOnce : CB mX8_mendAtOnce 0 := ⟨gw_in (i := 805) (by decide +kernel) (by decide +kernel), gw_in (i := 113) (by decide +kernel) (by decide +kernel), by decide +kernel, by decide +kernel, by decide +kernel⟩
theorem iX8_mendAtOnce : Cond.instanceMethod yX8_mendAtOnce ∈ gw := gw_in (i := 804) (by decide +kernel) (by decide +kernel)
theorem vX8_mendAtOnce : Cond.selects RX8 yX8_mendAtOnce yX8_mendAtOnce ∈ gw := gw_in (i := 19) (by decide +kernel) (by decide +kernel)
abbrev mX8_mendMessages : MT := (yX8_mendMessages, cX8_mendMessages, 10, none, 1, 21)
theorem kX8_mendMessages : CB mX8_mendMessages 1 := ⟨gw_in (i := 794) (by decide +kernel) (by decide +kernel), gw_in (i := 113) (by decide +kernel) (by decide +kernel), by decide +kernel, by decide +kernel, by decide +kernel⟩
theorem iX8_mendMessages : Cond.instanceMethod yX8_mendMessages ∈ gw := gw_in (i := 793) (by decide +kernel) (by decide +kernel)
theorem vX8_mendMessages : Cond.selects RX8 yX8_mendMessages yX8_mendMessages ∈ gw := gw_in (i := 17) (by decide +kernel) (by decide +kernel)
abbrev mX8_sizeOf : MT := (yX8_sizeOf, cX8_sizeOf, 2, (some .int), 0, 0)
theorem kX8_sizeOf : CB mX8_sizeOf 1 := ⟨gw_in (i := 798) (by decide +kernel) (by decide +kernel), gw_in (i := 113) (by decide +kernel) (by decide +kernel), by decide +kernel, by decide +kernel, by decide +kernel⟩
theorem iX8_sizeOf : Cond.instanceMethod yX8_sizeOf ∈ gw := gw_in (i := 797) (by decide +kernel) (by decide +kernel)
theorem vX8_sizeOf : Cond.selects RX8 yX8_sizeOf yX8_sizeOf ∈ gw := gw_in (i := 18) (by decide +kernel) (by decide +kernel)
abbrev mX8_hold : MT := (yX8_hold, cX8_hold, 1, (some .int), 0, 0)
theorem kX8_hold : CB mX8_hold 1 := ⟨gw_in (i := 801) (by decide +kernel) (by decide +kernel), gw_in (i := 113) (by decide +kernel) (by decide +kernel), by decide +kernel, by decide +kernel, by decide +kernel⟩
theorem sX8_hold : Cond.static yX8_hold ∈ gw := gw_in (i := 800) (by decide +kernel) (by decide +kernel)
abbrev mX8_costOf : MT := (yX8_costOf, cX8_costOf, 6, (some .int), 1, 20)
theorem kX8_costOf : CB mX8_costOf 1 := ⟨gw_in (i := 1106) (by decide +kernel) (by decide +kernel), gw_in (i := 113) (by decide +kernel) (by decide +kernel), by decide +kernel, by decide +kernel, by decide +kernel⟩
theorem iX8_costOf : Cond.instanceMethod yX8_costOf ∈ gw := gw_in (i := 1104) (by decide +kernel) (by decide +kernel)
theorem vX8_costOf : Cond.selects RX8 yX8_costOf yX8_costOf ∈ gw := gw_in (i := 1105) (by decide +kernel) (by decide +kernel)
abbrev mX8_outcome : MT := (yX8_outcome, cX8_outcome, 1, (some .int), 0, 0)
theorem kX8_outcome : CB mX8_outcome 0 := ⟨gw_in (i := 1205) (by decide +kernel) (by decide +kernel), gw_in (i := 113) (by decide +kernel) (by decide +kernel), by decide +kernel, by decide +kernel, by decide +kernel⟩
theorem iX8_outcome : Cond.instanceMethod yX8_outcome ∈ gw := gw_in (i := 1203) (by decide +kernel) (by decide +kernel)
theorem vX8_outcome : Cond.selects RX8 yX8_outcome yX8_outcome ∈ gw := gw_in (i := 1204) (by decide +kernel) (by decide +kernel)
abbrev mX9_init : MT := (yX9_init, cX9_init, 2, none, 6, 137)
theorem kX9_init : CB mX9_init 0 := ⟨gw_in (i := 132) (by decide +kernel) (by decide +kernel), gw_in (i := 106) (by decide +kernel) (by decide +kernel), by decide +kernel, by decide +kernel, by decide +kernel⟩
theorem iX9_init : Cond.instanceMethod yX9_init ∈ gw := gw_in (i := 131) (by decide +kernel) (by decide +kernel)
abbrev mX9_feed : MT := (yX9_feed, cX9_feed, 6, (some .int), 1, 22)
theorem kX9_feed : CB mX9_feed 5 := ⟨gw_in (i := 561) (by decide +kernel) (by decide +kernel), gw_in (i := 106) (by decide +kernel) (by decide +kernel), by decide +kernel, by decide +kernel, by decide +kernel⟩
theorem iX9_feed : Cond.instanceMethod yX9_feed ∈ gw := gw_in (i := 559) (by decide +kernel) (by decide +kernel)
theorem vX9_feed : Cond.selects RX9 yX9_feed yX9_feed ∈ gw := gw_in (i := 560) (by decide +kernel) (by decide +kernel)
abbrev mX9_end : MT := (yX9_end, cX9_end, 2, (some .int), 0, 0)
theorem kX9_end : CB mX9_end 1 := ⟨gw_in (i := 569) (by decide +kernel) (by decide +kernel), gw_in (i := 106) (by decide +kernel) (by decide +kernel), by decide +kernel, by decide +kernel, by decide +kernel⟩
theorem iX9_end : Cond.instanceMethod yX9_end ∈ gw := gw_in (i := 567) (by decide +kernel) (by decide +kernel)
theorem vX9_end : Cond.selects RX9 yX9_end yX9_end ∈ gw := gw_in (i := 568) (by decide +kernel) (by decide +kernel)
abbrev mX9_text : MT := (yX9_text, cX9_text, 2, (some .int), 8, 171)
theorem kX9_text : CB mX9_text 0 := ⟨gw_in (i := 573) (by decide +kernel) (by decide +kernel), gw_in (i := 106) (by decide +kernel) (by decide +kernel), by decide +kernel, by decide +kernel, by decide +kernel⟩
theorem iX9_text : Cond.instanceMethod yX9_text ∈ gw := gw_in (i := 571) (by decide +kernel) (by decide +kernel)
theorem vX9_text : Cond.selects RX9 yX9_text yX9_text ∈ gw := gw_in (i := 572) (by decide +kernel) (by decide +kernel)
abbrev mX9_fault : MT := (yX9_fault, cX9_fault, 2, (some .int), 0, 0)
theorem kX9_fault : CB mX9_fault 1 := ⟨gw_in (i := 686) (by decide +kernel) (by decide +kernel), gw_in (i := 106) (by decide +kernel) (by decide +kernel), by decide +kernel, by decide +kernel, by decide +kernel⟩
theorem iX9_fault : Cond.instanceMethod yX9_fault ∈ gw := gw_in (i := 684) (by decide +kernel) (by decide +kernel)
theorem vX9_fault : Cond.selects RX9 yX9_fault yX9_fault ∈ gw := gw_in (i := 685) (by decide +kernel) (by decide +kernel)
abbrev mX9_load : MT := (yX9_load, cX9_load, 3, (some .int), 5, 124)
theorem kX9_load : CB mX9_load 1 := ⟨gw_in (i := 690) (by decide +kernel) (by decide +kernel), gw_in (i := 106) (by decide +kernel) (by decide +kernel), by decide +kernel, by decide +kernel, by decide +kernel⟩
theorem iX9_load : Cond.instanceMethod yX9_load ∈ gw := gw_in (i := 688) (by decide +kernel) (by decide +kernel)
theorem vX9_load : Cond.selects RX9 yX9_load yX9_load ∈ gw := gw_in (i := 689) (by decide +kernel) (by decide +kernel)
abbrev mX9_encode : MT := (yX9_encode, cX9_encode, 4, (some .int), 5, 124)
theorem kX9_encode : CB mX9_encode 1 := ⟨gw_in (i := 712) (by decide +kernel) (by decide +kernel), gw_in (i := 106) (by decide +kernel) (by decide +kernel), by decide +kernel, by decide +kernel, by decide +kernel⟩
theorem iX9_encode : Cond.instanceMethod yX9_encode ∈ gw := gw_in (i := 710) (by decide +kernel) (by decide +kernel)
theorem vX9_encode : Cond.selects RX9 yX9_encode yX9_encode ∈ gw := gw_in (i := 711) (by decide +kernel) (by decide +kernel)
abbrev mX9_raise : MT := (yX9_raise, cX9_raise, 4, (some .boolean), 5, 124)
theorem kX9_raise : CB mX9_raise 2 := ⟨gw_in (i := 723) (by decide +kernel) (by decide +kernel), gw_in (i := 106) (by decide +kernel) (by decide +kernel), by decide +kernel, by decide +kernel, by decide +kernel⟩
theorem iX9_raise : Cond.instanceMethod yX9_raise ∈ gw := gw_in (i := 721) (by decide +kernel) (by decide +kernel)
theorem vX9_raise : Cond.selects RX9 yX9_raise yX9_raise ∈ gw := gw_in (i := 722) (by decide +kernel) (by decide +kernel)
abbrev mX9_slide : MT := (yX9_slide, cX9_slide, 4, (some .boolean), 5, 124)
theorem kX9_slide : CB mX9_slide 2 := ⟨gw_in (i := 735) (by decide +kernel) (by decide +kernel), gw_in (i := 106) (by decide +kernel) (by decide +kernel), by decide +kernel, by decide +kernel, by decide +kernel⟩
theorem iX9_slide : Cond.instanceMethod yX9_slide ∈ gw := gw_in (i := 733) (by decide +kernel) (by decide +kernel)
theorem vX9_slide : Cond.selects RX9 yX9_slide yX9_slide ∈ gw := gw_in (i := 734) (by decide +kernel) (by decide +kernel)
abbrev mX9_hear : MT := (yX9_hear, cX9_hear, 3, (some .boolean), 5, 124)
theorem kX9_hear : CB mX9_hear 2 := ⟨gw_in (i := 739) (by decide +kernel) (by decide +kernel), gw_in (i := 106) (by decide +kernel) (by decide +kernel), by decide +kernel, by decide +kernel, by decide +kernel⟩
theorem iX9_hear : Cond.instanceMethod yX9_hear ∈ gw := gw_in (i := 737) (by decide +kernel) (by decide +kernel)
theorem vX9_hear : Cond.selects RX9 yX9_hear yX9_hear ∈ gw := gw_in (i := 738) (by decide +kernel) (by decide +kernel)
abbrev mX9_send : MT := (yX9_send, cX9_send, 3, (some .int), 5, 124)
theorem kX9_send : CB mX9_send 2 := ⟨gw_in (i := 747) (by decide +kernel) (by decide +kernel), gw_in (i := 106) (by decide +kernel) (by decide +kernel), by decide +kernel, by decide +kernel, by decide +kernel⟩
theorem iX9_send : Cond.instanceMethod yX9_send ∈ gw := gw_in (i := 745) (by decide +kernel) (by decide +kernel)
theorem vX9_send : Cond.selects RX9 yX9_send yX9_send ∈ gw := gw_in (i := 746) (by decide +kernel) (by decide +kernel)
abbrev mX9_begin : MT := (yX9_begin, cX9_begin, 2, (some .int), 5, 124)
theorem kX9_begin : CB mX9_begin 1 := ⟨gw_in (i := 761) (by decide +kernel) (by decide +kernel), gw_in (i := 106) (by decide +kernel) (by decide +kernel), by decide +kernel, by decide +kernel, by decide +kernel⟩
theorem iX9_begin : Cond.instanceMethod yX9_begin ∈ gw := gw_in (i := 759) (by decide +kernel) (by decide +kernel)
theorem vX9_begin : Cond.selects RX9 yX9_begin yX9_begin ∈ gw := gw_in (i := 760) (by decide +kernel) (by decide +kernel)
abbrev mX9_order : MT := (yX9_order, cX9_order, 2, (some .boolean), 5, 124)
theorem kX9_order : CB mX9_order 1 := ⟨gw_in (i := 766) (by decide +kernel) (by decide +kernel), gw_in (i := 106) (by decide +kernel) (by decide +kernel), by decide +kernel, by decide +kernel, by decide +kernel⟩
theorem iX9_order : Cond.instanceMethod yX9_order ∈ gw := gw_in (i := 764) (by decide +kernel) (by decide +kernel)
theorem vX9_order : Cond.selects RX9 yX9_order yX9_order ∈ gw := gw_in (i := 765) (by decide +kernel) (by decide +kernel)
abbrev mX9_step : MT := (yX9_step, cX9_step, 2, (some .int), 5, 124)
theorem kX9_step : CB mX9_step 1 := ⟨gw_in (i := 775) (by decide +kernel) (by decide +kernel), gw_in (i := 106) (by decide +kernel) (by decide +kernel), by decide +kernel, by decide +kernel, by decide +kernel⟩
theorem iX9_step : Cond.instanceMethod yX9_step ∈ gw := gw_in (i := 773) (by decide +kernel) (by decide +kernel)
theorem vX9_step : Cond.selects RX9 yX9_step yX9_step ∈ gw := gw_in (i := 774) (by decide +kernel) (by decide +kernel)
abbrev mX9_undo : MT := (yX9_undo, cX9_undo, 1, (some .int), 3, 83)
theorem kX9_undo : CB mX9_undo 0 := ⟨gw_in (i := 815) (by decide +kernel) (by decide +kernel), gw_in (i := 106) (by decide +kernel) (by decide +kernel), by decide +kernel, by decide +kernel, by decide +kernel⟩
theorem iX9_undo : Cond.instanceMethod yX9_undo ∈ gw := gw_in (i := 813) (by decide +kernel) (by decide +kernel)
theorem vX9_undo : Cond.selects RX9 yX9_undo yX9_undo ∈ gw := gw_in (i := 814) (by decide +kernel) (by decide +kernel)
abbrev mX9_tell : MT := (yX9_tell, cX9_tell, 2, (some .boolean), 0, 0)
theorem kX9_tell : CB mX9_tell 1 := ⟨gw_in (i := 823) (by decide +kernel) (by decide +kernel), gw_in (i := 106) (by decide +kernel) (by decide +kernel), by decide +kernel, by decide +kernel, by decide +kernel⟩
theorem iX9_tell : Cond.instanceMethod yX9_tell ∈ gw := gw_in (i := 821) (by decide +kernel) (by decide +kernel)
theorem vX9_tell : Cond.selects RX9 yX9_tell yX9_tell ∈ gw := gw_in (i := 822) (by decide +kernel) (by decide +kernel)
abbrev mX9_is : MT := (yX9_is, cX9_is, 3, (some .int), 0, 0)
theorem kX9_is : CB mX9_is 1 := ⟨gw_in (i := 827) (by decide +kernel) (by decide +kernel), gw_in (i := 106) (by decide +kernel) (by decide +kernel), by decide +kernel, by decide +kernel, by decide +kernel⟩
theorem iX9_is : Cond.instanceMethod yX9_is ∈ gw := gw_in (i := 825) (by decide +kernel) (by decide +kernel)
theorem vX9_is : Cond.selects RX9 yX9_is yX9_is ∈ gw := gw_in (i := 826) (by decide +kernel) (by decide +kernel)
abbrev mX9_shift : MT := (yX9_shift, cX9_shift, 4, (some .int), 0, 0)
theorem kX9_shift : CB mX9_shift 2 := ⟨gw_in (i := 831) (by decide +kernel) (by decide +kernel), gw_in (i := 106) (by decide +kernel) (by decide +kernel), by decide +kernel, by decide +kernel, by decide +kernel⟩
theorem iX9_shift : Cond.instanceMethod yX9_shift ∈ gw := gw_in (i := 829) (by decide +kernel) (by decide +kernel)
theorem vX9_shift : Cond.selects RX9 yX9_shift yX9_shift ∈ gw := gw_in (i := 830) (by decide +kernel) (by decide +kernel)
abbrev mX9_layer : MT := (yX9_layer, cX9_layer, 2, (some .int), 0, 0)
theorem kX9_layer : CB mX9_layer 1 := ⟨gw_in (i := 835) (by decide +kernel) (by decide +kernel), gw_in (i := 106) (by decide +kernel) (by decide +kernel), by decide +kernel, by decide +kernel, by decide +kernel⟩
theorem iX9_layer : Cond.instanceMethod yX9_layer ∈ gw := gw_in (i := 833) (by decide +kernel) (by decide +kernel)
theorem vX9_layer : Cond.selects RX9 yX9_layer yX9_layer ∈ gw := gw_in (i := 834) (by decide +kernel) (by decide +kernel)
abbrev mX9_has : MT := (yX9_has, cX9_has, 5, (some .int), 3, 67)
theorem kX9_has : CB mX9_has 2 := ⟨gw_in (i := 839) (by decide +kernel) (by decide +kernel), gw_in (i := 106) (by decide +kernel) (by decide +kernel), by decide +kernel, by decide +kernel, by decide +kernel⟩
theorem iX9_has : Cond.instanceMethod yX9_has ∈ gw := gw_in (i := 837) (by decide +kernel) (by decide +kernel)
theorem vX9_has : Cond.selects RX9 yX9_has yX9_has ∈ gw := gw_in (i := 838) (by decide +kernel) (by decide +kernel)
abbrev mX9_both : MT := (yX9_both, cX9_both, 4, (some .int), 1, 21)
theorem kX9_both : CB mX9_both 2 := ⟨gw_in (i := 847) (by decide +kernel) (by decide +kernel), gw_in (i := 106) (by decide +kernel) (by decide +kernel), by decide +kernel, by decide +kernel, by decide +kernel⟩
theorem iX9_both : Cond.instanceMethod yX9_both ∈ gw := gw_in (i := 845) (by decide +kernel) (by decide +kernel)
theorem vX9_both : Cond.selects RX9 yX9_both yX9_both ∈ gw := gw_in (i := 846) (by decide +kernel) (by decide +kernel)
abbrev mX9_loose : MT := (yX9_loose, cX9_loose, 5, (some .long), 0, 0)
theorem kX9_loose : CB mX9_loose 0 := ⟨gw_in (i := 851) (by decide +kernel) (by decide +kernel), gw_in (i := 106) (by decide +kernel) (by decide +kernel), by decide +kernel, by decide +kernel, by decide +kernel⟩
theorem iX9_loose : Cond.instanceMethod yX9_loose ∈ gw := gw_in (i := 849) (by decide +kernel) (by decide +kernel)
theorem vX9_loose : Cond.selects RX9 yX9_loose yX9_loose ∈ gw := gw_in (i := 850) (by decide +kernel) (by decide +kernel)
abbrev mX9_degree : MT := (yX9_degree, cX9_degree, 2, (some .int), 1, 21)
theorem kX9_degree : CB mX9_degree 1 := ⟨gw_in (i := 855) (by decide +kernel) (by decide +kernel), gw_in (i := 106) (by decide +kernel) (by decide +kernel), by decide +kernel, by decide +kernel, by decide +kernel⟩
theorem iX9_degree : Cond.instanceMethod yX9_degree ∈ gw := gw_in (i := 853) (by decide +kernel) (by decide +kernel)
theorem vX9_degree : Cond.selects RX9 yX9_degree yX9_degree ∈ gw := gw_in (i := 854) (by decide +kernel) (by decide +kernel)
abbrev mX9_bit : MT := (yX9_bit, cX9_bit, 4, (some .int), 1, 21)
theorem kX9_bit : CB mX9_bit 2 := ⟨gw_in (i := 865) (by decide +kernel) (by decide +kernel), gw_in (i := 106) (by decide +kernel) (by decide +kernel), by decide +kernel, by decide +kernel, by decide +kernel⟩
theorem iX9_bit : Cond.instanceMethod yX9_bit ∈ gw := gw_in (i := 863) (by decide +kernel) (by decide +kernel)
theorem vX9_bit : Cond.selects RX9 yX9_bit yX9_bit ∈ gw := gw_in (i := 864) (by decide +kernel) (by decide +kernel)
abbrev mX9_message : MT := (yX9_message, cX9_message, 5, (some .int), 1, 21)
theorem kX9_message : CB mX9_message 2 := ⟨gw_in (i := 869) (by decide +kernel) (by decide +kernel), gw_in (i := 106) (by decide +kernel) (by decide +kernel), by decide +kernel, by decide +kernel, by decide +kernel⟩
theorem iX9_message : Cond.instanceMethod yX9_message ∈ gw := gw_in (i := 867) (by decide +kernel) (by decide +kernel)
theorem vX9_message : Cond.selects RX9 yX9_message yX9_message ∈ gw := gw_in (i := 868) (by decide +kernel) (by decide +kernel)
abbrev mX9_odd : MT := (yX9_odd, cX9_odd, 2, (some .boolean), 2, 42)
theorem kX9_odd : CB mX9_odd 1 := ⟨gw_in (i := 873) (by decide +kernel) (by decide +kernel), gw_in (i := 106) (by decide +kernel) (by decide +kernel), by decide +kernel, by decide +kernel, by decide +kernel⟩
theorem iX9_odd : Cond.instanceMethod yX9_odd ∈ gw := gw_in (i := 871) (by decide +kernel) (by decide +kernel)
theorem vX9_odd : Cond.selects RX9 yX9_odd yX9_odd ∈ gw := gw_in (i := 872) (by decide +kernel) (by decide +kernel)
abbrev mX9_book : MT := (yX9_book, cX9_book, 4, (some .int), 1, 21)
theorem kX9_book : CB mX9_book 2 := ⟨gw_in (i := 878) (by decide +kernel) (by decide +kernel), gw_in (i := 106) (by decide +kernel) (by decide +kernel), by decide +kernel, by decide +kernel, by decide +kernel⟩
theorem iX9_book : Cond.instanceMethod yX9_book ∈ gw := gw_in (i := 876) (by decide +kernel) (by decide +kernel)
theorem vX9_book : Cond.selects RX9 yX9_book yX9_book ∈ gw := gw_in (i := 877) (by decide +kernel) (by decide +kernel)
abbrev mX9_turned : MT := (yX9_turned, cX9_turned, 2, (some .int), 1, 21)
theorem kX9_turned : CB mX9_turned 1 := ⟨gw_in (i := 883) (by decide +kernel) (by decide +kernel), gw_in (i := 106) (by decide +kernel) (by decide +kernel), by decide +kernel, by decide +kernel, by decide +kernel⟩
theorem iX9_turned : Cond.instanceMethod yX9_turned ∈ gw := gw_in (i := 881) (by decide +kernel) (by decide +kernel)
theorem vX9_turned : Cond.selects RX9 yX9_turned yX9_turned ∈ gw := gw_in (i := 882) (by decide +kernel) (by decide +kernel)
abbrev mX9_restless : MT := (yX9_restless, cX9_restless, 4, (some .int), 0, 0)
theorem kX9_restless : CB mX9_restless 0 := ⟨gw_in (i := 887) (by decide +kernel) (by decide +kernel), gw_in (i := 106) (by decide +kernel) (by decide +kernel), by decide +kernel, by decide +kernel, by decide +kernel⟩
theorem iX9_restless : Cond.instanceMethod yX9_restless ∈ gw := gw_in (i := 885) (by decide +kernel) (by decide +kernel)
theorem vX9_restless : Cond.selects RX9 yX9_restless yX9_restless ∈ gw := gw_in (i := 886) (by decide +kernel) (by decide +kernel)
abbrev mX9_guess : MT := (yX9_guess, cX9_guess, 1, (some .long), 0, 0)
theorem kX9_guess : CB mX9_guess 0 := ⟨gw_in (i := 891) (by decide +kernel) (by decide +kernel), gw_in (i := 106) (by decide +kernel) (by decide +kernel), by decide +kernel, by decide +kernel, by decide +kernel⟩
theorem iX9_guess : Cond.instanceMethod yX9_guess ∈ gw := gw_in (i := 889) (by decide +kernel) (by decide +kernel)
theorem vX9_guess : Cond.selects RX9 yX9_guess yX9_guess ∈ gw := gw_in (i := 890) (by decide +kernel) (by decide +kernel)
abbrev mX9_sent : MT := (yX9_sent, cX9_sent, 1, (some .long), 0, 0)
theorem kX9_sent : CB mX9_sent 0 := ⟨gw_in (i := 895) (by decide +kernel) (by decide +kernel), gw_in (i := 106) (by decide +kernel) (by decide +kernel), by decide +kernel, by decide +kernel, by decide +kernel⟩
theorem iX9_sent : Cond.instanceMethod yX9_sent ∈ gw := gw_in (i := 893) (by decide +kernel) (by decide +kernel)
theorem vX9_sent : Cond.selects RX9 yX9_sent yX9_sent ∈ gw := gw_in (i := 894) (by decide +kernel) (by decide +kernel)
abbrev mX9_wrong : MT := (yX9_wrong, cX9_wrong, 1, (some .int), 1, 21)
theorem kX9_wrong : CB mX9_wrong 0 := ⟨gw_in (i := 899) (by decide +kernel) (by decide +kernel), gw_in (i := 106) (by decide +kernel) (by decide +kernel), by decide +kernel, by decide +kernel, by decide +kernel⟩
theorem iX9_wrong : Cond.instanceMethod yX9_wrong ∈ gw := gw_in (i := 897) (by decide +kernel) (by decide +kernel)
theorem vX9_wrong : Cond.selects RX9 yX9_wrong yX9_wrong ∈ gw := gw_in (i := 898) (by decide +kernel) (by decide +kernel)
abbrev mX9_rank : MT := (yX9_rank, cX9_rank, 1, (some .int), 0, 0)
theorem kX9_rank : CB mX9_rank 0 := ⟨gw_in (i := 903) (by decide +kernel) (by decide +kernel), gw_in (i := 106) (by decide +kernel) (by decide +kernel), by decide +kernel, by decide +kernel, by decide +kernel⟩
theorem iX9_rank : Cond.instanceMethod yX9_rank ∈ gw := gw_in (i := 901) (by decide +kernel) (by decide +kernel)
theorem vX9_rank : Cond.selects RX9 yX9_rank yX9_rank ∈ gw := gw_in (i := 902) (by decide +kernel) (by decide +kernel)
abbrev mX9_carrier : MT := (yX9_carrier, cX9_carrier, 2, (some .int), 3, 67)
theorem kX9_carrier : CB mX9_carrier 1 := ⟨gw_in (i := 907) (by decide +kernel) (by decide +kernel), gw_in (i := 106) (by decide +kernel) (by decide +kernel), by decide +kernel, by decide +kernel, by decide +kernel⟩
theorem iX9_carrier : Cond.instanceMethod yX9_carrier ∈ gw := gw_in (i := 905) (by decide +kernel) (by decide +kernel)
theorem vX9_carrier : Cond.selects RX9 yX9_carrier yX9_carrier ∈ gw := gw_in (i := 906) (by decide +kernel) (by decide +kernel)
abbrev mX9_girth : MT := (yX9_girth, cX9_girth, 1, (some .int), 2, 55)
theorem kX9_girth : CB mX9_girth 0 := ⟨gw_in (i := 911) (by decide +kernel) (by decide +kernel), gw_in (i := 106) (by decide +kernel) (by decide +kernel), by decide +kernel, by decide +kernel, by decide +kernel⟩
theorem iX9_girth : Cond.instanceMethod yX9_girth ∈ gw := gw_in (i := 909) (by decide +kernel) (by decide +kernel)
theorem vX9_girth : Cond.selects RX9 yX9_girth yX9_girth ∈ gw := gw_in (i := 910) (by decide +kernel) (by decide +kernel)
abbrev mX9_fours : MT := (yX9_fours, cX9_fours, 1, (some .int), 2, 45)
theorem kX9_fours : CB mX9_fours 0 := ⟨gw_in (i := 922) (by decide +kernel) (by decide +kernel), gw_in (i := 106) (by decide +kernel) (by decide +kernel), by decide +kernel, by decide +kernel, by decide +kernel⟩
theorem iX9_fours : Cond.instanceMethod yX9_fours ∈ gw := gw_in (i := 920) (by decide +kernel) (by decide +kernel)
theorem vX9_fours : Cond.selects RX9 yX9_fours yX9_fours ∈ gw := gw_in (i := 921) (by decide +kernel) (by decide +kernel)
abbrev mX9_sixes : MT := (yX9_sixes, cX9_sixes, 1, (some .int), 3, 74)
theorem kX9_sixes : CB mX9_sixes 0 := ⟨gw_in (i := 930) (by decide +kernel) (by decide +kernel), gw_in (i := 106) (by decide +kernel) (by decide +kernel), by decide +kernel, by decide +kernel, by decide +kernel⟩
theorem iX9_sixes : Cond.instanceMethod yX9_sixes ∈ gw := gw_in (i := 928) (by decide +kernel) (by decide +kernel)
theorem vX9_sixes : Cond.selects RX9 yX9_sixes yX9_sixes ∈ gw := gw_in (i := 929) (by decide +kernel) (by decide +kernel)
abbrev mX9_path : MT := (yX9_path, cX9_path, 3, (some .int), 1, 30)
theorem kX9_path : CB mX9_path 2 := ⟨gw_in (i := 940) (by decide +kernel) (by decide +kernel), gw_in (i := 106) (by decide +kernel) (by decide +kernel), by decide +kernel, by decide +kernel, by decide +kernel⟩
theorem iX9_path : Cond.instanceMethod yX9_path ∈ gw := gw_in (i := 938) (by decide +kernel) (by decide +kernel)
theorem vX9_path : Cond.selects RX9 yX9_path yX9_path ∈ gw := gw_in (i := 939) (by decide +kernel) (by decide +kernel)
abbrev mX9_pieces : MT := (yX9_pieces, cX9_pieces, 1, (some .int), 2, 51)
theorem kX9_pieces : CB mX9_pieces 0 := ⟨gw_in (i := 945) (by decide +kernel) (by decide +kernel), gw_in (i := 106) (by decide +kernel) (by decide +kernel), by decide +kernel, by decide +kernel, by decide +kernel⟩
theorem iX9_pieces : Cond.instanceMethod yX9_pieces ∈ gw := gw_in (i := 943) (by decide +kernel) (by decide +kernel)
theorem vX9_pieces : Cond.selects RX9 yX9_pieces yX9_pieces ∈ gw := gw_in (i := 944) (by decide +kernel) (by decide +kernel)
abbrev mX9_odds : MT := (yX9_odds, cX9_odds, 3, (some .int), 2, 45)
theorem kX9_odds : CB mX9_odds 1 := ⟨gw_in (i := 955) (by decide +kernel) (by decide +kernel), gw_in (i := 106) (by decide +kernel) (by decide +kernel), by decide +kernel, by decide +kernel, by decide +kernel⟩
theorem iX9_odds : Cond.instanceMethod yX9_odds ∈ gw := gw_in (i := 953) (by decide +kernel) (by decide +kernel)
theorem vX9_odds : Cond.selects RX9 yX9_odds yX9_odds ∈ gw := gw_in (i := 954) (by decide +kernel) (by decide +kernel)
abbrev mX9_knot : MT := (yX9_knot, cX9_knot, 7, (some .boolean), 2, 43)
theorem kX9_knot : CB mX9_knot 1 := ⟨gw_in (i := 964) (by decide +kernel) (by decide +kernel), gw_in (i := 106) (by decide +kernel) (by decide +kernel), by decide +kernel, by decide +kernel, by decide +kernel⟩
theorem iX9_knot : Cond.instanceMethod yX9_knot ∈ gw := gw_in (i := 962) (by decide +kernel) (by decide +kernel)
theorem vX9_knot : Cond.selects RX9 yX9_knot yX9_knot ∈ gw := gw_in (i := 963) (by decide +kernel) (by decide +kernel)
abbrev mX9_knots : MT := (yX9_knots, cX9_knots, 2, (some .int), 7, 163)
theorem kX9_knots : CB mX9_knots 1 := ⟨gw_in (i := 977) (by decide +kernel) (by decide +kernel), gw_in (i := 106) (by decide +kernel) (by decide +kernel), by decide +kernel, by decide +kernel, by decide +kernel⟩
theorem iX9_knots : Cond.instanceMethod yX9_knots ∈ gw := gw_in (i := 975) (by decide +kernel) (by decide +kernel)
theorem vX9_knots : Cond.selects RX9 yX9_knots yX9_knots ∈ gw := gw_in (i := 976) (by decide +kernel) (by decide +kernel)
abbrev mX9_least : MT := (yX9_least, cX9_least, 3, (some .long), 7, 162)
theorem kX9_least : CB mX9_least 2 := ⟨gw_in (i := 1053) (by decide +kernel) (by decide +kernel), gw_in (i := 106) (by decide +kernel) (by decide +kernel), by decide +kernel, by decide +kernel, by decide +kernel⟩
theorem iX9_least : Cond.instanceMethod yX9_least ∈ gw := gw_in (i := 1051) (by decide +kernel) (by decide +kernel)
theorem vX9_least : Cond.selects RX9 yX9_least yX9_least ∈ gw := gw_in (i := 1052) (by decide +kernel) (by decide +kernel)
abbrev mX9_stoppers : MT := (yX9_stoppers, cX9_stoppers, 2, (some .int), 7, 163)
theorem kX9_stoppers : CB mX9_stoppers 1 := ⟨gw_in (i := 1061) (by decide +kernel) (by decide +kernel), gw_in (i := 106) (by decide +kernel) (by decide +kernel), by decide +kernel, by decide +kernel, by decide +kernel⟩
theorem iX9_stoppers : Cond.instanceMethod yX9_stoppers ∈ gw := gw_in (i := 1059) (by decide +kernel) (by decide +kernel)
theorem vX9_stoppers : Cond.selects RX9 yX9_stoppers yX9_stoppers ∈ gw := gw_in (i := 1060) (by decide +kernel) (by decide +kernel)
abbrev mX9_words : MT := (yX9_words, cX9_words, 2, (some .int), 7, 163)
theorem kX9_words : CB mX9_words 1 := ⟨gw_in (i := 1065) (by decide +kernel) (by decide +kernel), gw_in (i := 106) (by decide +kernel) (by decide +kernel), by decide +kernel, by decide +kernel, by decide +kernel⟩
theorem iX9_words : Cond.instanceMethod yX9_words ∈ gw := gw_in (i := 1063) (by decide +kernel) (by decide +kernel)
theorem vX9_words : Cond.selects RX9 yX9_words yX9_words ∈ gw := gw_in (i := 1064) (by decide +kernel) (by decide +kernel)
abbrev mX9_trapped : MT := (yX9_trapped, cX9_trapped, 6, (some .int), 7, 162)
theorem kX9_trapped : CB mX9_trapped 3 := ⟨gw_in (i := 1069) (by decide +kernel) (by decide +kernel), gw_in (i := 106) (by decide +kernel) (by decide +kernel), by decide +kernel, by decide +kernel, by decide +kernel⟩
theorem iX9_trapped : Cond.instanceMethod yX9_trapped ∈ gw := gw_in (i := 1067) (by decide +kernel) (by decide +kernel)
theorem vX9_trapped : Cond.selects RX9 yX9_trapped yX9_trapped ∈ gw := gw_in (i := 1068) (by decide +kernel) (by decide +kernel)
abbrev mX9_traps : MT := (yX9_traps, cX9_traps, 7, (some .int), 7, 162)
theorem kX9_traps : CB mX9_traps 2 := ⟨gw_in (i := 1078) (by decide +kernel) (by decide +kernel), gw_in (i := 106) (by decide +kernel) (by decide +kernel), by decide +kernel, by decide +kernel, by decide +kernel⟩
theorem iX9_traps : Cond.instanceMethod yX9_traps ∈ gw := gw_in (i := 1076) (by decide +kernel) (by decide +kernel)
theorem vX9_traps : Cond.selects RX9 yX9_traps yX9_traps ∈ gw := gw_in (i := 1077) (by decide +kernel) (by decide +kernel)
abbrev mX9_weakest : MT := (yX9_weakest, cX9_weakest, 6, (some .long), 7, 162)
theorem kX9_weakest : CB mX9_weakest 1 := ⟨gw_in (i := 1082) (by decide +kernel) (by decide +kernel), gw_in (i := 106) (by decide +kernel) (by decide +kernel), by decide +kernel, by decide +kernel, by decide +kernel⟩
theorem iX9_weakest : Cond.instanceMethod yX9_weakest ∈ gw := gw_in (i := 1080) (by decide +kernel) (by decide +kernel)
theorem vX9_weakest : Cond.selects RX9 yX9_weakest yX9_weakest ∈ gw := gw_in (i := 1081) (by decide +kernel) (by decide +kernel)
abbrev mX9_peeled : MT := (yX9_peeled, cX9_peeled, 3, (some .long), 2, 51)
theorem kX9_peeled : CB mX9_peeled 1 := ⟨gw_in (i := 1086) (by decide +kernel) (by decide +kernel), gw_in (i := 106) (by decide +kernel) (by decide +kernel), by decide +kernel, by decide +kernel, by decide +kernel⟩
theorem iX9_peeled : Cond.instanceMethod yX9_peeled ∈ gw := gw_in (i := 1084) (by decide +kernel) (by decide +kernel)
theorem vX9_peeled : Cond.selects RX9 yX9_peeled yX9_peeled ∈ gw := gw_in (i := 1085) (by decide +kernel) (by decide +kernel)
abbrev mX9_known : MT := (yX9_known, cX9_known, 3, (some .int), 2, 51)
theorem kX9_known : CB mX9_known 1 := ⟨gw_in (i := 1094) (by decide +kernel) (by decide +kernel), gw_in (i := 106) (by decide +kernel) (by decide +kernel), by decide +kernel, by decide +kernel, by decide +kernel⟩
theorem iX9_known : Cond.instanceMethod yX9_known ∈ gw := gw_in (i := 1092) (by decide +kernel) (by decide +kernel)
theorem vX9_known : Cond.selects RX9 yX9_known yX9_known ∈ gw := gw_in (i := 1093) (by decide +kernel) (by decide +kernel)
abbrev mX9_erasable : MT := (yX9_erasable, cX9_erasable, 2, (some .int), 7, 163)
theorem kX9_erasable : CB mX9_erasable 1 := ⟨gw_in (i := 1098) (by decide +kernel) (by decide +kernel), gw_in (i := 106) (by decide +kernel) (by decide +kernel), by decide +kernel, by decide +kernel, by decide +kernel⟩
theorem iX9_erasable : Cond.instanceMethod yX9_erasable ∈ gw := gw_in (i := 1096) (by decide +kernel) (by decide +kernel)
theorem vX9_erasable : Cond.selects RX9 yX9_erasable yX9_erasable ∈ gw := gw_in (i := 1097) (by decide +kernel) (by decide +kernel)
abbrev mX9_cost : MT := (yX9_cost, cX9_cost, 3, (some .int), 2, 45)
theorem kX9_cost : CB mX9_cost 1 := ⟨gw_in (i := 1102) (by decide +kernel) (by decide +kernel), gw_in (i := 106) (by decide +kernel) (by decide +kernel), by decide +kernel, by decide +kernel, by decide +kernel⟩
theorem iX9_cost : Cond.instanceMethod yX9_cost ∈ gw := gw_in (i := 1100) (by decide +kernel) (by decide +kernel)
theorem vX9_cost : Cond.selects RX9 yX9_cost yX9_cost ∈ gw := gw_in (i := 1101) (by decide +kernel) (by decide +kernel)
abbrev mX9_likeliest : MT := (yX9_likeliest, cX9_likeliest, 6, (some .long), 4, 95)
theorem kX9_likeliest : CB mX9_likeliest 0 := ⟨gw_in (i := 1113) (by decide +kernel) (by decide +kernel), gw_in (i := 106) (by decide +kernel) (by decide +kernel), by decide +kernel, by decide +kernel, by decide +kernel⟩
theorem iX9_likeliest : Cond.instanceMethod yX9_likeliest ∈ gw := gw_in (i := 1111) (by decide +kernel) (by decide +kernel)
theorem vX9_likeliest : Cond.selects RX9 yX9_likeliest yX9_likeliest ∈ gw := gw_in (i := 1112) (by decide +kernel) (by decide +kernel)
abbrev mX9_lightest : MT := (yX9_lightest, cX9_lightest, 4, (some .int), 4, 95)
theorem kX9_lightest : CB mX9_lightest 0 := ⟨gw_in (i := 1127) (by decide +kernel) (by decide +kernel), gw_in (i := 106) (by decide +kernel) (by decide +kernel), by decide +kernel, by decide +kernel, by decide +kernel⟩
theorem iX9_lightest : Cond.instanceMethod yX9_lightest ∈ gw := gw_in (i := 1125) (by decide +kernel) (by decide +kernel)
theorem vX9_lightest : Cond.selects RX9 yX9_lightest yX9_lightest ∈ gw := gw_in (i := 1126) (by decide +kernel) (by decide +kernel)
abbrev mX9_spectrum : MT := (yX9_spectrum, cX9_spectrum, 4, (some .int), 4, 95)
theorem kX9_spectrum : CB mX9_spectrum 1 := ⟨gw_in (i := 1131) (by decide +kernel) (by decide +kernel), gw_in (i := 106) (by decide +kernel) (by decide +kernel), by decide +kernel, by decide +kernel, by decide +kernel⟩
theorem iX9_spectrum : Cond.instanceMethod yX9_spectrum ∈ gw := gw_in (i := 1129) (by decide +kernel) (by decide +kernel)
theorem vX9_spectrum : Cond.selects RX9 yX9_spectrum yX9_spectrum ∈ gw := gw_in (i := 1130) (by decide +kernel) (by decide +kernel)
abbrev mX9_nearest : MT := (yX9_nearest, cX9_nearest, 6, (some .long), 4, 95)
theorem kX9_nearest : CB mX9_nearest 0 := ⟨gw_in (i := 1135) (by decide +kernel) (by decide +kernel), gw_in (i := 106) (by decide +kernel) (by decide +kernel), by decide +kernel, by decide +kernel, by decide +kernel⟩
theorem iX9_nearest : Cond.instanceMethod yX9_nearest ∈ gw := gw_in (i := 1133) (by decide +kernel) (by decide +kernel)
theorem vX9_nearest : Cond.selects RX9 yX9_nearest yX9_nearest ∈ gw := gw_in (i := 1134) (by decide +kernel) (by decide +kernel)
abbrev mX9_pipe : MT := (yX9_pipe, cX9_pipe, 4, (some .int), 5, 120)
theorem kX9_pipe : CB mX9_pipe 3 := ⟨gw_in (i := 1139) (by decide +kernel) (by decide +kernel), gw_in (i := 106) (by decide +kernel) (by decide +kernel), by decide +kernel, by decide +kernel, by decide +kernel⟩
theorem iX9_pipe : Cond.instanceMethod yX9_pipe ∈ gw := gw_in (i := 1137) (by decide +kernel) (by decide +kernel)
theorem vX9_pipe : Cond.selects RX9 yX9_pipe yX9_pipe ∈ gw := gw_in (i := 1138) (by decide +kernel) (by decide +kernel)
abbrev mX9_quietest : MT := (yX9_quietest, cX9_quietest, 6, (some .int), 5, 120)
theorem kX9_quietest : CB mX9_quietest 1 := ⟨gw_in (i := 1164) (by decide +kernel) (by decide +kernel), gw_in (i := 106) (by decide +kernel) (by decide +kernel), by decide +kernel, by decide +kernel, by decide +kernel⟩
theorem iX9_quietest : Cond.instanceMethod yX9_quietest ∈ gw := gw_in (i := 1162) (by decide +kernel) (by decide +kernel)
theorem vX9_quietest : Cond.selects RX9 yX9_quietest yX9_quietest ∈ gw := gw_in (i := 1163) (by decide +kernel) (by decide +kernel)
abbrev mX9_clashes : MT := (yX9_clashes, cX9_clashes, 2, (some .int), 5, 120)
theorem kX9_clashes : CB mX9_clashes 1 := ⟨gw_in (i := 1168) (by decide +kernel) (by decide +kernel), gw_in (i := 106) (by decide +kernel) (by decide +kernel), by decide +kernel, by decide +kernel, by decide +kernel⟩
theorem iX9_clashes : Cond.instanceMethod yX9_clashes ∈ gw := gw_in (i := 1166) (by decide +kernel) (by decide +kernel)
theorem vX9_clashes : Cond.selects RX9 yX9_clashes yX9_clashes ∈ gw := gw_in (i := 1167) (by decide +kernel) (by decide +kernel)
abbrev mX9_calmest : MT := (yX9_calmest, cX9_calmest, 6, (some .int), 5, 120)
theorem kX9_calmest : CB mX9_calmest 0 := ⟨gw_in (i := 1177) (by decide +kernel) (by decide +kernel), gw_in (i := 106) (by decide +kernel) (by decide +kernel), by decide +kernel, by decide +kernel, by decide +kernel⟩
theorem iX9_calmest : Cond.instanceMethod yX9_calmest ∈ gw := gw_in (i := 1175) (by decide +kernel) (by decide +kernel)
theorem vX9_calmest : Cond.selects RX9 yX9_calmest yX9_calmest ∈ gw := gw_in (i := 1176) (by decide +kernel) (by decide +kernel)
abbrev mX9_foretold : MT := (yX9_foretold, cX9_foretold, 2, (some .int), 5, 121)
theorem kX9_foretold : CB mX9_foretold 1 := ⟨gw_in (i := 1181) (by decide +kernel) (by decide +kernel), gw_in (i := 106) (by decide +kernel) (by decide +kernel), by decide +kernel, by decide +kernel, by decide +kernel⟩
theorem iX9_foretold : Cond.instanceMethod yX9_foretold ∈ gw := gw_in (i := 1179) (by decide +kernel) (by decide +kernel)
theorem vX9_foretold : Cond.selects RX9 yX9_foretold yX9_foretold ∈ gw := gw_in (i := 1180) (by decide +kernel) (by decide +kernel)
abbrev mX9_believed : MT := (yX9_believed, cX9_believed, 3, (some .int), 5, 121)
theorem kX9_believed : CB mX9_believed 2 := ⟨gw_in (i := 1185) (by decide +kernel) (by decide +kernel), gw_in (i := 106) (by decide +kernel) (by decide +kernel), by decide +kernel, by decide +kernel, by decide +kernel⟩
theorem iX9_believed : Cond.instanceMethod yX9_believed ∈ gw := gw_in (i := 1183) (by decide +kernel) (by decide +kernel)
theorem vX9_believed : Cond.selects RX9 yX9_believed yX9_believed ∈ gw := gw_in (i := 1184) (by decide +kernel) (by decide +kernel)
abbrev mX9_till : MT := (yX9_till, cX9_till, 1, (some .int), 5, 121)
theorem kX9_till : CB mX9_till 0 := ⟨gw_in (i := 1189) (by decide +kernel) (by decide +kernel), gw_in (i := 106) (by decide +kernel) (by decide +kernel), by decide +kernel, by decide +kernel, by decide +kernel⟩
theorem iX9_till : Cond.instanceMethod yX9_till ∈ gw := gw_in (i := 1187) (by decide +kernel) (by decide +kernel)
theorem vX9_till : Cond.selects RX9 yX9_till yX9_till ∈ gw := gw_in (i := 1188) (by decide +kernel) (by decide +kernel)
abbrev mX9_fewer : MT := (yX9_fewer, cX9_fewer, 3, (some .int), 6, 142)
theorem kX9_fewer : CB mX9_fewer 0 := ⟨gw_in (i := 1193) (by decide +kernel) (by decide +kernel), gw_in (i := 106) (by decide +kernel) (by decide +kernel), by decide +kernel, by decide +kernel, by decide +kernel⟩
theorem iX9_fewer : Cond.instanceMethod yX9_fewer ∈ gw := gw_in (i := 1191) (by decide +kernel) (by decide +kernel)
theorem vX9_fewer : Cond.selects RX9 yX9_fewer yX9_fewer ∈ gw := gw_in (i := 1192) (by decide +kernel) (by decide +kernel)
abbrev mX9_trials : MT := (yX9_trials, cX9_trials, 7, (some .int), 5, 121)
theorem kX9_trials : CB mX9_trials 4 := ⟨gw_in (i := 1201) (by decide +kernel) (by decide +kernel), gw_in (i := 106) (by decide +kernel) (by decide +kernel), by decide +kernel, by decide +kernel, by decide +kernel⟩
theorem iX9_trials : Cond.instanceMethod yX9_trials ∈ gw := gw_in (i := 1199) (by decide +kernel) (by decide +kernel)
theorem vX9_trials : Cond.selects RX9 yX9_trials yX9_trials ∈ gw := gw_in (i := 1200) (by decide +kernel) (by decide +kernel)
abbrev mX9_mean : MT := (yX9_mean, cX9_mean, 3, (some .long), 1, 28)
theorem kX9_mean : CB mX9_mean 0 := ⟨gw_in (i := 1209) (by decide +kernel) (by decide +kernel), gw_in (i := 106) (by decide +kernel) (by decide +kernel), by decide +kernel, by decide +kernel, by decide +kernel⟩
theorem iX9_mean : Cond.instanceMethod yX9_mean ∈ gw := gw_in (i := 1207) (by decide +kernel) (by decide +kernel)
theorem vX9_mean : Cond.selects RX9 yX9_mean yX9_mean ∈ gw := gw_in (i := 1208) (by decide +kernel) (by decide +kernel)
abbrev mX9_image : MT := (yX9_image, cX9_image, 1, (some .int), 5, 128)
theorem kX9_image : CB mX9_image 0 := ⟨gw_in (i := 1219) (by decide +kernel) (by decide +kernel), gw_in (i := 106) (by decide +kernel) (by decide +kernel), by decide +kernel, by decide +kernel, by decide +kernel⟩
theorem iX9_image : Cond.instanceMethod yX9_image ∈ gw := gw_in (i := 1217) (by decide +kernel) (by decide +kernel)
theorem vX9_image : Cond.selects RX9 yX9_image yX9_image ∈ gw := gw_in (i := 1218) (by decide +kernel) (by decide +kernel)
abbrev mX9_back : MT := (yX9_back, cX9_back, 1, (some .int), 5, 128)
theorem kX9_back : CB mX9_back 0 := ⟨gw_in (i := 1232) (by decide +kernel) (by decide +kernel), gw_in (i := 106) (by decide +kernel) (by decide +kernel), by decide +kernel, by decide +kernel, by decide +kernel⟩
theorem iX9_back : Cond.instanceMethod yX9_back ∈ gw := gw_in (i := 1230) (by decide +kernel) (by decide +kernel)
theorem vX9_back : Cond.selects RX9 yX9_back yX9_back ∈ gw := gw_in (i := 1231) (by decide +kernel) (by decide +kernel)
abbrev mX9_about : MT := (yX9_about, cX9_about, 2, (some .int), 1, 22)
theorem kX9_about : CB mX9_about 1 := ⟨gw_in (i := 1236) (by decide +kernel) (by decide +kernel), gw_in (i := 106) (by decide +kernel) (by decide +kernel), by decide +kernel, by decide +kernel, by decide +kernel⟩
theorem iX9_about : Cond.instanceMethod yX9_about ∈ gw := gw_in (i := 1234) (by decide +kernel) (by decide +kernel)
theorem vX9_about : Cond.selects RX9 yX9_about yX9_about ∈ gw := gw_in (i := 1235) (by decide +kernel) (by decide +kernel)
abbrev mX9_keep : MT := (yX9_keep, cX9_keep, 1, none, 4, 104)
theorem kX9_keep : CB mX9_keep 0 := ⟨gw_in (i := 694) (by decide +kernel) (by decide +kernel), gw_in (i := 106) (by decide +kernel) (by decide +kernel), by decide +kernel, by decide +kernel, by decide +kernel⟩
theorem iX9_keep : Cond.instanceMethod yX9_keep ∈ gw := gw_in (i := 693) (by decide +kernel) (by decide +kernel)
theorem vX9_keep : Cond.selects RX9 yX9_keep yX9_keep ∈ gw := gw_in (i := 11) (by decide +kernel) (by decide +kernel)
abbrev mX9_isBit : MT := (yX9_isBit, cX9_isBit, 2, (some .boolean), 0, 0)
theorem kX9_isBit : CB mX9_isBit 1 := ⟨gw_in (i := 743) (by decide +kernel) (by decide +kernel), gw_in (i := 106) (by decide +kernel) (by decide +kernel), by decide +kernel, by decide +kernel, by decide +kernel⟩
theorem iX9_isBit : Cond.instanceMethod yX9_isBit ∈ gw := gw_in (i := 742) (by decide +kernel) (by decide +kernel)
theorem vX9_isBit : Cond.selects RX9 yX9_isBit yX9_isBit ∈ gw := gw_in (i := 13) (by decide +kernel) (by decide +kernel)
abbrev mX9_isCheck : MT := (yX9_isCheck, cX9_isCheck, 2, (some .boolean), 0, 0)
theorem kX9_isCheck : CB mX9_isCheck 1 := ⟨gw_in (i := 843) (by decide +kernel) (by decide +kernel), gw_in (i := 106) (by decide +kernel) (by decide +kernel), by decide +kernel, by decide +kernel, by decide +kernel⟩
theorem iX9_isCheck : Cond.instanceMethod yX9_isCheck ∈ gw := gw_in (i := 842) (by decide +kernel) (by decide +kernel)
theorem vX9_isCheck : Cond.selects RX9 yX9_isCheck yX9_isCheck ∈ gw := gw_in (i := 21) (by decide +kernel) (by decide +kernel)
abbrev mX9_isSet : MT := (yX9_isSet, cX9_isSet, 3, (some .boolean), 0, 0)
theorem kX9_isSet : CB mX9_isSet 1 := ⟨gw_in (i := 959) (by decide +kernel) (by decide +kernel), gw_in (i := 106) (by decide +kernel) (by decide +kernel), by decide +kernel, by decide +kernel, by decide +kernel⟩
theorem iX9_isSet : Cond.instanceMethod yX9_isSet ∈ gw := gw_in (i := 958) (by decide +kernel) (by decide +kernel)
theorem vX9_isSet : Cond.selects RX9 yX9_isSet yX9_isSet ∈ gw := gw_in (i := 22) (by decide +kernel) (by decide +kernel)
abbrev mX9_isOrder : MT := (yX9_isOrder, cX9_isOrder, 2, (some .boolean), 1, 22)
theorem kX9_isOrder : CB mX9_isOrder 1 := ⟨gw_in (i := 770) (by decide +kernel) (by decide +kernel), gw_in (i := 106) (by decide +kernel) (by decide +kernel), by decide +kernel, by decide +kernel, by decide +kernel⟩
theorem iX9_isOrder : Cond.instanceMethod yX9_isOrder ∈ gw := gw_in (i := 769) (by decide +kernel) (by decide +kernel)
theorem vX9_isOrder : Cond.selects RX9 yX9_isOrder yX9_isOrder ∈ gw := gw_in (i := 14) (by decide +kernel) (by decide +kernel)
abbrev mX9_isMany : MT := (yX9_isMany, cX9_isMany, 1, (some .boolean), 0, 0)
theorem kX9_isMany : CB mX9_isMany 1 := ⟨gw_in (i := 980) (by decide +kernel) (by decide +kernel), gw_in (i := 106) (by decide +kernel) (by decide +kernel), by decide +kernel, by decide +kernel, by decide +kernel⟩
theorem sX9_isMany : Cond.static yX9_isMany ∈ gw := gw_in (i := 979) (by decide +kernel) (by decide +kernel)
abbrev mX9_isLevel : MT := (yX9_isLevel, cX9_isLevel, 1, (some .boolean), 0, 0)
theorem kX9_isLevel : CB mX9_isLevel 1 := ⟨gw_in (i := 750) (by decide +kernel) (by decide +kernel), gw_in (i := 106) (by decide +kernel) (by decide +kernel), by decide +kernel, by decide +kernel, by decide +kernel⟩
theorem sX9_isLevel : Cond.static yX9_isLevel ∈ gw := gw_in (i := 749) (by decide +kernel) (by decide +kernel)
abbrev mX9_isSpoil : MT := (yX9_isSpoil, cX9_isSpoil, 1, (some .boolean), 0, 0)
theorem kX9_isSpoil : CB mX9_isSpoil 1 := ⟨gw_in (i := 753) (by decide +kernel) (by decide +kernel), gw_in (i := 106) (by decide +kernel) (by decide +kernel), by decide +kernel, by decide +kernel, by decide +kernel⟩
theorem sX9_isSpoil : Cond.static yX9_isSpoil ∈ gw := gw_in (i := 752) (by decide +kernel) (by decide +kernel)
abbrev mX9_isSteps : MT := (yX9_isSteps, cX9_isSteps, 1, (some .boolean), 0, 0)
theorem kX9_isSteps : CB mX9_isSteps 1 := ⟨gw_in (i := 778) (by decide +kernel) (by decide +kernel), gw_in (i := 106) (by decide +kernel) (by decide +kernel), by decide +kernel, by decide +kernel, by decide +kernel⟩
theorem sX9_isSteps : Cond.static yX9_isSteps ∈ gw := gw_in (i := 777) (by decide +kernel) (by decide +kernel)
abbrev mX9_isLatency : MT := (yX9_isLatency, cX9_isLatency, 1, (some .boolean), 0, 0)
theorem kX9_isLatency : CB mX9_isLatency 1 := ⟨gw_in (i := 1142) (by decide +kernel) (by decide +kernel), gw_in (i := 106) (by decide +kernel) (by decide +kernel), by decide +kernel, by decide +kernel, by decide +kernel⟩
theorem sX9_isLatency : Cond.static yX9_isLatency ∈ gw := gw_in (i := 1141) (by decide +kernel) (by decide +kernel)
abbrev mX9_trap : MT := (yX9_trap, cX9_trap, 5, (some .int), 5, 121)
theorem kX9_trap : CB mX9_trap 2 := ⟨gw_in (i := 1073) (by decide +kernel) (by decide +kernel), gw_in (i := 106) (by decide +kernel) (by decide +kernel), by decide +kernel, by decide +kernel, by decide +kernel⟩
theorem iX9_trap : Cond.instanceMethod yX9_trap ∈ gw := gw_in (i := 1072) (by decide +kernel) (by decide +kernel)
theorem vX9_trap : Cond.selects RX9 yX9_trap yX9_trap ∈ gw := gw_in (i := 37) (by decide +kernel) (by decide +kernel)
abbrev mX9_sweepsBy : MT := (yX9_sweepsBy, cX9_sweepsBy, 2, (some .int), 5, 121)
theorem kX9_sweepsBy : CB mX9_sweepsBy 1 := ⟨gw_in (i := 1197) (by decide +kernel) (by decide +kernel), gw_in (i := 106) (by decide +kernel) (by decide +kernel), by decide +kernel, by decide +kernel, by decide +kernel⟩
theorem iX9_sweepsBy : Cond.instanceMethod yX9_sweepsBy ∈ gw := gw_in (i := 1196) (by decide +kernel) (by decide +kernel)
theorem vX9_sweepsBy : Cond.selects RX9 yX9_sweepsBy yX9_sweepsBy ∈ gw := gw_in (i := 40) (by decide +kernel) (by decide +kernel)
abbrev mX9_isOdd : MT := (yX9_isOdd, cX9_isOdd, 2, (some .boolean), 1, 21)
theorem kX9_isOdd : CB mX9_isOdd 1 := ⟨gw_in (i := 719) (by decide +kernel) (by decide +kernel), gw_in (i := 106) (by decide +kernel) (by decide +kernel), by decide +kernel, by decide +kernel, by decide +kernel⟩
theorem sX9_isOdd : Cond.static yX9_isOdd ∈ gw := gw_in (i := 718) (by decide +kernel) (by decide +kernel)
abbrev mX9_lowest : MT := (yX9_lowest, cX9_lowest, 2, (some .int), 1, 21)
theorem kX9_lowest : CB mX9_lowest 1 := ⟨gw_in (i := 364) (by decide +kernel) (by decide +kernel), gw_in (i := 106) (by decide +kernel) (by decide +kernel), by decide +kernel, by decide +kernel, by decide +kernel⟩
theorem sX9_lowest : Cond.static yX9_lowest ∈ gw := gw_in (i := 363) (by decide +kernel) (by decide +kernel)
abbrev mX9_memberOf : MT := (yX9_memberOf, cX9_memberOf, 6, (some .int), 2, 42)
theorem kX9_memberOf : CB mX9_memberOf 2 := ⟨gw_in (i := 360) (by decide +kernel) (by decide +kernel), gw_in (i := 106) (by decide +kernel) (by decide +kernel), by decide +kernel, by decide +kernel, by decide +kernel⟩
theorem sX9_memberOf : Cond.static yX9_memberOf ∈ gw := gw_in (i := 359) (by decide +kernel) (by decide +kernel)
abbrev mX9_countOrders : MT := (yX9_countOrders, cX9_countOrders, 3, (some .int), 0, 0)
theorem kX9_countOrders : CB mX9_countOrders 1 := ⟨gw_in (i := 357) (by decide +kernel) (by decide +kernel), gw_in (i := 106) (by decide +kernel) (by decide +kernel), by decide +kernel, by decide +kernel, by decide +kernel⟩
theorem sX9_countOrders : Cond.static yX9_countOrders ∈ gw := gw_in (i := 356) (by decide +kernel) (by decide +kernel)
abbrev mX9_fillOrder : MT := (yX9_fillOrder, cX9_fillOrder, 9, none, 3, 67)
theorem kX9_fillOrder : CB mX9_fillOrder 3 := ⟨gw_in (i := 354) (by decide +kernel) (by decide +kernel), gw_in (i := 106) (by decide +kernel) (by decide +kernel), by decide +kernel, by decide +kernel, by decide +kernel⟩
theorem sX9_fillOrder : Cond.static yX9_fillOrder ∈ gw := gw_in (i := 353) (by decide +kernel) (by decide +kernel)
abbrev mX9_quotientBits : MT := (yX9_quotientBits, cX9_quotientBits, 9, (some .long), 0, 0)
theorem kX9_quotientBits : CB mX9_quotientBits 2 := ⟨gw_in (i := 1213) (by decide +kernel) (by decide +kernel), gw_in (i := 106) (by decide +kernel) (by decide +kernel), by decide +kernel, by decide +kernel, by decide +kernel⟩
theorem sX9_quotientBits : Cond.static yX9_quotientBits ∈ gw := gw_in (i := 1212) (by decide +kernel) (by decide +kernel)
abbrev mX10_init : MT := (yX10_init, cX10_init, 1, none, 4, 93)
theorem kX10_init : CB mX10_init 0 := ⟨gw_in (i := 1241) (by decide +kernel) (by decide +kernel), gw_in (i := 120) (by decide +kernel) (by decide +kernel), by decide +kernel, by decide +kernel, by decide +kernel⟩
theorem iX10_init : Cond.instanceMethod yX10_init ∈ gw := gw_in (i := 1240) (by decide +kernel) (by decide +kernel)
abbrev mX10_copy : MT := (yX10_copy, cX10_copy, 3, none, 0, 0)
theorem kX10_copy : CB mX10_copy 2 := ⟨gw_in (i := 1276) (by decide +kernel) (by decide +kernel), gw_in (i := 120) (by decide +kernel) (by decide +kernel), by decide +kernel, by decide +kernel, by decide +kernel⟩
theorem sX10_copy : Cond.static yX10_copy ∈ gw := gw_in (i := 1275) (by decide +kernel) (by decide +kernel)
abbrev mX10_isIn : MT := (yX10_isIn, cX10_isIn, 3, (some .boolean), 0, 0)
theorem kX10_isIn : CB mX10_isIn 3 := ⟨gw_in (i := 1376) (by decide +kernel) (by decide +kernel), gw_in (i := 120) (by decide +kernel) (by decide +kernel), by decide +kernel, by decide +kernel, by decide +kernel⟩
theorem sX10_isIn : Cond.static yX10_isIn ∈ gw := gw_in (i := 1375) (by decide +kernel) (by decide +kernel)
abbrev mX10_held : MT := (yX10_held, cX10_held, 3, (some .int), 0, 0)
theorem kX10_held : CB mX10_held 3 := ⟨gw_in (i := 1552) (by decide +kernel) (by decide +kernel), gw_in (i := 120) (by decide +kernel) (by decide +kernel), by decide +kernel, by decide +kernel, by decide +kernel⟩
theorem sX10_held : Cond.static yX10_held ∈ gw := gw_in (i := 1551) (by decide +kernel) (by decide +kernel)
abbrev mX10_sized : MT := (yX10_sized, cX10_sized, 1, (some .int), 0, 0)
theorem kX10_sized : CB mX10_sized 1 := ⟨gw_in (i := 1549) (by decide +kernel) (by decide +kernel), gw_in (i := 120) (by decide +kernel) (by decide +kernel), by decide +kernel, by decide +kernel, by decide +kernel⟩
theorem sX10_sized : Cond.static yX10_sized ∈ gw := gw_in (i := 1548) (by decide +kernel) (by decide +kernel)
abbrev mX10_many : MT := (yX10_many, cX10_many, 5, (some .int), 0, 0)
theorem kX10_many : CB mX10_many 1 := ⟨gw_in (i := 1273) (by decide +kernel) (by decide +kernel), gw_in (i := 120) (by decide +kernel) (by decide +kernel), by decide +kernel, by decide +kernel, by decide +kernel⟩
theorem sX10_many : Cond.static yX10_many ∈ gw := gw_in (i := 1272) (by decide +kernel) (by decide +kernel)
abbrev mX10_hasIt : MT := (yX10_hasIt, cX10_hasIt, 3, (some .boolean), 0, 0)
theorem kX10_hasIt : CB mX10_hasIt 2 := ⟨gw_in (i := 1468) (by decide +kernel) (by decide +kernel), gw_in (i := 120) (by decide +kernel) (by decide +kernel), by decide +kernel, by decide +kernel, by decide +kernel⟩
theorem sX10_hasIt : Cond.static yX10_hasIt ∈ gw := gw_in (i := 1467) (by decide +kernel) (by decide +kernel)
abbrev mX10_lowest : MT := (yX10_lowest, cX10_lowest, 3, (some .int), 1, 22)
theorem kX10_lowest : CB mX10_lowest 1 := ⟨gw_in (i := 1475) (by decide +kernel) (by decide +kernel), gw_in (i := 120) (by decide +kernel) (by decide +kernel), by decide +kernel, by decide +kernel, by decide +kernel⟩
theorem sX10_lowest : Cond.static yX10_lowest ∈ gw := gw_in (i := 1474) (by decide +kernel) (by decide +kernel)
abbrev mX10_bits : MT := (yX10_bits, cX10_bits, 1, (some .int), 0, 0)
theorem kX10_bits : CB mX10_bits 0 := ⟨gw_in (i := 1254) (by decide +kernel) (by decide +kernel), gw_in (i := 120) (by decide +kernel) (by decide +kernel), by decide +kernel, by decide +kernel, by decide +kernel⟩
theorem iX10_bits : Cond.instanceMethod yX10_bits ∈ gw := gw_in (i := 1253) (by decide +kernel) (by decide +kernel)
theorem vX10_bits : Cond.selects RX10 yX10_bits yX10_bits ∈ gw := gw_in (i := 43) (by decide +kernel) (by decide +kernel)
abbrev mX10_checks : MT := (yX10_checks, cX10_checks, 1, (some .int), 0, 0)
theorem kX10_checks : CB mX10_checks 0 := ⟨gw_in (i := 1262) (by decide +kernel) (by decide +kernel), gw_in (i := 120) (by decide +kernel) (by decide +kernel), by decide +kernel, by decide +kernel, by decide +kernel⟩
theorem iX10_checks : Cond.instanceMethod yX10_checks ∈ gw := gw_in (i := 1261) (by decide +kernel) (by decide +kernel)
theorem vX10_checks : Cond.selects RX10 yX10_checks yX10_checks ∈ gw := gw_in (i := 45) (by decide +kernel) (by decide +kernel)
abbrev mX10_isBit : MT := (yX10_isBit, cX10_isBit, 2, (some .boolean), 1, 22)
theorem kX10_isBit : CB mX10_isBit 1 := ⟨gw_in (i := 1488) (by decide +kernel) (by decide +kernel), gw_in (i := 120) (by decide +kernel) (by decide +kernel), by decide +kernel, by decide +kernel, by decide +kernel⟩
theorem iX10_isBit : Cond.instanceMethod yX10_isBit ∈ gw := gw_in (i := 1487) (by decide +kernel) (by decide +kernel)
theorem vX10_isBit : Cond.selects RX10 yX10_isBit yX10_isBit ∈ gw := gw_in (i := 64) (by decide +kernel) (by decide +kernel)
abbrev mX10_isCheck : MT := (yX10_isCheck, cX10_isCheck, 2, (some .boolean), 1, 22)
theorem kX10_isCheck : CB mX10_isCheck 1 := ⟨gw_in (i := 1588) (by decide +kernel) (by decide +kernel), gw_in (i := 120) (by decide +kernel) (by decide +kernel), by decide +kernel, by decide +kernel, by decide +kernel⟩
theorem iX10_isCheck : Cond.instanceMethod yX10_isCheck ∈ gw := gw_in (i := 1587) (by decide +kernel) (by decide +kernel)
theorem vX10_isCheck : Cond.selects RX10 yX10_isCheck yX10_isCheck ∈ gw := gw_in (i := 77) (by decide +kernel) (by decide +kernel)
abbrev mX10_bitOf : MT := (yX10_bitOf, cX10_bitOf, 4, (some .int), 0, 0)
theorem kX10_bitOf : CB mX10_bitOf 2 := ⟨gw_in (i := 1270) (by decide +kernel) (by decide +kernel), gw_in (i := 120) (by decide +kernel) (by decide +kernel), by decide +kernel, by decide +kernel, by decide +kernel⟩
theorem iX10_bitOf : Cond.instanceMethod yX10_bitOf ∈ gw := gw_in (i := 1269) (by decide +kernel) (by decide +kernel)
theorem vX10_bitOf : Cond.selects RX10 yX10_bitOf yX10_bitOf ∈ gw := gw_in (i := 47) (by decide +kernel) (by decide +kernel)
abbrev mX10_checkSet : MT := (yX10_checkSet, cX10_checkSet, 5, (some .long), 1, 23)
theorem kX10_checkSet : CB mX10_checkSet 1 := ⟨gw_in (i := 1266) (by decide +kernel) (by decide +kernel), gw_in (i := 120) (by decide +kernel) (by decide +kernel), by decide +kernel, by decide +kernel, by decide +kernel⟩
theorem iX10_checkSet : Cond.instanceMethod yX10_checkSet ∈ gw := gw_in (i := 1265) (by decide +kernel) (by decide +kernel)
theorem vX10_checkSet : Cond.selects RX10 yX10_checkSet yX10_checkSet ∈ gw := gw_in (i := 46) (by decide +kernel) (by decide +kernel)
abbrev mX10_hasBit : MT := (yX10_hasBit, cX10_hasBit, 3, (some .boolean), 1, 23)
theorem kX10_hasBit : CB mX10_hasBit 2 := ⟨gw_in (i := 1560) (by decide +kernel) (by decide +kernel), gw_in (i := 120) (by decide +kernel) (by decide +kernel), by decide +kernel, by decide +kernel, by decide +kernel⟩
theorem iX10_hasBit : Cond.instanceMethod yX10_hasBit ∈ gw := gw_in (i := 1559) (by decide +kernel) (by decide +kernel)
theorem vX10_hasBit : Cond.selects RX10 yX10_hasBit yX10_hasBit ∈ gw := gw_in (i := 75) (by decide +kernel) (by decide +kernel)
abbrev mX10_sentSet : MT := (yX10_sentSet, cX10_sentSet, 1, (some .long), 0, 0)
theorem kX10_sentSet : CB mX10_sentSet 0 := ⟨gw_in (i := 1479) (by decide +kernel) (by decide +kernel), gw_in (i := 120) (by decide +kernel) (by decide +kernel), by decide +kernel, by decide +kernel, by decide +kernel⟩
theorem iX10_sentSet : Cond.instanceMethod yX10_sentSet ∈ gw := gw_in (i := 1478) (by decide +kernel) (by decide +kernel)
theorem vX10_sentSet : Cond.selects RX10 yX10_sentSet yX10_sentSet ∈ gw := gw_in (i := 63) (by decide +kernel) (by decide +kernel)
abbrev mX10_putSent : MT := (yX10_putSent, cX10_putSent, 3, none, 0, 0)
theorem kX10_putSent : CB mX10_putSent 1 := ⟨gw_in (i := 1445) (by decide +kernel) (by decide +kernel), gw_in (i := 120) (by decide +kernel) (by decide +kernel), by decide +kernel, by decide +kernel, by decide +kernel⟩
theorem iX10_putSent : Cond.instanceMethod yX10_putSent ∈ gw := gw_in (i := 1444) (by decide +kernel) (by decide +kernel)
theorem vX10_putSent : Cond.selects RX10 yX10_putSent yX10_putSent ∈ gw := gw_in (i := 59) (by decide +kernel) (by decide +kernel)
abbrev mX10_guessed : MT := (yX10_guessed, cX10_guessed, 4, (some .long), 1, 20)
theorem kX10_guessed : CB mX10_guessed 0 := ⟨gw_in (i := 1250) (by decide +kernel) (by decide +kernel), gw_in (i := 120) (by decide +kernel) (by decide +kernel), by decide +kernel, by decide +kernel, by decide +kernel⟩
theorem iX10_guessed : Cond.instanceMethod yX10_guessed ∈ gw := gw_in (i := 1249) (by decide +kernel) (by decide +kernel)
theorem vX10_guessed : Cond.selects RX10 yX10_guessed yX10_guessed ∈ gw := gw_in (i := 42) (by decide +kernel) (by decide +kernel)
abbrev mX10_oddsOf : MT := (yX10_oddsOf, cX10_oddsOf, 5, (some .int), 2, 47)
theorem kX10_oddsOf : CB mX10_oddsOf 1 := ⟨gw_in (i := 1258) (by decide +kernel) (by decide +kernel), gw_in (i := 120) (by decide +kernel) (by decide +kernel), by decide +kernel, by decide +kernel, by decide +kernel⟩
theorem iX10_oddsOf : Cond.instanceMethod yX10_oddsOf ∈ gw := gw_in (i := 1257) (by decide +kernel) (by decide +kernel)
theorem vX10_oddsOf : Cond.selects RX10 yX10_oddsOf yX10_oddsOf ∈ gw := gw_in (i := 44) (by decide +kernel) (by decide +kernel)
abbrev mX10_four : MT := (yX10_four, cX10_four, 3, none, 0, 0)
theorem kX10_four : CB mX10_four 1 := ⟨gw_in (i := 1369) (by decide +kernel) (by decide +kernel), gw_in (i := 120) (by decide +kernel) (by decide +kernel), by decide +kernel, by decide +kernel, by decide +kernel⟩
theorem iX10_four : Cond.instanceMethod yX10_four ∈ gw := gw_in (i := 1368) (by decide +kernel) (by decide +kernel)
theorem vX10_four : Cond.selects RX10 yX10_four yX10_four ∈ gw := gw_in (i := 48) (by decide +kernel) (by decide +kernel)
abbrev mX10_feed : MT := (yX10_feed, cX10_feed, 6, (some .int), 1, 22)
theorem kX10_feed : CB mX10_feed 5 := ⟨gw_in (i := 1365) (by decide +kernel) (by decide +kernel), gw_in (i := 120) (by decide +kernel) (by decide +kernel), by decide +kernel, by decide +kernel, by decide +kernel⟩
theorem iX10_feed : Cond.instanceMethod yX10_feed ∈ gw := gw_in (i := 1363) (by decide +kernel) (by decide +kernel)
theorem vX10_feed : Cond.selects RX10 yX10_feed yX10_feed ∈ gw := gw_in (i := 1364) (by decide +kernel) (by decide +kernel)
abbrev mX10_end : MT := (yX10_end, cX10_end, 2, (some .int), 1, 22)
theorem kX10_end : CB mX10_end 1 := ⟨gw_in (i := 1373) (by decide +kernel) (by decide +kernel), gw_in (i := 120) (by decide +kernel) (by decide +kernel), by decide +kernel, by decide +kernel, by decide +kernel⟩
theorem iX10_end : Cond.instanceMethod yX10_end ∈ gw := gw_in (i := 1371) (by decide +kernel) (by decide +kernel)
theorem vX10_end : Cond.selects RX10 yX10_end yX10_end ∈ gw := gw_in (i := 1372) (by decide +kernel) (by decide +kernel)
abbrev mX10_byteAt : MT := (yX10_byteAt, cX10_byteAt, 2, (some .int), 0, 0)
theorem kX10_byteAt : CB mX10_byteAt 1 := ⟨gw_in (i := 1392) (by decide +kernel) (by decide +kernel), gw_in (i := 120) (by decide +kernel) (by decide +kernel), by decide +kernel, by decide +kernel, by decide +kernel⟩
theorem iX10_byteAt : Cond.instanceMethod yX10_byteAt ∈ gw := gw_in (i := 1391) (by decide +kernel) (by decide +kernel)
theorem vX10_byteAt : Cond.selects RX10 yX10_byteAt yX10_byteAt ∈ gw := gw_in (i := 51) (by decide +kernel) (by decide +kernel)
abbrev mX10_isLetterByte : MT := (yX10_isLetterByte, cX10_isLetterByte, 1, (some .boolean), 0, 0)
theorem kX10_isLetterByte : CB mX10_isLetterByte 1 := ⟨gw_in (i := 1398) (by decide +kernel) (by decide +kernel), gw_in (i := 120) (by decide +kernel) (by decide +kernel), by decide +kernel, by decide +kernel, by decide +kernel⟩
theorem sX10_isLetterByte : Cond.static yX10_isLetterByte ∈ gw := gw_in (i := 1397) (by decide +kernel) (by decide +kernel)
abbrev mX10_isFigure : MT := (yX10_isFigure, cX10_isFigure, 1, (some .boolean), 0, 0)
theorem kX10_isFigure : CB mX10_isFigure 1 := ⟨gw_in (i := 1395) (by decide +kernel) (by decide +kernel), gw_in (i := 120) (by decide +kernel) (by decide +kernel), by decide +kernel, by decide +kernel, by decide +kernel⟩
theorem sX10_isFigure : Cond.static yX10_isFigure ∈ gw := gw_in (i := 1394) (by decide +kernel) (by decide +kernel)
abbrev mX10_areFour : MT := (yX10_areFour, cX10_areFour, 6, (some .boolean), 1, 21)
theorem kX10_areFour : CB mX10_areFour 5 := ⟨gw_in (i := 1406) (by decide +kernel) (by decide +kernel), gw_in (i := 120) (by decide +kernel) (by decide +kernel), by decide +kernel, by decide +kernel, by decide +kernel⟩
theorem iX10_areFour : Cond.instanceMethod yX10_areFour ∈ gw := gw_in (i := 1405) (by decide +kernel) (by decide +kernel)
theorem vX10_areFour : Cond.selects RX10 yX10_areFour yX10_areFour ∈ gw := gw_in (i := 53) (by decide +kernel) (by decide +kernel)
abbrev mX10_wordOf : MT := (yX10_wordOf, cX10_wordOf, 2, (some .int), 2, 46)
theorem kX10_wordOf : CB mX10_wordOf 1 := ⟨gw_in (i := 1402) (by decide +kernel) (by decide +kernel), gw_in (i := 120) (by decide +kernel) (by decide +kernel), by decide +kernel, by decide +kernel, by decide +kernel⟩
theorem iX10_wordOf : Cond.instanceMethod yX10_wordOf ∈ gw := gw_in (i := 1401) (by decide +kernel) (by decide +kernel)
theorem vX10_wordOf : Cond.selects RX10 yX10_wordOf yX10_wordOf ∈ gw := gw_in (i := 52) (by decide +kernel) (by decide +kernel)
abbrev mX10_nextToken : MT := (yX10_nextToken, cX10_nextToken, 2, none, 3, 67)
theorem kX10_nextToken : CB mX10_nextToken 0 := ⟨gw_in (i := 1388) (by decide +kernel) (by decide +kernel), gw_in (i := 120) (by decide +kernel) (by decide +kernel), by decide +kernel, by decide +kernel, by decide +kernel⟩
theorem iX10_nextToken : Cond.instanceMethod yX10_nextToken ∈ gw := gw_in (i := 1387) (by decide +kernel) (by decide +kernel)
theorem vX10_nextToken : Cond.selects RX10 yX10_nextToken yX10_nextToken ∈ gw := gw_in (i := 50) (by decide +kernel) (by decide +kernel)
abbrev mX10_numberTo : MT := (yX10_numberTo, cX10_numberTo, 4, (some .int), 4, 88)
theorem kX10_numberTo : CB mX10_numberTo 3 := ⟨gw_in (i := 1414) (by decide +kernel) (by decide +kernel), gw_in (i := 120) (by decide +kernel) (by decide +kernel), by decide +kernel, by decide +kernel, by decide +kernel⟩
theorem iX10_numberTo : Cond.instanceMethod yX10_numberTo ∈ gw := gw_in (i := 1413) (by decide +kernel) (by decide +kernel)
theorem vX10_numberTo : Cond.selects RX10 yX10_numberTo yX10_numberTo ∈ gw := gw_in (i := 55) (by decide +kernel) (by decide +kernel)
abbrev mX10_rowClause : MT := (yX10_rowClause, cX10_rowClause, 4, (some .int), 4, 88)
theorem kX10_rowClause : CB mX10_rowClause 1 := ⟨gw_in (i := 1418) (by decide +kernel) (by decide +kernel), gw_in (i := 120) (by decide +kernel) (by decide +kernel), by decide +kernel, by decide +kernel, by decide +kernel⟩
theorem iX10_rowClause : Cond.instanceMethod yX10_rowClause ∈ gw := gw_in (i := 1417) (by decide +kernel) (by decide +kernel)
theorem vX10_rowClause : Cond.selects RX10 yX10_rowClause yX10_rowClause ∈ gw := gw_in (i := 56) (by decide +kernel) (by decide +kernel)
abbrev mX10_clause : MT := (yX10_clause, cX10_clause, 2, (some .int), 5, 111)
theorem kX10_clause : CB mX10_clause 1 := ⟨gw_in (i := 1410) (by decide +kernel) (by decide +kernel), gw_in (i := 120) (by decide +kernel) (by decide +kernel), by decide +kernel, by decide +kernel, by decide +kernel⟩
theorem iX10_clause : Cond.instanceMethod yX10_clause ∈ gw := gw_in (i := 1409) (by decide +kernel) (by decide +kernel)
theorem vX10_clause : Cond.selects RX10 yX10_clause yX10_clause ∈ gw := gw_in (i := 54) (by decide +kernel) (by decide +kernel)
abbrev mX10_readText : MT := (yX10_readText, cX10_readText, 3, (some .int), 6, 132)
theorem kX10_readText : CB mX10_readText 0 := ⟨gw_in (i := 1384) (by decide +kernel) (by decide +kernel), gw_in (i := 120) (by decide +kernel) (by decide +kernel), by decide +kernel, by decide +kernel, by decide +kernel⟩
theorem iX10_readText : Cond.instanceMethod yX10_readText ∈ gw := gw_in (i := 1383) (by decide +kernel) (by decide +kernel)
theorem vX10_readText : Cond.selects RX10 yX10_readText yX10_readText ∈ gw := gw_in (i := 49) (by decide +kernel) (by decide +kernel)
abbrev mX10_text : MT := (yX10_text, cX10_text, 1, (some .int), 7, 154)
theorem kX10_text : CB mX10_text 0 := ⟨gw_in (i := 1380) (by decide +kernel) (by decide +kernel), gw_in (i := 120) (by decide +kernel) (by decide +kernel), by decide +kernel, by decide +kernel, by decide +kernel⟩
theorem iX10_text : Cond.instanceMethod yX10_text ∈ gw := gw_in (i := 1378) (by decide +kernel) (by decide +kernel)
theorem vX10_text : Cond.selects RX10 yX10_text yX10_text ∈ gw := gw_in (i := 1379) (by decide +kernel) (by decide +kernel)
abbrev mX10_fault : MT := (yX10_fault, cX10_fault, 2, (some .int), 0, 0)
theorem kX10_fault : CB mX10_fault 1 := ⟨gw_in (i := 1422) (by decide +kernel) (by decide +kernel), gw_in (i := 120) (by decide +kernel) (by decide +kernel), by decide +kernel, by decide +kernel, by decide +kernel⟩
theorem iX10_fault : Cond.instanceMethod yX10_fault ∈ gw := gw_in (i := 1420) (by decide +kernel) (by decide +kernel)
theorem vX10_fault : Cond.selects RX10 yX10_fault yX10_fault ∈ gw := gw_in (i := 1421) (by decide +kernel) (by decide +kernel)
abbrev mX10_orders : MT := (yX10_orders, cX10_orders, 3, (some .int), 0, 0)
theorem kX10_orders : CB mX10_orders 0 := ⟨gw_in (i := 1511) (by decide +kernel) (by decide +kernel), gw_in (i := 120) (by decide +kernel) (by decide +kernel), by decide +kernel, by decide +kernel, by decide +kernel⟩
theorem iX10_orders : Cond.instanceMethod yX10_orders ∈ gw := gw_in (i := 1510) (by decide +kernel) (by decide +kernel)
theorem vX10_orders : Cond.selects RX10 yX10_orders yX10_orders ∈ gw := gw_in (i := 66) (by decide +kernel) (by decide +kernel)
abbrev mX10_layerOf : MT := (yX10_layerOf, cX10_layerOf, 9, (some .int), 1, 22)
theorem kX10_layerOf : CB mX10_layerOf 2 := ⟨gw_in (i := 1527) (by decide +kernel) (by decide +kernel), gw_in (i := 120) (by decide +kernel) (by decide +kernel), by decide +kernel, by decide +kernel, by decide +kernel⟩
theorem iX10_layerOf : Cond.instanceMethod yX10_layerOf ∈ gw := gw_in (i := 1526) (by decide +kernel) (by decide +kernel)
theorem vX10_layerOf : Cond.selects RX10 yX10_layerOf yX10_layerOf ∈ gw := gw_in (i := 69) (by decide +kernel) (by decide +kernel)
abbrev mX10_messageAt : MT := (yX10_messageAt, cX10_messageAt, 2, (some .int), 0, 0)
theorem kX10_messageAt : CB mX10_messageAt 2 := ⟨gw_in (i := 1542) (by decide +kernel) (by decide +kernel), gw_in (i := 120) (by decide +kernel) (by decide +kernel), by decide +kernel, by decide +kernel, by decide +kernel⟩
theorem sX10_messageAt : Cond.static yX10_messageAt ∈ gw := gw_in (i := 1541) (by decide +kernel) (by decide +kernel)
abbrev mX10_beginNow : MT := (yX10_beginNow, cX10_beginNow, 3, none, 3, 71)
theorem kX10_beginNow : CB mX10_beginNow 1 := ⟨gw_in (i := 1246) (by decide +kernel) (by decide +kernel), gw_in (i := 120) (by decide +kernel) (by decide +kernel), by decide +kernel, by decide +kernel, by decide +kernel⟩
theorem iX10_beginNow : Cond.instanceMethod yX10_beginNow ∈ gw := gw_in (i := 1245) (by decide +kernel) (by decide +kernel)
theorem vX10_beginNow : Cond.selects RX10 yX10_beginNow yX10_beginNow ∈ gw := gw_in (i := 41) (by decide +kernel) (by decide +kernel)
abbrev mX10_layRests : MT := (yX10_layRests, cX10_layRests, 3, none, 1, 23)
theorem kX10_layRests : CB mX10_layRests 1 := ⟨gw_in (i := 1539) (by decide +kernel) (by decide +kernel), gw_in (i := 120) (by decide +kernel) (by decide +kernel), by decide +kernel, by decide +kernel, by decide +kernel⟩
theorem iX10_layRests : Cond.instanceMethod yX10_layRests ∈ gw := gw_in (i := 1538) (by decide +kernel) (by decide +kernel)
theorem vX10_layRests : Cond.selects RX10 yX10_layRests yX10_layRests ∈ gw := gw_in (i := 72) (by decide +kernel) (by decide +kernel)
abbrev mX10_newMessage : MT := (yX10_newMessage, cX10_newMessage, 6, (some .int), 1, 23)
theorem kX10_newMessage : CB mX10_newMessage 2 := ⟨gw_in (i := 1546) (by decide +kernel) (by decide +kernel), gw_in (i := 120) (by decide +kernel) (by decide +kernel), by decide +kernel, by decide +kernel, by decide +kernel⟩
theorem iX10_newMessage : Cond.instanceMethod yX10_newMessage ∈ gw := gw_in (i := 1545) (by decide +kernel) (by decide +kernel)
theorem vX10_newMessage : Cond.selects RX10 yX10_newMessage yX10_newMessage ∈ gw := gw_in (i := 73) (by decide +kernel) (by decide +kernel)
abbrev mX10_mendCheck : MT := (yX10_mendCheck, cX10_mendCheck, 3, none, 2, 48)
theorem kX10_mendCheck : CB mX10_mendCheck 1 := ⟨gw_in (i := 1535) (by decide +kernel) (by decide +kernel), gw_in (i := 120) (by decide +kernel) (by decide +kernel), by decide +kernel, by decide +kernel, by decide +kernel⟩
theorem iX10_mendCheck : Cond.instanceMethod yX10_mendCheck ∈ gw := gw_in (i := 1534) (by decide +kernel) (by decide +kernel)
theorem vX10_mendCheck : Cond.selects RX10 yX10_mendCheck yX10_mendCheck ∈ gw := gw_in (i := 71) (by decide +kernel) (by decide +kernel)
abbrev mX10_stepLayer : MT := (yX10_stepLayer, cX10_stepLayer, 3, none, 3, 70)
theorem kX10_stepLayer : CB mX10_stepLayer 0 := ⟨gw_in (i := 1531) (by decide +kernel) (by decide +kernel), gw_in (i := 120) (by decide +kernel) (by decide +kernel), by decide +kernel, by decide +kernel, by decide +kernel⟩
theorem iX10_stepLayer : Cond.instanceMethod yX10_stepLayer ∈ gw := gw_in (i := 1530) (by decide +kernel) (by decide +kernel)
theorem vX10_stepLayer : Cond.selects RX10 yX10_stepLayer yX10_stepLayer ∈ gw := gw_in (i := 70) (by decide +kernel) (by decide +kernel)
abbrev mX10_stepAll : MT := (yX10_stepAll, cX10_stepAll, 4, none, 2, 48)
theorem kX10_stepAll : CB mX10_stepAll 0 := ⟨gw_in (i := 1556) (by decide +kernel) (by decide +kernel), gw_in (i := 120) (by decide +kernel) (by decide +kernel), by decide +kernel, by decide +kernel, by decide +kernel⟩
theorem iX10_stepAll : Cond.instanceMethod yX10_stepAll ∈ gw := gw_in (i := 1555) (by decide +kernel) (by decide +kernel)
theorem vX10_stepAll : Cond.selects RX10 yX10_stepAll yX10_stepAll ∈ gw := gw_in (i := 74) (by decide +kernel) (by decide +kernel)
abbrev mX10_writeDown : MT := (yX10_writeDown, cX10_writeDown, 5, none, 0, 0)
theorem kX10_writeDown : CB mX10_writeDown 3 := ⟨gw_in (i := 1564) (by decide +kernel) (by decide +kernel), gw_in (i := 120) (by decide +kernel) (by decide +kernel), by decide +kernel, by decide +kernel, by decide +kernel⟩
theorem iX10_writeDown : Cond.instanceMethod yX10_writeDown ∈ gw := gw_in (i := 1563) (by decide +kernel) (by decide +kernel)
theorem vX10_writeDown : Cond.selects RX10 yX10_writeDown yX10_writeDown ∈ gw := gw_in (i := 76) (by decide +kernel) (by decide +kernel)
abbrev mX10_stepNow : MT := (yX10_stepNow, cX10_stepNow, 8, none, 4, 92)
theorem kX10_stepNow : CB mX10_stepNow 0 := ⟨gw_in (i := 1523) (by decide +kernel) (by decide +kernel), gw_in (i := 120) (by decide +kernel) (by decide +kernel), by decide +kernel, by decide +kernel, by decide +kernel⟩
theorem iX10_stepNow : Cond.instanceMethod yX10_stepNow ∈ gw := gw_in (i := 1522) (by decide +kernel) (by decide +kernel)
theorem vX10_stepNow : Cond.selects RX10 yX10_stepNow yX10_stepNow ∈ gw := gw_in (i := 68) (by decide +kernel) (by decide +kernel)
abbrev mX10_stepsNow : MT := (yX10_stepsNow, cX10_stepsNow, 3, (some .int), 5, 119)
theorem kX10_stepsNow : CB mX10_stepsNow 1 := ⟨gw_in (i := 1519) (by decide +kernel) (by decide +kernel), gw_in (i := 120) (by decide +kernel) (by decide +kernel), by decide +kernel, by decide +kernel, by decide +kernel⟩
theorem iX10_stepsNow : Cond.instanceMethod yX10_stepsNow ∈ gw := gw_in (i := 1518) (by decide +kernel) (by decide +kernel)
theorem vX10_stepsNow : Cond.selects RX10 yX10_stepsNow yX10_stepsNow ∈ gw := gw_in (i := 67) (by decide +kernel) (by decide +kernel)
abbrev mX10_laySums : MT := (yX10_laySums, cX10_laySums, 6, none, 2, 47)
theorem kX10_laySums : CB mX10_laySums 0 := ⟨gw_in (i := 1465) (by decide +kernel) (by decide +kernel), gw_in (i := 120) (by decide +kernel) (by decide +kernel), by decide +kernel, by decide +kernel, by decide +kernel⟩
theorem iX10_laySums : Cond.instanceMethod yX10_laySums ∈ gw := gw_in (i := 1464) (by decide +kernel) (by decide +kernel)
theorem vX10_laySums : Cond.selects RX10 yX10_laySums yX10_laySums ∈ gw := gw_in (i := 61) (by decide +kernel) (by decide +kernel)
abbrev mX10_carrierOf : MT := (yX10_carrierOf, cX10_carrierOf, 4, (some .int), 1, 22)
theorem kX10_carrierOf : CB mX10_carrierOf 1 := ⟨gw_in (i := 1628) (by decide +kernel) (by decide +kernel), gw_in (i := 120) (by decide +kernel) (by decide +kernel), by decide +kernel, by decide +kernel, by decide +kernel⟩
theorem iX10_carrierOf : Cond.instanceMethod yX10_carrierOf ∈ gw := gw_in (i := 1627) (by decide +kernel) (by decide +kernel)
theorem vX10_carrierOf : Cond.selects RX10 yX10_carrierOf yX10_carrierOf ∈ gw := gw_in (i := 78) (by decide +kernel) (by decide +kernel)
abbrev mX10_putAside : MT := (yX10_putAside, cX10_putAside, 2, none, 0, 0)
theorem kX10_putAside : CB mX10_putAside 0 := ⟨gw_in (i := 1767) (by decide +kernel) (by decide +kernel), gw_in (i := 120) (by decide +kernel) (by decide +kernel), by decide +kernel, by decide +kernel, by decide +kernel⟩
theorem iX10_putAside : Cond.instanceMethod yX10_putAside ∈ gw := gw_in (i := 1766) (by decide +kernel) (by decide +kernel)
theorem vX10_putAside : Cond.selects RX10 yX10_putAside yX10_putAside ∈ gw := gw_in (i := 94) (by decide +kernel) (by decide +kernel)
abbrev mX10_bringBack : MT := (yX10_bringBack, cX10_bringBack, 2, none, 0, 0)
theorem kX10_bringBack : CB mX10_bringBack 0 := ⟨gw_in (i := 1771) (by decide +kernel) (by decide +kernel), gw_in (i := 120) (by decide +kernel) (by decide +kernel), by decide +kernel, by decide +kernel, by decide +kernel⟩
theorem iX10_bringBack : Cond.instanceMethod yX10_bringBack ∈ gw := gw_in (i := 1770) (by decide +kernel) (by decide +kernel)
theorem vX10_bringBack : Cond.selects RX10 yX10_bringBack yX10_bringBack ∈ gw := gw_in (i := 95) (by decide +kernel) (by decide +kernel)
abbrev mX10_stepAt : MT := (yX10_stepAt, cX10_stepAt, 2, (some .int), 0, 0)
theorem kX10_stepAt : CB mX10_stepAt 2 := ⟨gw_in (i := 1429) (by decide +kernel) (by decide +kernel), gw_in (i := 120) (by decide +kernel) (by decide +kernel), by decide +kernel, by decide +kernel, by decide +kernel⟩
theorem sX10_stepAt : Cond.static yX10_stepAt ∈ gw := gw_in (i := 1428) (by decide +kernel) (by decide +kernel)
abbrev mX10_keep : MT := (yX10_keep, cX10_keep, 3, none, 1, 21)
theorem kX10_keep : CB mX10_keep 0 := ⟨gw_in (i := 1437) (by decide +kernel) (by decide +kernel), gw_in (i := 120) (by decide +kernel) (by decide +kernel), by decide +kernel, by decide +kernel, by decide +kernel⟩
theorem iX10_keep : Cond.instanceMethod yX10_keep ∈ gw := gw_in (i := 1436) (by decide +kernel) (by decide +kernel)
theorem vX10_keep : Cond.selects RX10 yX10_keep yX10_keep ∈ gw := gw_in (i := 57) (by decide +kernel) (by decide +kernel)
abbrev mX10_undo : MT := (yX10_undo, cX10_undo, 3, (some .int), 1, 21)
theorem kX10_undo : CB mX10_undo 0 := ⟨gw_in (i := 1426) (by decide +kernel) (by decide +kernel), gw_in (i := 120) (by decide +kernel) (by decide +kernel), by decide +kernel, by decide +kernel, by decide +kernel⟩
theorem iX10_undo : Cond.instanceMethod yX10_undo ∈ gw := gw_in (i := 1424) (by decide +kernel) (by decide +kernel)
theorem vX10_undo : Cond.selects RX10 yX10_undo yX10_undo ∈ gw := gw_in (i := 1425) (by decide +kernel) (by decide +kernel)
abbrev mX10_come : MT := (yX10_come, cX10_come, 2, none, 4, 93)
theorem kX10_come : CB mX10_come 0 := ⟨gw_in (i := 1441) (by decide +kernel) (by decide +kernel), gw_in (i := 120) (by decide +kernel) (by decide +kernel), by decide +kernel, by decide +kernel, by decide +kernel⟩
theorem iX10_come : Cond.instanceMethod yX10_come ∈ gw := gw_in (i := 1440) (by decide +kernel) (by decide +kernel)
theorem vX10_come : Cond.selects RX10 yX10_come yX10_come ∈ gw := gw_in (i := 58) (by decide +kernel) (by decide +kernel)
abbrev mX10_load : MT := (yX10_load, cX10_load, 4, (some .int), 5, 114)
theorem kX10_load : CB mX10_load 1 := ⟨gw_in (i := 1433) (by decide +kernel) (by decide +kernel), gw_in (i := 120) (by decide +kernel) (by decide +kernel), by decide +kernel, by decide +kernel, by decide +kernel⟩
theorem iX10_load : Cond.instanceMethod yX10_load ∈ gw := gw_in (i := 1431) (by decide +kernel) (by decide +kernel)
theorem vX10_load : Cond.selects RX10 yX10_load yX10_load ∈ gw := gw_in (i := 1432) (by decide +kernel) (by decide +kernel)
abbrev mX10_moreAt : MT := (yX10_moreAt, cX10_moreAt, 5, none, 0, 0)
theorem kX10_moreAt : CB mX10_moreAt 3 := ⟨gw_in (i := 1453) (by decide +kernel) (by decide +kernel), gw_in (i := 120) (by decide +kernel) (by decide +kernel), by decide +kernel, by decide +kernel, by decide +kernel⟩
theorem iX10_moreAt : Cond.instanceMethod yX10_moreAt ∈ gw := gw_in (i := 1452) (by decide +kernel) (by decide +kernel)
theorem vX10_moreAt : Cond.selects RX10 yX10_moreAt yX10_moreAt ∈ gw := gw_in (i := 60) (by decide +kernel) (by decide +kernel)
abbrev mX10_raise : MT := (yX10_raise, cX10_raise, 4, (some .boolean), 5, 114)
theorem kX10_raise : CB mX10_raise 2 := ⟨gw_in (i := 1449) (by decide +kernel) (by decide +kernel), gw_in (i := 120) (by decide +kernel) (by decide +kernel), by decide +kernel, by decide +kernel, by decide +kernel⟩
theorem iX10_raise : Cond.instanceMethod yX10_raise ∈ gw := gw_in (i := 1447) (by decide +kernel) (by decide +kernel)
theorem vX10_raise : Cond.selects RX10 yX10_raise yX10_raise ∈ gw := gw_in (i := 1448) (by decide +kernel) (by decide +kernel)
abbrev mX10_slide : MT := (yX10_slide, cX10_slide, 4, (some .boolean), 5, 114)
theorem kX10_slide : CB mX10_slide 2 := ⟨gw_in (i := 1457) (by decide +kernel) (by decide +kernel), gw_in (i := 120) (by decide +kernel) (by decide +kernel), by decide +kernel, by decide +kernel, by decide +kernel⟩
theorem iX10_slide : Cond.instanceMethod yX10_slide ∈ gw := gw_in (i := 1455) (by decide +kernel) (by decide +kernel)
theorem vX10_slide : Cond.selects RX10 yX10_slide yX10_slide ∈ gw := gw_in (i := 1456) (by decide +kernel) (by decide +kernel)
abbrev mX10_wordBy : MT := (yX10_wordBy, cX10_wordBy, 7, (some .long), 2, 44)
theorem kX10_wordBy : CB mX10_wordBy 1 := ⟨gw_in (i := 1472) (by decide +kernel) (by decide +kernel), gw_in (i := 120) (by decide +kernel) (by decide +kernel), by decide +kernel, by decide +kernel, by decide +kernel⟩
theorem iX10_wordBy : Cond.instanceMethod yX10_wordBy ∈ gw := gw_in (i := 1471) (by decide +kernel) (by decide +kernel)
theorem vX10_wordBy : Cond.selects RX10 yX10_wordBy yX10_wordBy ∈ gw := gw_in (i := 62) (by decide +kernel) (by decide +kernel)
abbrev mX10_encode : MT := (yX10_encode, cX10_encode, 3, (some .int), 3, 72)
theorem kX10_encode : CB mX10_encode 1 := ⟨gw_in (i := 1461) (by decide +kernel) (by decide +kernel), gw_in (i := 120) (by decide +kernel) (by decide +kernel), by decide +kernel, by decide +kernel, by decide +kernel⟩
theorem iX10_encode : Cond.instanceMethod yX10_encode ∈ gw := gw_in (i := 1459) (by decide +kernel) (by decide +kernel)
theorem vX10_encode : Cond.selects RX10 yX10_encode yX10_encode ∈ gw := gw_in (i := 1460) (by decide +kernel) (by decide +kernel)
abbrev mX10_hear : MT := (yX10_hear, cX10_hear, 3, (some .boolean), 2, 43)
theorem kX10_hear : CB mX10_hear 2 := ⟨gw_in (i := 1484) (by decide +kernel) (by decide +kernel), gw_in (i := 120) (by decide +kernel) (by decide +kernel), by decide +kernel, by decide +kernel, by decide +kernel⟩
theorem iX10_hear : Cond.instanceMethod yX10_hear ∈ gw := gw_in (i := 1482) (by decide +kernel) (by decide +kernel)
theorem vX10_hear : Cond.selects RX10 yX10_hear yX10_hear ∈ gw := gw_in (i := 1483) (by decide +kernel) (by decide +kernel)
abbrev mX10_sendNow : MT := (yX10_sendNow, cX10_sendNow, 8, (some .int), 1, 22)
theorem kX10_sendNow : CB mX10_sendNow 2 := ⟨gw_in (i := 1499) (by decide +kernel) (by decide +kernel), gw_in (i := 120) (by decide +kernel) (by decide +kernel), by decide +kernel, by decide +kernel, by decide +kernel⟩
theorem iX10_sendNow : Cond.instanceMethod yX10_sendNow ∈ gw := gw_in (i := 1498) (by decide +kernel) (by decide +kernel)
theorem vX10_sendNow : Cond.selects RX10 yX10_sendNow yX10_sendNow ∈ gw := gw_in (i := 65) (by decide +kernel) (by decide +kernel)
abbrev mX10_isSending : MT := (yX10_isSending, cX10_isSending, 2, (some .boolean), 1, 22)
theorem kX10_isSending : CB mX10_isSending 2 := ⟨gw_in (i := 1495) (by decide +kernel) (by decide +kernel), gw_in (i := 120) (by decide +kernel) (by decide +kernel), by decide +kernel, by decide +kernel, by decide +kernel⟩
theorem sX10_isSending : Cond.static yX10_isSending ∈ gw := gw_in (i := 1494) (by decide +kernel) (by decide +kernel)
abbrev mX10_send : MT := (yX10_send, cX10_send, 3, (some .int), 2, 49)
theorem kX10_send : CB mX10_send 2 := ⟨gw_in (i := 1492) (by decide +kernel) (by decide +kernel), gw_in (i := 120) (by decide +kernel) (by decide +kernel), by decide +kernel, by decide +kernel, by decide +kernel⟩
theorem iX10_send : Cond.instanceMethod yX10_send ∈ gw := gw_in (i := 1490) (by decide +kernel) (by decide +kernel)
theorem vX10_send : Cond.selects RX10 yX10_send yX10_send ∈ gw := gw_in (i := 1491) (by decide +kernel) (by decide +kernel)
abbrev mX10_begin : MT := (yX10_begin, cX10_begin, 2, (some .int), 4, 93)
theorem kX10_begin : CB mX10_begin 1 := ⟨gw_in (i := 1503) (by decide +kernel) (by decide +kernel), gw_in (i := 120) (by decide +kernel) (by decide +kernel), by decide +kernel, by decide +kernel, by decide +kernel⟩
theorem iX10_begin : Cond.instanceMethod yX10_begin ∈ gw := gw_in (i := 1501) (by decide +kernel) (by decide +kernel)
theorem vX10_begin : Cond.selects RX10 yX10_begin yX10_begin ∈ gw := gw_in (i := 1502) (by decide +kernel) (by decide +kernel)
abbrev mX10_order : MT := (yX10_order, cX10_order, 2, (some .boolean), 4, 93)
theorem kX10_order : CB mX10_order 1 := ⟨gw_in (i := 1507) (by decide +kernel) (by decide +kernel), gw_in (i := 120) (by decide +kernel) (by decide +kernel), by decide +kernel, by decide +kernel, by decide +kernel⟩
theorem iX10_order : Cond.instanceMethod yX10_order ∈ gw := gw_in (i := 1505) (by decide +kernel) (by decide +kernel)
theorem vX10_order : Cond.selects RX10 yX10_order yX10_order ∈ gw := gw_in (i := 1506) (by decide +kernel) (by decide +kernel)
abbrev mX10_step : MT := (yX10_step, cX10_step, 2, (some .int), 6, 141)
theorem kX10_step : CB mX10_step 1 := ⟨gw_in (i := 1515) (by decide +kernel) (by decide +kernel), gw_in (i := 120) (by decide +kernel) (by decide +kernel), by decide +kernel, by decide +kernel, by decide +kernel⟩
theorem iX10_step : Cond.instanceMethod yX10_step ∈ gw := gw_in (i := 1513) (by decide +kernel) (by decide +kernel)
theorem vX10_step : Cond.selects RX10 yX10_step yX10_step ∈ gw := gw_in (i := 1514) (by decide +kernel) (by decide +kernel)
abbrev mX10_tell : MT := (yX10_tell, cX10_tell, 2, (some .boolean), 1, 22)
theorem kX10_tell : CB mX10_tell 1 := ⟨gw_in (i := 1568) (by decide +kernel) (by decide +kernel), gw_in (i := 120) (by decide +kernel) (by decide +kernel), by decide +kernel, by decide +kernel, by decide +kernel⟩
theorem iX10_tell : Cond.instanceMethod yX10_tell ∈ gw := gw_in (i := 1566) (by decide +kernel) (by decide +kernel)
theorem vX10_tell : Cond.selects RX10 yX10_tell yX10_tell ∈ gw := gw_in (i := 1567) (by decide +kernel) (by decide +kernel)
abbrev mX10_is : MT := (yX10_is, cX10_is, 2, (some .int), 3, 71)
theorem kX10_is : CB mX10_is 1 := ⟨gw_in (i := 1572) (by decide +kernel) (by decide +kernel), gw_in (i := 120) (by decide +kernel) (by decide +kernel), by decide +kernel, by decide +kernel, by decide +kernel⟩
theorem iX10_is : Cond.instanceMethod yX10_is ∈ gw := gw_in (i := 1570) (by decide +kernel) (by decide +kernel)
theorem vX10_is : Cond.selects RX10 yX10_is yX10_is ∈ gw := gw_in (i := 1571) (by decide +kernel) (by decide +kernel)
abbrev mX10_shift : MT := (yX10_shift, cX10_shift, 3, (some .int), 1, 22)
theorem kX10_shift : CB mX10_shift 2 := ⟨gw_in (i := 1576) (by decide +kernel) (by decide +kernel), gw_in (i := 120) (by decide +kernel) (by decide +kernel), by decide +kernel, by decide +kernel, by decide +kernel⟩
theorem iX10_shift : Cond.instanceMethod yX10_shift ∈ gw := gw_in (i := 1574) (by decide +kernel) (by decide +kernel)
theorem vX10_shift : Cond.selects RX10 yX10_shift yX10_shift ∈ gw := gw_in (i := 1575) (by decide +kernel) (by decide +kernel)
abbrev mX10_layer : MT := (yX10_layer, cX10_layer, 2, (some .int), 2, 50)
theorem kX10_layer : CB mX10_layer 1 := ⟨gw_in (i := 1580) (by decide +kernel) (by decide +kernel), gw_in (i := 120) (by decide +kernel) (by decide +kernel), by decide +kernel, by decide +kernel, by decide +kernel⟩
theorem iX10_layer : Cond.instanceMethod yX10_layer ∈ gw := gw_in (i := 1578) (by decide +kernel) (by decide +kernel)
theorem vX10_layer : Cond.selects RX10 yX10_layer yX10_layer ∈ gw := gw_in (i := 1579) (by decide +kernel) (by decide +kernel)
abbrev mX10_has : MT := (yX10_has, cX10_has, 6, (some .int), 2, 43)
theorem kX10_has : CB mX10_has 2 := ⟨gw_in (i := 1584) (by decide +kernel) (by decide +kernel), gw_in (i := 120) (by decide +kernel) (by decide +kernel), by decide +kernel, by decide +kernel, by decide +kernel⟩
theorem iX10_has : Cond.instanceMethod yX10_has ∈ gw := gw_in (i := 1582) (by decide +kernel) (by decide +kernel)
theorem vX10_has : Cond.selects RX10 yX10_has yX10_has ∈ gw := gw_in (i := 1583) (by decide +kernel) (by decide +kernel)
abbrev mX10_degree : MT := (yX10_degree, cX10_degree, 4, (some .int), 2, 45)
theorem kX10_degree : CB mX10_degree 1 := ⟨gw_in (i := 1592) (by decide +kernel) (by decide +kernel), gw_in (i := 120) (by decide +kernel) (by decide +kernel), by decide +kernel, by decide +kernel, by decide +kernel⟩
theorem iX10_degree : Cond.instanceMethod yX10_degree ∈ gw := gw_in (i := 1590) (by decide +kernel) (by decide +kernel)
theorem vX10_degree : Cond.selects RX10 yX10_degree yX10_degree ∈ gw := gw_in (i := 1591) (by decide +kernel) (by decide +kernel)
abbrev mX10_bit : MT := (yX10_bit, cX10_bit, 3, (some .int), 3, 72)
theorem kX10_bit : CB mX10_bit 2 := ⟨gw_in (i := 1596) (by decide +kernel) (by decide +kernel), gw_in (i := 120) (by decide +kernel) (by decide +kernel), by decide +kernel, by decide +kernel, by decide +kernel⟩
theorem iX10_bit : Cond.instanceMethod yX10_bit ∈ gw := gw_in (i := 1594) (by decide +kernel) (by decide +kernel)
theorem vX10_bit : Cond.selects RX10 yX10_bit yX10_bit ∈ gw := gw_in (i := 1595) (by decide +kernel) (by decide +kernel)
abbrev mX10_message : MT := (yX10_message, cX10_message, 3, (some .int), 2, 45)
theorem kX10_message : CB mX10_message 2 := ⟨gw_in (i := 1600) (by decide +kernel) (by decide +kernel), gw_in (i := 120) (by decide +kernel) (by decide +kernel), by decide +kernel, by decide +kernel, by decide +kernel⟩
theorem iX10_message : Cond.instanceMethod yX10_message ∈ gw := gw_in (i := 1598) (by decide +kernel) (by decide +kernel)
theorem vX10_message : Cond.selects RX10 yX10_message yX10_message ∈ gw := gw_in (i := 1599) (by decide +kernel) (by decide +kernel)
abbrev mX10_odd : MT := (yX10_odd, cX10_odd, 2, (some .boolean), 2, 47)
theorem kX10_odd : CB mX10_odd 1 := ⟨gw_in (i := 1604) (by decide +kernel) (by decide +kernel), gw_in (i := 120) (by decide +kernel) (by decide +kernel), by decide +kernel, by decide +kernel, by decide +kernel⟩
theorem iX10_odd : Cond.instanceMethod yX10_odd ∈ gw := gw_in (i := 1602) (by decide +kernel) (by decide +kernel)
theorem vX10_odd : Cond.selects RX10 yX10_odd yX10_odd ∈ gw := gw_in (i := 1603) (by decide +kernel) (by decide +kernel)
abbrev mX10_guess : MT := (yX10_guess, cX10_guess, 1, (some .long), 2, 43)
theorem kX10_guess : CB mX10_guess 0 := ⟨gw_in (i := 1608) (by decide +kernel) (by decide +kernel), gw_in (i := 120) (by decide +kernel) (by decide +kernel), by decide +kernel, by decide +kernel, by decide +kernel⟩
theorem iX10_guess : Cond.instanceMethod yX10_guess ∈ gw := gw_in (i := 1606) (by decide +kernel) (by decide +kernel)
theorem vX10_guess : Cond.selects RX10 yX10_guess yX10_guess ∈ gw := gw_in (i := 1607) (by decide +kernel) (by decide +kernel)
abbrev mX10_sent : MT := (yX10_sent, cX10_sent, 1, (some .long), 1, 20)
theorem kX10_sent : CB mX10_sent 0 := ⟨gw_in (i := 1612) (by decide +kernel) (by decide +kernel), gw_in (i := 120) (by decide +kernel) (by decide +kernel), by decide +kernel, by decide +kernel, by decide +kernel⟩
theorem iX10_sent : Cond.instanceMethod yX10_sent ∈ gw := gw_in (i := 1610) (by decide +kernel) (by decide +kernel)
theorem vX10_sent : Cond.selects RX10 yX10_sent yX10_sent ∈ gw := gw_in (i := 1611) (by decide +kernel) (by decide +kernel)
abbrev mX10_wrong : MT := (yX10_wrong, cX10_wrong, 1, (some .int), 2, 43)
theorem kX10_wrong : CB mX10_wrong 0 := ⟨gw_in (i := 1616) (by decide +kernel) (by decide +kernel), gw_in (i := 120) (by decide +kernel) (by decide +kernel), by decide +kernel, by decide +kernel, by decide +kernel⟩
theorem iX10_wrong : Cond.instanceMethod yX10_wrong ∈ gw := gw_in (i := 1614) (by decide +kernel) (by decide +kernel)
theorem vX10_wrong : Cond.selects RX10 yX10_wrong yX10_wrong ∈ gw := gw_in (i := 1615) (by decide +kernel) (by decide +kernel)
abbrev mX10_rank : MT := (yX10_rank, cX10_rank, 1, (some .int), 3, 72)
theorem kX10_rank : CB mX10_rank 0 := ⟨gw_in (i := 1620) (by decide +kernel) (by decide +kernel), gw_in (i := 120) (by decide +kernel) (by decide +kernel), by decide +kernel, by decide +kernel, by decide +kernel⟩
theorem iX10_rank : Cond.instanceMethod yX10_rank ∈ gw := gw_in (i := 1618) (by decide +kernel) (by decide +kernel)
theorem vX10_rank : Cond.selects RX10 yX10_rank yX10_rank ∈ gw := gw_in (i := 1619) (by decide +kernel) (by decide +kernel)
abbrev mX10_carrier : MT := (yX10_carrier, cX10_carrier, 2, (some .int), 3, 72)
theorem kX10_carrier : CB mX10_carrier 1 := ⟨gw_in (i := 1624) (by decide +kernel) (by decide +kernel), gw_in (i := 120) (by decide +kernel) (by decide +kernel), by decide +kernel, by decide +kernel, by decide +kernel⟩
theorem iX10_carrier : Cond.instanceMethod yX10_carrier ∈ gw := gw_in (i := 1622) (by decide +kernel) (by decide +kernel)
theorem vX10_carrier : Cond.selects RX10 yX10_carrier yX10_carrier ∈ gw := gw_in (i := 1623) (by decide +kernel) (by decide +kernel)
abbrev mX10_book : MT := (yX10_book, cX10_book, 3, (some .int), 1, 22)
theorem kX10_book : CB mX10_book 2 := ⟨gw_in (i := 1632) (by decide +kernel) (by decide +kernel), gw_in (i := 120) (by decide +kernel) (by decide +kernel), by decide +kernel, by decide +kernel, by decide +kernel⟩
theorem iX10_book : Cond.instanceMethod yX10_book ∈ gw := gw_in (i := 1630) (by decide +kernel) (by decide +kernel)
theorem vX10_book : Cond.selects RX10 yX10_book yX10_book ∈ gw := gw_in (i := 1631) (by decide +kernel) (by decide +kernel)
abbrev mX10_turned : MT := (yX10_turned, cX10_turned, 2, (some .int), 2, 43)
theorem kX10_turned : CB mX10_turned 1 := ⟨gw_in (i := 1636) (by decide +kernel) (by decide +kernel), gw_in (i := 120) (by decide +kernel) (by decide +kernel), by decide +kernel, by decide +kernel, by decide +kernel⟩
theorem iX10_turned : Cond.instanceMethod yX10_turned ∈ gw := gw_in (i := 1634) (by decide +kernel) (by decide +kernel)
theorem vX10_turned : Cond.selects RX10 yX10_turned yX10_turned ∈ gw := gw_in (i := 1635) (by decide +kernel) (by decide +kernel)
abbrev mX10_restless : MT := (yX10_restless, cX10_restless, 3, (some .int), 1, 20)
theorem kX10_restless : CB mX10_restless 0 := ⟨gw_in (i := 1640) (by decide +kernel) (by decide +kernel), gw_in (i := 120) (by decide +kernel) (by decide +kernel), by decide +kernel, by decide +kernel, by decide +kernel⟩
theorem iX10_restless : Cond.instanceMethod yX10_restless ∈ gw := gw_in (i := 1638) (by decide +kernel) (by decide +kernel)
theorem vX10_restless : Cond.selects RX10 yX10_restless yX10_restless ∈ gw := gw_in (i := 1639) (by decide +kernel) (by decide +kernel)
abbrev mX10_ringBy : MT := (yX10_ringBy, cX10_ringBy, 12, (some .int), 2, 47)
theorem kX10_ringBy : CB mX10_ringBy 2 := ⟨gw_in (i := 1648) (by decide +kernel) (by decide +kernel), gw_in (i := 120) (by decide +kernel) (by decide +kernel), by decide +kernel, by decide +kernel, by decide +kernel⟩
theorem iX10_ringBy : Cond.instanceMethod yX10_ringBy ∈ gw := gw_in (i := 1647) (by decide +kernel) (by decide +kernel)
theorem vX10_ringBy : Cond.selects RX10 yX10_ringBy yX10_ringBy ∈ gw := gw_in (i := 79) (by decide +kernel) (by decide +kernel)
abbrev mX10_girth : MT := (yX10_girth, cX10_girth, 5, (some .int), 3, 78)
theorem kX10_girth : CB mX10_girth 0 := ⟨gw_in (i := 1644) (by decide +kernel) (by decide +kernel), gw_in (i := 120) (by decide +kernel) (by decide +kernel), by decide +kernel, by decide +kernel, by decide +kernel⟩
theorem iX10_girth : Cond.instanceMethod yX10_girth ∈ gw := gw_in (i := 1642) (by decide +kernel) (by decide +kernel)
theorem vX10_girth : Cond.selects RX10 yX10_girth yX10_girth ∈ gw := gw_in (i := 1643) (by decide +kernel) (by decide +kernel)
abbrev mX10_bothOf : MT := (yX10_bothOf, cX10_bothOf, 3, (some .int), 2, 47)
theorem kX10_bothOf : CB mX10_bothOf 2 := ⟨gw_in (i := 1657) (by decide +kernel) (by decide +kernel), gw_in (i := 120) (by decide +kernel) (by decide +kernel), by decide +kernel, by decide +kernel, by decide +kernel⟩
theorem iX10_bothOf : Cond.instanceMethod yX10_bothOf ∈ gw := gw_in (i := 1656) (by decide +kernel) (by decide +kernel)
theorem vX10_bothOf : Cond.selects RX10 yX10_bothOf yX10_bothOf ∈ gw := gw_in (i := 80) (by decide +kernel) (by decide +kernel)
abbrev mX10_both : MT := (yX10_both, cX10_both, 3, (some .int), 3, 69)
theorem kX10_both : CB mX10_both 2 := ⟨gw_in (i := 1653) (by decide +kernel) (by decide +kernel), gw_in (i := 120) (by decide +kernel) (by decide +kernel), by decide +kernel, by decide +kernel, by decide +kernel⟩
theorem iX10_both : Cond.instanceMethod yX10_both ∈ gw := gw_in (i := 1651) (by decide +kernel) (by decide +kernel)
theorem vX10_both : Cond.selects RX10 yX10_both yX10_both ∈ gw := gw_in (i := 1652) (by decide +kernel) (by decide +kernel)
abbrev mX10_loose : MT := (yX10_loose, cX10_loose, 4, (some .long), 3, 68)
theorem kX10_loose : CB mX10_loose 0 := ⟨gw_in (i := 1661) (by decide +kernel) (by decide +kernel), gw_in (i := 120) (by decide +kernel) (by decide +kernel), by decide +kernel, by decide +kernel, by decide +kernel⟩
theorem iX10_loose : Cond.instanceMethod yX10_loose ∈ gw := gw_in (i := 1659) (by decide +kernel) (by decide +kernel)
theorem vX10_loose : Cond.selects RX10 yX10_loose yX10_loose ∈ gw := gw_in (i := 1660) (by decide +kernel) (by decide +kernel)
abbrev mX10_fours : MT := (yX10_fours, cX10_fours, 5, (some .int), 3, 69)
theorem kX10_fours : CB mX10_fours 0 := ⟨gw_in (i := 1666) (by decide +kernel) (by decide +kernel), gw_in (i := 120) (by decide +kernel) (by decide +kernel), by decide +kernel, by decide +kernel, by decide +kernel⟩
theorem iX10_fours : Cond.instanceMethod yX10_fours ∈ gw := gw_in (i := 1664) (by decide +kernel) (by decide +kernel)
theorem vX10_fours : Cond.selects RX10 yX10_fours yX10_fours ∈ gw := gw_in (i := 1665) (by decide +kernel) (by decide +kernel)
abbrev mX10_sixesBy : MT := (yX10_sixesBy, cX10_sixesBy, 14, (some .int), 1, 24)
theorem kX10_sixesBy : CB mX10_sixesBy 3 := ⟨gw_in (i := 1674) (by decide +kernel) (by decide +kernel), gw_in (i := 120) (by decide +kernel) (by decide +kernel), by decide +kernel, by decide +kernel, by decide +kernel⟩
theorem iX10_sixesBy : Cond.instanceMethod yX10_sixesBy ∈ gw := gw_in (i := 1673) (by decide +kernel) (by decide +kernel)
theorem vX10_sixesBy : Cond.selects RX10 yX10_sixesBy yX10_sixesBy ∈ gw := gw_in (i := 81) (by decide +kernel) (by decide +kernel)
abbrev mX10_sixes : MT := (yX10_sixes, cX10_sixes, 5, (some .int), 2, 57)
theorem kX10_sixes : CB mX10_sixes 0 := ⟨gw_in (i := 1670) (by decide +kernel) (by decide +kernel), gw_in (i := 120) (by decide +kernel) (by decide +kernel), by decide +kernel, by decide +kernel, by decide +kernel⟩
theorem iX10_sixes : Cond.instanceMethod yX10_sixes ∈ gw := gw_in (i := 1668) (by decide +kernel) (by decide +kernel)
theorem vX10_sixes : Cond.selects RX10 yX10_sixes yX10_sixes ∈ gw := gw_in (i := 1669) (by decide +kernel) (by decide +kernel)
abbrev mX10_beside : MT := (yX10_beside, cX10_beside, 6, (some .long), 2, 47)
theorem kX10_beside : CB mX10_beside 1 := ⟨gw_in (i := 1682) (by decide +kernel) (by decide +kernel), gw_in (i := 120) (by decide +kernel) (by decide +kernel), by decide +kernel, by decide +kernel, by decide +kernel⟩
theorem iX10_beside : Cond.instanceMethod yX10_beside ∈ gw := gw_in (i := 1681) (by decide +kernel) (by decide +kernel)
theorem vX10_beside : Cond.selects RX10 yX10_beside yX10_beside ∈ gw := gw_in (i := 82) (by decide +kernel) (by decide +kernel)
abbrev mX10_path : MT := (yX10_path, cX10_path, 8, (some .int), 3, 72)
theorem kX10_path : CB mX10_path 2 := ⟨gw_in (i := 1678) (by decide +kernel) (by decide +kernel), gw_in (i := 120) (by decide +kernel) (by decide +kernel), by decide +kernel, by decide +kernel, by decide +kernel⟩
theorem iX10_path : Cond.instanceMethod yX10_path ∈ gw := gw_in (i := 1676) (by decide +kernel) (by decide +kernel)
theorem vX10_path : Cond.selects RX10 yX10_path yX10_path ∈ gw := gw_in (i := 1677) (by decide +kernel) (by decide +kernel)
abbrev mX10_pieces : MT := (yX10_pieces, cX10_pieces, 8, (some .int), 3, 72)
theorem kX10_pieces : CB mX10_pieces 0 := ⟨gw_in (i := 1686) (by decide +kernel) (by decide +kernel), gw_in (i := 120) (by decide +kernel) (by decide +kernel), by decide +kernel, by decide +kernel, by decide +kernel⟩
theorem iX10_pieces : Cond.instanceMethod yX10_pieces ∈ gw := gw_in (i := 1684) (by decide +kernel) (by decide +kernel)
theorem vX10_pieces : Cond.selects RX10 yX10_pieces yX10_pieces ∈ gw := gw_in (i := 1685) (by decide +kernel) (by decide +kernel)
abbrev mX10_isSet : MT := (yX10_isSet, cX10_isSet, 3, (some .boolean), 1, 20)
theorem kX10_isSet : CB mX10_isSet 1 := ⟨gw_in (i := 1694) (by decide +kernel) (by decide +kernel), gw_in (i := 120) (by decide +kernel) (by decide +kernel), by decide +kernel, by decide +kernel, by decide +kernel⟩
theorem iX10_isSet : Cond.instanceMethod yX10_isSet ∈ gw := gw_in (i := 1693) (by decide +kernel) (by decide +kernel)
theorem vX10_isSet : Cond.selects RX10 yX10_isSet yX10_isSet ∈ gw := gw_in (i := 83) (by decide +kernel) (by decide +kernel)
abbrev mX10_odds : MT := (yX10_odds, cX10_odds, 3, (some .int), 3, 71)
theorem kX10_odds : CB mX10_odds 1 := ⟨gw_in (i := 1690) (by decide +kernel) (by decide +kernel), gw_in (i := 120) (by decide +kernel) (by decide +kernel), by decide +kernel, by decide +kernel, by decide +kernel⟩
theorem iX10_odds : Cond.instanceMethod yX10_odds ∈ gw := gw_in (i := 1688) (by decide +kernel) (by decide +kernel)
theorem vX10_odds : Cond.selects RX10 yX10_odds yX10_odds ∈ gw := gw_in (i := 1689) (by decide +kernel) (by decide +kernel)
abbrev mX10_laySets : MT := (yX10_laySets, cX10_laySets, 4, none, 2, 47)
theorem kX10_laySets : CB mX10_laySets 0 := ⟨gw_in (i := 1702) (by decide +kernel) (by decide +kernel), gw_in (i := 120) (by decide +kernel) (by decide +kernel), by decide +kernel, by decide +kernel, by decide +kernel⟩
theorem iX10_laySets : Cond.instanceMethod yX10_laySets ∈ gw := gw_in (i := 1701) (by decide +kernel) (by decide +kernel)
theorem vX10_laySets : Cond.selects RX10 yX10_laySets yX10_laySets ∈ gw := gw_in (i := 84) (by decide +kernel) (by decide +kernel)
abbrev mX10_isFirst : MT := (yX10_isFirst, cX10_isFirst, 3, (some .boolean), 1, 20)
theorem kX10_isFirst : CB mX10_isFirst 1 := ⟨gw_in (i := 1718) (by decide +kernel) (by decide +kernel), gw_in (i := 120) (by decide +kernel) (by decide +kernel), by decide +kernel, by decide +kernel, by decide +kernel⟩
theorem iX10_isFirst : Cond.instanceMethod yX10_isFirst ∈ gw := gw_in (i := 1717) (by decide +kernel) (by decide +kernel)
theorem vX10_isFirst : Cond.selects RX10 yX10_isFirst yX10_isFirst ∈ gw := gw_in (i := 87) (by decide +kernel) (by decide +kernel)
abbrev mX10_isNext : MT := (yX10_isNext, cX10_isNext, 4, (some .boolean), 1, 20)
theorem kX10_isNext : CB mX10_isNext 1 := ⟨gw_in (i := 1738) (by decide +kernel) (by decide +kernel), gw_in (i := 120) (by decide +kernel) (by decide +kernel), by decide +kernel, by decide +kernel, by decide +kernel⟩
theorem iX10_isNext : Cond.instanceMethod yX10_isNext ∈ gw := gw_in (i := 1737) (by decide +kernel) (by decide +kernel)
theorem vX10_isNext : Cond.selects RX10 yX10_isNext yX10_isNext ∈ gw := gw_in (i := 92) (by decide +kernel) (by decide +kernel)
abbrev mX10_pickedSet : MT := (yX10_pickedSet, cX10_pickedSet, 5, (some .long), 0, 0)
theorem kX10_pickedSet : CB mX10_pickedSet 1 := ⟨gw_in (i := 1722) (by decide +kernel) (by decide +kernel), gw_in (i := 120) (by decide +kernel) (by decide +kernel), by decide +kernel, by decide +kernel, by decide +kernel⟩
theorem iX10_pickedSet : Cond.instanceMethod yX10_pickedSet ∈ gw := gw_in (i := 1721) (by decide +kernel) (by decide +kernel)
theorem vX10_pickedSet : Cond.selects RX10 yX10_pickedSet yX10_pickedSet ∈ gw := gw_in (i := 88) (by decide +kernel) (by decide +kernel)
abbrev mX10_isKnot : MT := (yX10_isKnot, cX10_isKnot, 7, (some .boolean), 2, 44)
theorem kX10_isKnot : CB mX10_isKnot 1 := ⟨gw_in (i := 1706) (by decide +kernel) (by decide +kernel), gw_in (i := 120) (by decide +kernel) (by decide +kernel), by decide +kernel, by decide +kernel, by decide +kernel⟩
theorem iX10_isKnot : Cond.instanceMethod yX10_isKnot ∈ gw := gw_in (i := 1705) (by decide +kernel) (by decide +kernel)
theorem vX10_isKnot : Cond.selects RX10 yX10_isKnot yX10_isKnot ∈ gw := gw_in (i := 85) (by decide +kernel) (by decide +kernel)
abbrev mX10_isLeast : MT := (yX10_isLeast, cX10_isLeast, 5, (some .boolean), 3, 70)
theorem kX10_isLeast : CB mX10_isLeast 1 := ⟨gw_in (i := 1730) (by decide +kernel) (by decide +kernel), gw_in (i := 120) (by decide +kernel) (by decide +kernel), by decide +kernel, by decide +kernel, by decide +kernel⟩
theorem iX10_isLeast : Cond.instanceMethod yX10_isLeast ∈ gw := gw_in (i := 1729) (by decide +kernel) (by decide +kernel)
theorem vX10_isLeast : Cond.selects RX10 yX10_isLeast yX10_isLeast ∈ gw := gw_in (i := 90) (by decide +kernel) (by decide +kernel)
abbrev mX10_knot : MT := (yX10_knot, cX10_knot, 3, (some .boolean), 3, 70)
theorem kX10_knot : CB mX10_knot 1 := ⟨gw_in (i := 1698) (by decide +kernel) (by decide +kernel), gw_in (i := 120) (by decide +kernel) (by decide +kernel), by decide +kernel, by decide +kernel, by decide +kernel⟩
theorem iX10_knot : Cond.instanceMethod yX10_knot ∈ gw := gw_in (i := 1696) (by decide +kernel) (by decide +kernel)
theorem vX10_knot : Cond.selects RX10 yX10_knot yX10_knot ∈ gw := gw_in (i := 1697) (by decide +kernel) (by decide +kernel)
abbrev mX10_isSort : MT := (yX10_isSort, cX10_isSort, 6, (some .boolean), 4, 94)
theorem kX10_isSort : CB mX10_isSort 2 := ⟨gw_in (i := 1726) (by decide +kernel) (by decide +kernel), gw_in (i := 120) (by decide +kernel) (by decide +kernel), by decide +kernel, by decide +kernel, by decide +kernel⟩
theorem iX10_isSort : Cond.instanceMethod yX10_isSort ∈ gw := gw_in (i := 1725) (by decide +kernel) (by decide +kernel)
theorem vX10_isSort : Cond.selects RX10 yX10_isSort yX10_isSort ∈ gw := gw_in (i := 89) (by decide +kernel) (by decide +kernel)
abbrev mX10_counted : MT := (yX10_counted, cX10_counted, 5, (some .int), 5, 119)
theorem kX10_counted : CB mX10_counted 2 := ⟨gw_in (i := 1714) (by decide +kernel) (by decide +kernel), gw_in (i := 120) (by decide +kernel) (by decide +kernel), by decide +kernel, by decide +kernel, by decide +kernel⟩
theorem iX10_counted : Cond.instanceMethod yX10_counted ∈ gw := gw_in (i := 1713) (by decide +kernel) (by decide +kernel)
theorem vX10_counted : Cond.selects RX10 yX10_counted yX10_counted ∈ gw := gw_in (i := 86) (by decide +kernel) (by decide +kernel)
abbrev mX10_knots : MT := (yX10_knots, cX10_knots, 2, (some .int), 6, 143)
theorem kX10_knots : CB mX10_knots 1 := ⟨gw_in (i := 1710) (by decide +kernel) (by decide +kernel), gw_in (i := 120) (by decide +kernel) (by decide +kernel), by decide +kernel, by decide +kernel, by decide +kernel⟩
theorem iX10_knots : Cond.instanceMethod yX10_knots ∈ gw := gw_in (i := 1708) (by decide +kernel) (by decide +kernel)
theorem vX10_knots : Cond.selects RX10 yX10_knots yX10_knots ∈ gw := gw_in (i := 1709) (by decide +kernel) (by decide +kernel)
abbrev mX10_stoppers : MT := (yX10_stoppers, cX10_stoppers, 2, (some .int), 6, 143)
theorem kX10_stoppers : CB mX10_stoppers 1 := ⟨gw_in (i := 1742) (by decide +kernel) (by decide +kernel), gw_in (i := 120) (by decide +kernel) (by decide +kernel), by decide +kernel, by decide +kernel, by decide +kernel⟩
theorem iX10_stoppers : Cond.instanceMethod yX10_stoppers ∈ gw := gw_in (i := 1740) (by decide +kernel) (by decide +kernel)
theorem vX10_stoppers : Cond.selects RX10 yX10_stoppers yX10_stoppers ∈ gw := gw_in (i := 1741) (by decide +kernel) (by decide +kernel)
abbrev mX10_words : MT := (yX10_words, cX10_words, 2, (some .int), 6, 143)
theorem kX10_words : CB mX10_words 1 := ⟨gw_in (i := 1746) (by decide +kernel) (by decide +kernel), gw_in (i := 120) (by decide +kernel) (by decide +kernel), by decide +kernel, by decide +kernel, by decide +kernel⟩
theorem iX10_words : Cond.instanceMethod yX10_words ∈ gw := gw_in (i := 1744) (by decide +kernel) (by decide +kernel)
theorem vX10_words : Cond.selects RX10 yX10_words yX10_words ∈ gw := gw_in (i := 1745) (by decide +kernel) (by decide +kernel)
abbrev mX10_erasable : MT := (yX10_erasable, cX10_erasable, 2, (some .int), 6, 143)
theorem kX10_erasable : CB mX10_erasable 1 := ⟨gw_in (i := 1750) (by decide +kernel) (by decide +kernel), gw_in (i := 120) (by decide +kernel) (by decide +kernel), by decide +kernel, by decide +kernel, by decide +kernel⟩
theorem iX10_erasable : Cond.instanceMethod yX10_erasable ∈ gw := gw_in (i := 1748) (by decide +kernel) (by decide +kernel)
theorem vX10_erasable : Cond.selects RX10 yX10_erasable yX10_erasable ∈ gw := gw_in (i := 1749) (by decide +kernel) (by decide +kernel)
abbrev mX10_least : MT := (yX10_least, cX10_least, 5, (some .long), 4, 94)
theorem kX10_least : CB mX10_least 2 := ⟨gw_in (i := 1754) (by decide +kernel) (by decide +kernel), gw_in (i := 120) (by decide +kernel) (by decide +kernel), by decide +kernel, by decide +kernel, by decide +kernel⟩
theorem iX10_least : Cond.instanceMethod yX10_least ∈ gw := gw_in (i := 1752) (by decide +kernel) (by decide +kernel)
theorem vX10_least : Cond.selects RX10 yX10_least yX10_least ∈ gw := gw_in (i := 1753) (by decide +kernel) (by decide +kernel)
abbrev mX10_endOf : MT := (yX10_endOf, cX10_endOf, 5, (some .int), 6, 141)
theorem kX10_endOf : CB mX10_endOf 2 := ⟨gw_in (i := 1763) (by decide +kernel) (by decide +kernel), gw_in (i := 120) (by decide +kernel) (by decide +kernel), by decide +kernel, by decide +kernel, by decide +kernel⟩
theorem iX10_endOf : Cond.instanceMethod yX10_endOf ∈ gw := gw_in (i := 1762) (by decide +kernel) (by decide +kernel)
theorem vX10_endOf : Cond.selects RX10 yX10_endOf yX10_endOf ∈ gw := gw_in (i := 93) (by decide +kernel) (by decide +kernel)
abbrev mX10_trapped : MT := (yX10_trapped, cX10_trapped, 6, (some .int), 7, 165)
theorem kX10_trapped : CB mX10_trapped 3 := ⟨gw_in (i := 1758) (by decide +kernel) (by decide +kernel), gw_in (i := 120) (by decide +kernel) (by decide +kernel), by decide +kernel, by decide +kernel, by decide +kernel⟩
theorem iX10_trapped : Cond.instanceMethod yX10_trapped ∈ gw := gw_in (i := 1756) (by decide +kernel) (by decide +kernel)
theorem vX10_trapped : Cond.selects RX10 yX10_trapped yX10_trapped ∈ gw := gw_in (i := 1757) (by decide +kernel) (by decide +kernel)
abbrev mX10_layTraps : MT := (yX10_layTraps, cX10_layTraps, 7, none, 7, 165)
theorem kX10_layTraps : CB mX10_layTraps 2 := ⟨gw_in (i := 1779) (by decide +kernel) (by decide +kernel), gw_in (i := 120) (by decide +kernel) (by decide +kernel), by decide +kernel, by decide +kernel, by decide +kernel⟩
theorem iX10_layTraps : Cond.instanceMethod yX10_layTraps ∈ gw := gw_in (i := 1778) (by decide +kernel) (by decide +kernel)
theorem vX10_layTraps : Cond.selects RX10 yX10_layTraps yX10_layTraps ∈ gw := gw_in (i := 96) (by decide +kernel) (by decide +kernel)
abbrev mX10_traps : MT := (yX10_traps, cX10_traps, 3, (some .int), 8, 191)
theorem kX10_traps : CB mX10_traps 2 := ⟨gw_in (i := 1775) (by decide +kernel) (by decide +kernel), gw_in (i := 120) (by decide +kernel) (by decide +kernel), by decide +kernel, by decide +kernel, by decide +kernel⟩
theorem iX10_traps : Cond.instanceMethod yX10_traps ∈ gw := gw_in (i := 1773) (by decide +kernel) (by decide +kernel)
theorem vX10_traps : Cond.selects RX10 yX10_traps yX10_traps ∈ gw := gw_in (i := 1774) (by decide +kernel) (by decide +kernel)
abbrev mX10_weakest : MT := (yX10_weakest, cX10_weakest, 3, (some .long), 8, 191)
theorem kX10_weakest : CB mX10_weakest 1 := ⟨gw_in (i := 1783) (by decide +kernel) (by decide +kernel), gw_in (i := 120) (by decide +kernel) (by decide +kernel), by decide +kernel, by decide +kernel, by decide +kernel⟩
theorem iX10_weakest : Cond.instanceMethod yX10_weakest ∈ gw := gw_in (i := 1781) (by decide +kernel) (by decide +kernel)
theorem vX10_weakest : Cond.selects RX10 yX10_weakest yX10_weakest ∈ gw := gw_in (i := 1782) (by decide +kernel) (by decide +kernel)
abbrev mX10_peel : MT := (yX10_peel, cX10_peel, 3, (some .long), 3, 70)
theorem kX10_peel : CB mX10_peel 1 := ⟨gw_in (i := 1791) (by decide +kernel) (by decide +kernel), gw_in (i := 120) (by decide +kernel) (by decide +kernel), by decide +kernel, by decide +kernel, by decide +kernel⟩
theorem iX10_peel : Cond.instanceMethod yX10_peel ∈ gw := gw_in (i := 1790) (by decide +kernel) (by decide +kernel)
theorem vX10_peel : Cond.selects RX10 yX10_peel yX10_peel ∈ gw := gw_in (i := 97) (by decide +kernel) (by decide +kernel)
abbrev mX10_peelLaid : MT := (yX10_peelLaid, cX10_peelLaid, 10, (some .long), 1, 20)
theorem kX10_peelLaid : CB mX10_peelLaid 1 := ⟨gw_in (i := 1734) (by decide +kernel) (by decide +kernel), gw_in (i := 120) (by decide +kernel) (by decide +kernel), by decide +kernel, by decide +kernel, by decide +kernel⟩
theorem iX10_peelLaid : Cond.instanceMethod yX10_peelLaid ∈ gw := gw_in (i := 1733) (by decide +kernel) (by decide +kernel)
theorem vX10_peelLaid : Cond.selects RX10 yX10_peelLaid yX10_peelLaid ∈ gw := gw_in (i := 91) (by decide +kernel) (by decide +kernel)
abbrev mX10_peeled : MT := (yX10_peeled, cX10_peeled, 3, (some .long), 4, 92)
theorem kX10_peeled : CB mX10_peeled 1 := ⟨gw_in (i := 1787) (by decide +kernel) (by decide +kernel), gw_in (i := 120) (by decide +kernel) (by decide +kernel), by decide +kernel, by decide +kernel, by decide +kernel⟩
theorem iX10_peeled : Cond.instanceMethod yX10_peeled ∈ gw := gw_in (i := 1785) (by decide +kernel) (by decide +kernel)
theorem vX10_peeled : Cond.selects RX10 yX10_peeled yX10_peeled ∈ gw := gw_in (i := 1786) (by decide +kernel) (by decide +kernel)
abbrev mX10_known : MT := (yX10_known, cX10_known, 3, (some .int), 4, 92)
theorem kX10_known : CB mX10_known 1 := ⟨gw_in (i := 1795) (by decide +kernel) (by decide +kernel), gw_in (i := 120) (by decide +kernel) (by decide +kernel), by decide +kernel, by decide +kernel, by decide +kernel⟩
theorem iX10_known : Cond.instanceMethod yX10_known ∈ gw := gw_in (i := 1793) (by decide +kernel) (by decide +kernel)
theorem vX10_known : Cond.selects RX10 yX10_known yX10_known ∈ gw := gw_in (i := 1794) (by decide +kernel) (by decide +kernel)
abbrev mX10_costOf : MT := (yX10_costOf, cX10_costOf, 6, (some .int), 1, 22)
theorem kX10_costOf : CB mX10_costOf 1 := ⟨gw_in (i := 1803) (by decide +kernel) (by decide +kernel), gw_in (i := 120) (by decide +kernel) (by decide +kernel), by decide +kernel, by decide +kernel, by decide +kernel⟩
theorem iX10_costOf : Cond.instanceMethod yX10_costOf ∈ gw := gw_in (i := 1802) (by decide +kernel) (by decide +kernel)
theorem vX10_costOf : Cond.selects RX10 yX10_costOf yX10_costOf ∈ gw := gw_in (i := 98) (by decide +kernel) (by decide +kernel)
abbrev mX10_cost : MT := (yX10_cost, cX10_cost, 3, (some .int), 2, 47)
theorem kX10_cost : CB mX10_cost 1 := ⟨gw_in (i := 1799) (by decide +kernel) (by decide +kernel), gw_in (i := 120) (by decide +kernel) (by decide +kernel), by decide +kernel, by decide +kernel, by decide +kernel⟩
theorem iX10_cost : Cond.instanceMethod yX10_cost ∈ gw := gw_in (i := 1797) (by decide +kernel) (by decide +kernel)
theorem vX10_cost : Cond.selects RX10 yX10_cost yX10_cost ∈ gw := gw_in (i := 1798) (by decide +kernel) (by decide +kernel)
abbrev mX10_wordsAll : MT := (yX10_wordsAll, cX10_wordsAll, 1, (some .int), 3, 72)
theorem kX10_wordsAll : CB mX10_wordsAll 0 := ⟨gw_in (i := 1811) (by decide +kernel) (by decide +kernel), gw_in (i := 120) (by decide +kernel) (by decide +kernel), by decide +kernel, by decide +kernel, by decide +kernel⟩
theorem iX10_wordsAll : Cond.instanceMethod yX10_wordsAll ∈ gw := gw_in (i := 1810) (by decide +kernel) (by decide +kernel)
theorem vX10_wordsAll : Cond.selects RX10 yX10_wordsAll yX10_wordsAll ∈ gw := gw_in (i := 99) (by decide +kernel) (by decide +kernel)
abbrev mX10_lightest : MT := (yX10_lightest, cX10_lightest, 5, (some .int), 4, 92)
theorem kX10_lightest : CB mX10_lightest 0 := ⟨gw_in (i := 1807) (by decide +kernel) (by decide +kernel), gw_in (i := 120) (by decide +kernel) (by decide +kernel), by decide +kernel, by decide +kernel, by decide +kernel⟩
theorem iX10_lightest : Cond.instanceMethod yX10_lightest ∈ gw := gw_in (i := 1805) (by decide +kernel) (by decide +kernel)
theorem vX10_lightest : Cond.selects RX10 yX10_lightest yX10_lightest ∈ gw := gw_in (i := 1806) (by decide +kernel) (by decide +kernel)
abbrev mX10_spectrum : MT := (yX10_spectrum, cX10_spectrum, 5, (some .int), 4, 92)
theorem kX10_spectrum : CB mX10_spectrum 1 := ⟨gw_in (i := 1815) (by decide +kernel) (by decide +kernel), gw_in (i := 120) (by decide +kernel) (by decide +kernel), by decide +kernel, by decide +kernel, by decide +kernel⟩
theorem iX10_spectrum : Cond.instanceMethod yX10_spectrum ∈ gw := gw_in (i := 1813) (by decide +kernel) (by decide +kernel)
theorem vX10_spectrum : Cond.selects RX10 yX10_spectrum yX10_spectrum ∈ gw := gw_in (i := 1814) (by decide +kernel) (by decide +kernel)
abbrev mX10_nearest : MT := (yX10_nearest, cX10_nearest, 5, (some .long), 4, 92)
theorem kX10_nearest : CB mX10_nearest 0 := ⟨gw_in (i := 1819) (by decide +kernel) (by decide +kernel), gw_in (i := 120) (by decide +kernel) (by decide +kernel), by decide +kernel, by decide +kernel, by decide +kernel⟩
theorem iX10_nearest : Cond.instanceMethod yX10_nearest ∈ gw := gw_in (i := 1817) (by decide +kernel) (by decide +kernel)
theorem vX10_nearest : Cond.selects RX10 yX10_nearest yX10_nearest ∈ gw := gw_in (i := 1818) (by decide +kernel) (by decide +kernel)
abbrev mX10_likeliest : MT := (yX10_likeliest, cX10_likeliest, 5, (some .long), 4, 92)
theorem kX10_likeliest : CB mX10_likeliest 0 := ⟨gw_in (i := 1823) (by decide +kernel) (by decide +kernel), gw_in (i := 120) (by decide +kernel) (by decide +kernel), by decide +kernel, by decide +kernel, by decide +kernel⟩
theorem iX10_likeliest : Cond.instanceMethod yX10_likeliest ∈ gw := gw_in (i := 1821) (by decide +kernel) (by decide +kernel)
theorem vX10_likeliest : Cond.selects RX10 yX10_likeliest yX10_likeliest ∈ gw := gw_in (i := 1822) (by decide +kernel) (by decide +kernel)
abbrev mX10_readyAt : MT := (yX10_readyAt, cX10_readyAt, 5, (some .int), 0, 0)
theorem kX10_readyAt : CB mX10_readyAt 3 := ⟨gw_in (i := 1839) (by decide +kernel) (by decide +kernel), gw_in (i := 120) (by decide +kernel) (by decide +kernel), by decide +kernel, by decide +kernel, by decide +kernel⟩
theorem iX10_readyAt : Cond.instanceMethod yX10_readyAt ∈ gw := gw_in (i := 1838) (by decide +kernel) (by decide +kernel)
theorem vX10_readyAt : Cond.selects RX10 yX10_readyAt yX10_readyAt ∈ gw := gw_in (i := 102) (by decide +kernel) (by decide +kernel)
abbrev mX10_pipeNow : MT := (yX10_pipeNow, cX10_pipeNow, 10, none, 2, 50)
theorem kX10_pipeNow : CB mX10_pipeNow 2 := ⟨gw_in (i := 1831) (by decide +kernel) (by decide +kernel), gw_in (i := 120) (by decide +kernel) (by decide +kernel), by decide +kernel, by decide +kernel, by decide +kernel⟩
theorem iX10_pipeNow : Cond.instanceMethod yX10_pipeNow ∈ gw := gw_in (i := 1830) (by decide +kernel) (by decide +kernel)
theorem vX10_pipeNow : Cond.selects RX10 yX10_pipeNow yX10_pipeNow ∈ gw := gw_in (i := 100) (by decide +kernel) (by decide +kernel)
abbrev mX10_pipe : MT := (yX10_pipe, cX10_pipe, 4, (some .int), 3, 79)
theorem kX10_pipe : CB mX10_pipe 3 := ⟨gw_in (i := 1827) (by decide +kernel) (by decide +kernel), gw_in (i := 120) (by decide +kernel) (by decide +kernel), by decide +kernel, by decide +kernel, by decide +kernel⟩
theorem iX10_pipe : Cond.instanceMethod yX10_pipe ∈ gw := gw_in (i := 1825) (by decide +kernel) (by decide +kernel)
theorem vX10_pipe : Cond.selects RX10 yX10_pipe yX10_pipe ∈ gw := gw_in (i := 1826) (by decide +kernel) (by decide +kernel)
abbrev mX10_quietest : MT := (yX10_quietest, cX10_quietest, 5, (some .int), 3, 79)
theorem kX10_quietest : CB mX10_quietest 1 := ⟨gw_in (i := 1843) (by decide +kernel) (by decide +kernel), gw_in (i := 120) (by decide +kernel) (by decide +kernel), by decide +kernel, by decide +kernel, by decide +kernel⟩
theorem iX10_quietest : Cond.instanceMethod yX10_quietest ∈ gw := gw_in (i := 1841) (by decide +kernel) (by decide +kernel)
theorem vX10_quietest : Cond.selects RX10 yX10_quietest yX10_quietest ∈ gw := gw_in (i := 1842) (by decide +kernel) (by decide +kernel)
abbrev mX10_columnsOf : MT := (yX10_columnsOf, cX10_columnsOf, 4, (some .int), 0, 0)
theorem kX10_columnsOf : CB mX10_columnsOf 1 := ⟨gw_in (i := 1835) (by decide +kernel) (by decide +kernel), gw_in (i := 120) (by decide +kernel) (by decide +kernel), by decide +kernel, by decide +kernel, by decide +kernel⟩
theorem iX10_columnsOf : Cond.instanceMethod yX10_columnsOf ∈ gw := gw_in (i := 1834) (by decide +kernel) (by decide +kernel)
theorem vX10_columnsOf : Cond.selects RX10 yX10_columnsOf yX10_columnsOf ∈ gw := gw_in (i := 101) (by decide +kernel) (by decide +kernel)
abbrev mX10_clashesOf : MT := (yX10_clashesOf, cX10_clashesOf, 4, (some .int), 2, 50)
theorem kX10_clashesOf : CB mX10_clashesOf 1 := ⟨gw_in (i := 1851) (by decide +kernel) (by decide +kernel), gw_in (i := 120) (by decide +kernel) (by decide +kernel), by decide +kernel, by decide +kernel, by decide +kernel⟩
theorem iX10_clashesOf : Cond.instanceMethod yX10_clashesOf ∈ gw := gw_in (i := 1850) (by decide +kernel) (by decide +kernel)
theorem vX10_clashesOf : Cond.selects RX10 yX10_clashesOf yX10_clashesOf ∈ gw := gw_in (i := 103) (by decide +kernel) (by decide +kernel)
abbrev mX10_clashes : MT := (yX10_clashes, cX10_clashes, 2, (some .int), 3, 73)
theorem kX10_clashes : CB mX10_clashes 1 := ⟨gw_in (i := 1847) (by decide +kernel) (by decide +kernel), gw_in (i := 120) (by decide +kernel) (by decide +kernel), by decide +kernel, by decide +kernel, by decide +kernel⟩
theorem iX10_clashes : Cond.instanceMethod yX10_clashes ∈ gw := gw_in (i := 1845) (by decide +kernel) (by decide +kernel)
theorem vX10_clashes : Cond.selects RX10 yX10_clashes yX10_clashes ∈ gw := gw_in (i := 1846) (by decide +kernel) (by decide +kernel)
abbrev mX10_calmest : MT := (yX10_calmest, cX10_calmest, 3, (some .int), 3, 73)
theorem kX10_calmest : CB mX10_calmest 0 := ⟨gw_in (i := 1855) (by decide +kernel) (by decide +kernel), gw_in (i := 120) (by decide +kernel) (by decide +kernel), by decide +kernel, by decide +kernel, by decide +kernel⟩
theorem iX10_calmest : Cond.instanceMethod yX10_calmest ∈ gw := gw_in (i := 1853) (by decide +kernel) (by decide +kernel)
theorem vX10_calmest : Cond.selects RX10 yX10_calmest yX10_calmest ∈ gw := gw_in (i := 1854) (by decide +kernel) (by decide +kernel)
abbrev mX10_foretold : MT := (yX10_foretold, cX10_foretold, 3, (some .int), 6, 141)
theorem kX10_foretold : CB mX10_foretold 1 := ⟨gw_in (i := 1859) (by decide +kernel) (by decide +kernel), gw_in (i := 120) (by decide +kernel) (by decide +kernel), by decide +kernel, by decide +kernel, by decide +kernel⟩
theorem iX10_foretold : Cond.instanceMethod yX10_foretold ∈ gw := gw_in (i := 1857) (by decide +kernel) (by decide +kernel)
theorem vX10_foretold : Cond.selects RX10 yX10_foretold yX10_foretold ∈ gw := gw_in (i := 1858) (by decide +kernel) (by decide +kernel)
abbrev mX10_believed : MT := (yX10_believed, cX10_believed, 4, (some .int), 6, 141)
theorem kX10_believed : CB mX10_believed 2 := ⟨gw_in (i := 1863) (by decide +kernel) (by decide +kernel), gw_in (i := 120) (by decide +kernel) (by decide +kernel), by decide +kernel, by decide +kernel, by decide +kernel⟩
theorem iX10_believed : Cond.instanceMethod yX10_believed ∈ gw := gw_in (i := 1861) (by decide +kernel) (by decide +kernel)
theorem vX10_believed : Cond.selects RX10 yX10_believed yX10_believed ∈ gw := gw_in (i := 1862) (by decide +kernel) (by decide +kernel)
abbrev mX10_till : MT := (yX10_till, cX10_till, 2, (some .int), 6, 141)
theorem kX10_till : CB mX10_till 0 := ⟨gw_in (i := 1867) (by decide +kernel) (by decide +kernel), gw_in (i := 120) (by decide +kernel) (by decide +kernel), by decide +kernel, by decide +kernel, by decide +kernel⟩
theorem iX10_till : Cond.instanceMethod yX10_till ∈ gw := gw_in (i := 1865) (by decide +kernel) (by decide +kernel)
theorem vX10_till : Cond.selects RX10 yX10_till yX10_till ∈ gw := gw_in (i := 1866) (by decide +kernel) (by decide +kernel)
abbrev mX10_sweepsBy : MT := (yX10_sweepsBy, cX10_sweepsBy, 3, (some .int), 6, 141)
theorem kX10_sweepsBy : CB mX10_sweepsBy 1 := ⟨gw_in (i := 1875) (by decide +kernel) (by decide +kernel), gw_in (i := 120) (by decide +kernel) (by decide +kernel), by decide +kernel, by decide +kernel, by decide +kernel⟩
theorem iX10_sweepsBy : Cond.instanceMethod yX10_sweepsBy ∈ gw := gw_in (i := 1874) (by decide +kernel) (by decide +kernel)
theorem vX10_sweepsBy : Cond.selects RX10 yX10_sweepsBy yX10_sweepsBy ∈ gw := gw_in (i := 104) (by decide +kernel) (by decide +kernel)
abbrev mX10_fewer : MT := (yX10_fewer, cX10_fewer, 3, (some .int), 7, 163)
theorem kX10_fewer : CB mX10_fewer 0 := ⟨gw_in (i := 1871) (by decide +kernel) (by decide +kernel), gw_in (i := 120) (by decide +kernel) (by decide +kernel), by decide +kernel, by decide +kernel, by decide +kernel⟩
theorem iX10_fewer : Cond.instanceMethod yX10_fewer ∈ gw := gw_in (i := 1869) (by decide +kernel) (by decide +kernel)
theorem vX10_fewer : Cond.selects RX10 yX10_fewer yX10_fewer ∈ gw := gw_in (i := 1870) (by decide +kernel) (by decide +kernel)
abbrev mX10_trials : MT := (yX10_trials, cX10_trials, 9, (some .int), 6, 141)
theorem kX10_trials : CB mX10_trials 4 := ⟨gw_in (i := 1879) (by decide +kernel) (by decide +kernel), gw_in (i := 120) (by decide +kernel) (by decide +kernel), by decide +kernel, by decide +kernel, by decide +kernel⟩
theorem iX10_trials : Cond.instanceMethod yX10_trials ∈ gw := gw_in (i := 1877) (by decide +kernel) (by decide +kernel)
theorem vX10_trials : Cond.selects RX10 yX10_trials yX10_trials ∈ gw := gw_in (i := 1878) (by decide +kernel) (by decide +kernel)
abbrev mX10_mean : MT := (yX10_mean, cX10_mean, 3, (some .long), 2, 61)
theorem kX10_mean : CB mX10_mean 0 := ⟨gw_in (i := 1883) (by decide +kernel) (by decide +kernel), gw_in (i := 120) (by decide +kernel) (by decide +kernel), by decide +kernel, by decide +kernel, by decide +kernel⟩
theorem iX10_mean : Cond.instanceMethod yX10_mean ∈ gw := gw_in (i := 1881) (by decide +kernel) (by decide +kernel)
theorem vX10_mean : Cond.selects RX10 yX10_mean yX10_mean ∈ gw := gw_in (i := 1882) (by decide +kernel) (by decide +kernel)
abbrev mX10_image : MT := (yX10_image, cX10_image, 1, (some .int), 1, 22)
theorem kX10_image : CB mX10_image 0 := ⟨gw_in (i := 1897) (by decide +kernel) (by decide +kernel), gw_in (i := 120) (by decide +kernel) (by decide +kernel), by decide +kernel, by decide +kernel, by decide +kernel⟩
theorem iX10_image : Cond.instanceMethod yX10_image ∈ gw := gw_in (i := 1895) (by decide +kernel) (by decide +kernel)
theorem vX10_image : Cond.selects RX10 yX10_image yX10_image ∈ gw := gw_in (i := 1896) (by decide +kernel) (by decide +kernel)
abbrev mX10_back : MT := (yX10_back, cX10_back, 1, (some .int), 1, 22)
theorem kX10_back : CB mX10_back 0 := ⟨gw_in (i := 1901) (by decide +kernel) (by decide +kernel), gw_in (i := 120) (by decide +kernel) (by decide +kernel), by decide +kernel, by decide +kernel, by decide +kernel⟩
theorem iX10_back : Cond.instanceMethod yX10_back ∈ gw := gw_in (i := 1899) (by decide +kernel) (by decide +kernel)
theorem vX10_back : Cond.selects RX10 yX10_back yX10_back ∈ gw := gw_in (i := 1900) (by decide +kernel) (by decide +kernel)
abbrev mX10_about : MT := (yX10_about, cX10_about, 2, (some .int), 1, 22)
theorem kX10_about : CB mX10_about 1 := ⟨gw_in (i := 1905) (by decide +kernel) (by decide +kernel), gw_in (i := 120) (by decide +kernel) (by decide +kernel), by decide +kernel, by decide +kernel, by decide +kernel⟩
theorem iX10_about : Cond.instanceMethod yX10_about ∈ gw := gw_in (i := 1903) (by decide +kernel) (by decide +kernel)
theorem vX10_about : Cond.selects RX10 yX10_about yX10_about ∈ gw := gw_in (i := 1904) (by decide +kernel) (by decide +kernel)
abbrev mJxe99ae_isNaN_b9ae7 : MT := (yJxe99ae_isNaN_b9ae7, cJxe99ae_isNaN_b9ae7, 2, (some .boolean), 0, 0)
theorem kJxe99ae_isNaN_b9ae7 : CB mJxe99ae_isNaN_b9ae7 1 := ⟨gw_in (i := 1889) (by decide +kernel) (by decide +kernel), gw_in (i := 127) (by decide +kernel) (by decide +kernel), by decide +kernel, by decide +kernel, by decide +kernel⟩
theorem sJxe99ae_isNaN_b9ae7 : Cond.static yJxe99ae_isNaN_b9ae7 ∈ gw := gw_in (i := 1888) (by decide +kernel) (by decide +kernel)
abbrev mJxe99ae_doubleToLongBits_ccdee : MT := (yJxe99ae_doubleToLongBits_ccdee, cJxe99ae_doubleToLongBits_ccdee, 2, (some .long), 1, 40)
theorem kJxe99ae_doubleToLongBits_ccdee : CB mJxe99ae_doubleToLongBits_ccdee 1 := ⟨gw_in (i := 1886) (by decide +kernel) (by decide +kernel), gw_in (i := 127) (by decide +kernel) (by decide +kernel), by decide +kernel, by decide +kernel, by decide +kernel⟩
theorem sJxe99ae_doubleToLongBits_ccdee : Cond.static yJxe99ae_doubleToLongBits_ccdee ∈ gw := gw_in (i := 1885) (by decide +kernel) (by decide +kernel)
abbrev mJ6_bitCount_0f7a4 : MT := (yJ6_bitCount_0f7a4, cJ6_bitCount_0f7a4, 1, (some .int), 0, 0)
theorem kJ6_bitCount_0f7a4 : CB mJ6_bitCount_0f7a4 1 := ⟨gw_in (i := 858) (by decide +kernel) (by decide +kernel), gw_in (i := 125) (by decide +kernel) (by decide +kernel), by decide +kernel, by decide +kernel, by decide +kernel⟩
theorem sJ6_bitCount_0f7a4 : Cond.static yJ6_bitCount_0f7a4 ∈ gw := gw_in (i := 857) (by decide +kernel) (by decide +kernel)
abbrev mJ13_bitCount_95d88 : MT := (yJ13_bitCount_95d88, cJ13_bitCount_95d88, 2, (some .int), 0, 0)
theorem kJ13_bitCount_95d88 : CB mJ13_bitCount_95d88 1 := ⟨gw_in (i := 161) (by decide +kernel) (by decide +kernel), gw_in (i := 110) (by decide +kernel) (by decide +kernel), by decide +kernel, by decide +kernel, by decide +kernel⟩
theorem sJ13_bitCount_95d88 : Cond.static yJ13_bitCount_95d88 ∈ gw := gw_in (i := 160) (by decide +kernel) (by decide +kernel)
abbrev mJ9_abs_0f7a4 : MT := (yJ9_abs_0f7a4, cJ9_abs_0f7a4, 1, (some .int), 0, 0)
theorem kJ9_abs_0f7a4 : CB mJ9_abs_0f7a4 1 := ⟨gw_in (i := 1109) (by decide +kernel) (by decide +kernel), gw_in (i := 114) (by decide +kernel) (by decide +kernel), by decide +kernel, by decide +kernel, by decide +kernel⟩
theorem sJ9_abs_0f7a4 : Cond.static yJ9_abs_0f7a4 ∈ gw := gw_in (i := 1108) (by decide +kernel) (by decide +kernel)
abbrev mJ9_max_7cf53 : MT := (yJ9_max_7cf53, cJ9_max_7cf53, 2, (some .int), 0, 0)
theorem kJ9_max_7cf53 : CB mJ9_max_7cf53 2 := ⟨gw_in (i := 367) (by decide +kernel) (by decide +kernel), gw_in (i := 114) (by decide +kernel) (by decide +kernel), by decide +kernel, by decide +kernel, by decide +kernel⟩
theorem sJ9_max_7cf53 : Cond.static yJ9_max_7cf53 ∈ gw := gw_in (i := 366) (by decide +kernel) (by decide +kernel)
abbrev mJ9_min_7cf53 : MT := (yJ9_min_7cf53, cJ9_min_7cf53, 2, (some .int), 0, 0)
theorem kJ9_min_7cf53 : CB mJ9_min_7cf53 2 := ⟨gw_in (i := 594) (by decide +kernel) (by decide +kernel), gw_in (i := 114) (by decide +kernel) (by decide +kernel), by decide +kernel, by decide +kernel, by decide +kernel⟩
theorem sJ9_min_7cf53 : Cond.static yJ9_min_7cf53 ∈ gw := gw_in (i := 593) (by decide +kernel) (by decide +kernel)
abbrev mJ0_length_8abf5 : MT := (yJ0_length_8abf5, cJ0_length_8abf5, 1, (some .int), 1, 20)
theorem kJ0_length_8abf5 : CB mJ0_length_8abf5 0 := ⟨gw_in (i := 611) (by decide +kernel) (by decide +kernel), gw_in (i := 121) (by decide +kernel) (by decide +kernel), by decide +kernel, by decide +kernel, by decide +kernel⟩
theorem iJ0_length_8abf5 : Cond.instanceMethod yJ0_length_8abf5 ∈ gw := gw_in (i := 609) (by decide +kernel) (by decide +kernel)
theorem vJ0_length_8abf5 : Cond.selects RJ0 yJ0_length_8abf5 yJ0_length_8abf5 ∈ gw := gw_in (i := 610) (by decide +kernel) (by decide +kernel)
abbrev mJ0_charAt_5068e : MT := (yJ0_charAt_5068e, cJ0_charAt_5068e, 2, (some .char), 3, 64)
theorem kJ0_charAt_5068e : CB mJ0_charAt_5068e 1 := ⟨gw_in (i := 621) (by decide +kernel) (by decide +kernel), gw_in (i := 121) (by decide +kernel) (by decide +kernel), by decide +kernel, by decide +kernel, by decide +kernel⟩
theorem iJ0_charAt_5068e : Cond.instanceMethod yJ0_charAt_5068e ∈ gw := gw_in (i := 619) (by decide +kernel) (by decide +kernel)
theorem vJ0_charAt_5068e : Cond.selects RJ0 yJ0_charAt_5068e yJ0_charAt_5068e ∈ gw := gw_in (i := 620) (by decide +kernel) (by decide +kernel)
abbrev mJ0_coder_7d493 : MT := (yJ0_coder_7d493, cJ0_coder_7d493, 1, (some .byte), 0, 0)
theorem kJ0_coder_7d493 : CB mJ0_coder_7d493 0 := ⟨gw_in (i := 615) (by decide +kernel) (by decide +kernel), gw_in (i := 121) (by decide +kernel) (by decide +kernel), by decide +kernel, by decide +kernel, by decide +kernel⟩
theorem iJ0_coder_7d493 : Cond.instanceMethod yJ0_coder_7d493 ∈ gw := gw_in (i := 613) (by decide +kernel) (by decide +kernel)
theorem vJ0_coder_7d493 : Cond.selects RJ0 yJ0_coder_7d493 yJ0_coder_7d493 ∈ gw := gw_in (i := 614) (by decide +kernel) (by decide +kernel)
abbrev mJ0_isLatin1_aae02 : MT := (yJ0_isLatin1_aae02, cJ0_isLatin1_aae02, 1, (some .boolean), 0, 0)
theorem kJ0_isLatin1_aae02 : CB mJ0_isLatin1_aae02 0 := ⟨gw_in (i := 625) (by decide +kernel) (by decide +kernel), gw_in (i := 121) (by decide +kernel) (by decide +kernel), by decide +kernel, by decide +kernel, by decide +kernel⟩
theorem iJ0_isLatin1_aae02 : Cond.instanceMethod yJ0_isLatin1_aae02 ∈ gw := gw_in (i := 623) (by decide +kernel) (by decide +kernel)
theorem vJ0_isLatin1_aae02 : Cond.selects RJ0 yJ0_isLatin1_aae02 yJ0_isLatin1_aae02 ∈ gw := gw_in (i := 624) (by decide +kernel) (by decide +kernel)
abbrev mJ0_checkIndex_df160 : MT := (yJ0_checkIndex_df160, cJ0_checkIndex_df160, 2, none, 1, 22)
theorem kJ0_checkIndex_df160 : CB mJ0_checkIndex_df160 2 := ⟨gw_in (i := 631) (by decide +kernel) (by decide +kernel), gw_in (i := 121) (by decide +kernel) (by decide +kernel), by decide +kernel, by decide +kernel, by decide +kernel⟩
theorem sJ0_checkIndex_df160 : Cond.static yJ0_checkIndex_df160 ∈ gw := gw_in (i := 630) (by decide +kernel) (by decide +kernel)
abbrev mJ1_charAt_3b067 : MT := (yJ1_charAt_3b067, cJ1_charAt_3b067, 2, (some .char), 2, 43)
theorem kJ1_charAt_3b067 : CB mJ1_charAt_3b067 2 := ⟨gw_in (i := 628) (by decide +kernel) (by decide +kernel), gw_in (i := 122) (by decide +kernel) (by decide +kernel), by decide +kernel, by decide +kernel, by decide +kernel⟩
theorem sJ1_charAt_3b067 : Cond.static yJ1_charAt_3b067 ∈ gw := gw_in (i := 627) (by decide +kernel) (by decide +kernel)
abbrev mJ7_fill_53178 : MT := (yJ7_fill_53178, cJ7_fill_53178, 4, none, 0, 0)
theorem kJ7_fill_53178 : CB mJ7_fill_53178 2 := ⟨gw_in (i := 144) (by decide +kernel) (by decide +kernel), gw_in (i := 108) (by decide +kernel) (by decide +kernel), by decide +kernel, by decide +kernel, by decide +kernel⟩
theorem sJ7_fill_53178 : Cond.static yJ7_fill_53178 ∈ gw := gw_in (i := 143) (by decide +kernel) (by decide +kernel)
abbrev mJ7_copyOf_c38d5 : MT := (yJ7_copyOf_c38d5, cJ7_copyOf_c38d5, 3, (some (.array .long)), 1, 40)
theorem kJ7_copyOf_c38d5 : CB mJ7_copyOf_c38d5 2 := ⟨gw_in (i := 1041) (by decide +kernel) (by decide +kernel), gw_in (i := 108) (by decide +kernel) (by decide +kernel), by decide +kernel, by decide +kernel, by decide +kernel⟩
theorem sJ7_copyOf_c38d5 : Cond.static yJ7_copyOf_c38d5 ∈ gw := gw_in (i := 1040) (by decide +kernel) (by decide +kernel)
abbrev mJ3_checkIndex_8e157 : MT := (yJ3_checkIndex_8e157, cJ3_checkIndex_8e157, 3, (some .int), 0, 0)
theorem kJ3_checkIndex_8e157 : CB mJ3_checkIndex_8e157 3 := ⟨gw_in (i := 636) (by decide +kernel) (by decide +kernel), gw_in (i := 123) (by decide +kernel) (by decide +kernel), by decide +kernel, by decide +kernel, by decide +kernel⟩
theorem sJ3_checkIndex_8e157 : Cond.static yJ3_checkIndex_8e157 ∈ gw := gw_in (i := 635) (by decide +kernel) (by decide +kernel)
theorem lX9_1 : Cond.methodLink RX9 1 Lib.objectInit ∈ gw := gw_in (i := 133) (by decide +kernel) (by decide +kernel)
theorem lX9_11 : Cond.methodLink RX9 11 yX2_init ∈ gw := gw_in (i := 138) (by decide +kernel) (by decide +kernel)
theorem lX2_3 : Cond.methodLink RX2 3 Lib.objectInit ∈ gw := gw_in (i := 141) (by decide +kernel) (by decide +kernel)
theorem lX2_47 : Cond.methodLink RX2 47 yJ7_fill_53178 ∈ gw := gw_in (i := 142) (by decide +kernel) (by decide +kernel)
theorem lX2_53 : Cond.methodLink RX2 53 yX2_lay ∈ gw := gw_in (i := 145) (by decide +kernel) (by decide +kernel)
theorem lX2_65 : Cond.methodLink RX2 65 yX2_reduce ∈ gw := gw_in (i := 156) (by decide +kernel) (by decide +kernel)
theorem lX2_73 : Cond.methodLink RX2 73 yJ13_bitCount_95d88 ∈ gw := gw_in (i := 159) (by decide +kernel) (by decide +kernel)
theorem lX9_16 : Cond.methodLink RX9 16 yX5_init ∈ gw := gw_in (i := 247) (by decide +kernel) (by decide +kernel)
theorem lX5_3 : Cond.methodLink RX5 3 Lib.objectInit ∈ gw := gw_in (i := 250) (by decide +kernel) (by decide +kernel)
theorem lX6_3 : Cond.methodLink RX6 3 Lib.objectInit ∈ gw := gw_in (i := 256) (by decide +kernel) (by decide +kernel)
theorem lX5_26 : Cond.methodLink RX5 26 yX8_init ∈ gw := gw_in (i := 274) (by decide +kernel) (by decide +kernel)
theorem lX8_3 : Cond.methodLink RX8 3 Lib.objectInit ∈ gw := gw_in (i := 277) (by decide +kernel) (by decide +kernel)
theorem lX5_33 : Cond.methodLink RX5 33 yX8_come ∈ gw := gw_in (i := 347) (by decide +kernel) (by decide +kernel)
theorem lX8_72 : Cond.methodLink RX8 72 yJ7_fill_53178 ∈ gw := gw_in (i := 351) (by decide +kernel) (by decide +kernel)
theorem lX9_340 : Cond.methodLink RX9 340 yX9_countOrders ∈ gw := gw_in (i := 355) (by decide +kernel) (by decide +kernel)
theorem lX9_215 : Cond.methodLink RX9 215 yX9_memberOf ∈ gw := gw_in (i := 358) (by decide +kernel) (by decide +kernel)
theorem lX9_113 : Cond.methodLink RX9 113 yJ13_bitCount_95d88 ∈ gw := gw_in (i := 361) (by decide +kernel) (by decide +kernel)
theorem lX9_374 : Cond.methodLink RX9 374 yX9_lowest ∈ gw := gw_in (i := 362) (by decide +kernel) (by decide +kernel)
theorem lX9_377 : Cond.methodLink RX9 377 yJ9_max_7cf53 ∈ gw := gw_in (i := 365) (by decide +kernel) (by decide +kernel)
theorem lX8_87 : Cond.methodLink RX8 87 yX8_start ∈ gw := gw_in (i := 368) (by decide +kernel) (by decide +kernel)
theorem lX8_91 : Cond.methodLink RX8 91 yX8_look ∈ gw := gw_in (i := 375) (by decide +kernel) (by decide +kernel)
theorem lX8_110 : Cond.methodLink RX8 110 yX2_countOdd ∈ gw := gw_in (i := 379) (by decide +kernel) (by decide +kernel)
theorem lX7_3 : Cond.methodLink RX7 3 Lib.objectInit ∈ gw := gw_in (i := 405) (by decide +kernel) (by decide +kernel)
theorem lX9_35 : Cond.methodLink RX9 35 yX8_init ∈ gw := gw_in (i := 453) (by decide +kernel) (by decide +kernel)
theorem lX9_42 : Cond.methodLink RX9 42 yX1_init ∈ gw := gw_in (i := 456) (by decide +kernel) (by decide +kernel)
theorem lX1_3 : Cond.methodLink RX1 3 Lib.objectInit ∈ gw := gw_in (i := 459) (by decide +kernel) (by decide +kernel)
theorem lX0_3 : Cond.methodLink RX0 3 Lib.objectInit ∈ gw := gw_in (i := 496) (by decide +kernel) (by decide +kernel)
theorem lX3_3 : Cond.methodLink RX3 3 Lib.objectInit ∈ gw := gw_in (i := 517) (by decide +kernel) (by decide +kernel)
theorem lX9_65 : Cond.methodLink RX9 65 yX7_take ∈ gw := gw_in (i := 562) (by decide +kernel) (by decide +kernel)
theorem lX9_72 : Cond.methodLink RX9 72 yX7_read ∈ gw := gw_in (i := 574) (by decide +kernel) (by decide +kernel)
theorem lX7_46 : Cond.methodLink RX7 46 yX7_readClauses ∈ gw := gw_in (i := 578) (by decide +kernel) (by decide +kernel)
theorem lX7_59 : Cond.methodLink RX7 59 yX7_readToken ∈ gw := gw_in (i := 582) (by decide +kernel) (by decide +kernel)
theorem lX7_111 : Cond.methodLink RX7 111 yX7_isLetter ∈ gw := gw_in (i := 586) (by decide +kernel) (by decide +kernel)
theorem lX7_115 : Cond.methodLink RX7 115 yX7_isDigit ∈ gw := gw_in (i := 589) (by decide +kernel) (by decide +kernel)
theorem lX7_118 : Cond.methodLink RX7 118 yJ9_min_7cf53 ∈ gw := gw_in (i := 592) (by decide +kernel) (by decide +kernel)
theorem lX7_65 : Cond.methodLink RX7 65 yX7_refuse ∈ gw := gw_in (i := 595) (by decide +kernel) (by decide +kernel)
theorem lX7_69 : Cond.methodLink RX7 69 yX7_readClause ∈ gw := gw_in (i := 599) (by decide +kernel) (by decide +kernel)
theorem lX7_75 : Cond.methodLink RX7 75 yX7_spells ∈ gw := gw_in (i := 604) (by decide +kernel) (by decide +kernel)
theorem lX7_102 : Cond.methodLink RX7 102 yJ0_length_8abf5 ∈ gw := gw_in (i := 608) (by decide +kernel) (by decide +kernel)
theorem lJ0_335 : Cond.methodLink RJ0 335 yJ0_coder_7d493 ∈ gw := gw_in (i := 612) (by decide +kernel) (by decide +kernel)
theorem lX7_107 : Cond.methodLink RX7 107 yJ0_charAt_5068e ∈ gw := gw_in (i := 618) (by decide +kernel) (by decide +kernel)
theorem lJ0_492 : Cond.methodLink RJ0 492 yJ0_isLatin1_aae02 ∈ gw := gw_in (i := 622) (by decide +kernel) (by decide +kernel)
theorem lJ0_495 : Cond.methodLink RJ0 495 yJ1_charAt_3b067 ∈ gw := gw_in (i := 626) (by decide +kernel) (by decide +kernel)
theorem lJ1_9 : Cond.methodLink RJ1 9 yJ0_checkIndex_df160 ∈ gw := gw_in (i := 629) (by decide +kernel) (by decide +kernel)
theorem lJ0_1059 : Cond.methodLink RJ0 1059 yJ3_checkIndex_8e157 ∈ gw := gw_in (i := 634) (by decide +kernel) (by decide +kernel)
theorem lX7_79 : Cond.methodLink RX7 79 yX7_readRow ∈ gw := gw_in (i := 656) (by decide +kernel) (by decide +kernel)
theorem lX7_92 : Cond.methodLink RX7 92 yX7_endRow ∈ gw := gw_in (i := 660) (by decide +kernel) (by decide +kernel)
theorem lX7_95 : Cond.methodLink RX7 95 yX7_entryFault ∈ gw := gw_in (i := 664) (by decide +kernel) (by decide +kernel)
theorem lX7_83 : Cond.methodLink RX7 83 yX7_readNumber ∈ gw := gw_in (i := 669) (by decide +kernel) (by decide +kernel)
theorem lX7_56 : Cond.methodLink RX7 56 yX2_init ∈ gw := gw_in (i := 681) (by decide +kernel) (by decide +kernel)
theorem lX9_86 : Cond.methodLink RX9 86 yX9_keep ∈ gw := gw_in (i := 691) (by decide +kernel) (by decide +kernel)
theorem lX9_368 : Cond.methodLink RX9 368 yX6_put ∈ gw := gw_in (i := 695) (by decide +kernel) (by decide +kernel)
theorem lX6_24 : Cond.methodLink RX6 24 yX6_copyTo ∈ gw := gw_in (i := 699) (by decide +kernel) (by decide +kernel)
theorem lX6_32 : Cond.methodLink RX6 32 yX8_init ∈ gw := gw_in (i := 703) (by decide +kernel) (by decide +kernel)
theorem lX6_35 : Cond.methodLink RX6 35 yX8_copyFrom ∈ gw := gw_in (i := 704) (by decide +kernel) (by decide +kernel)
theorem lX9_92 : Cond.methodLink RX9 92 yX8_come ∈ gw := gw_in (i := 708) (by decide +kernel) (by decide +kernel)
theorem lX9_105 : Cond.methodLink RX9 105 yX2_wordOf ∈ gw := gw_in (i := 713) (by decide +kernel) (by decide +kernel)
theorem lX9_122 : Cond.methodLink RX9 122 yX2_moved ∈ gw := gw_in (i := 724) (by decide +kernel) (by decide +kernel)
theorem lX2_91 : Cond.methodLink RX2 91 yX2_init ∈ gw := gw_in (i := 731) (by decide +kernel) (by decide +kernel)
theorem lX9_129 : Cond.methodLink RX9 129 yX9_isBit ∈ gw := gw_in (i := 740) (by decide +kernel) (by decide +kernel)
theorem lX9_137 : Cond.methodLink RX9 137 yX9_isLevel ∈ gw := gw_in (i := 748) (by decide +kernel) (by decide +kernel)
theorem lX9_140 : Cond.methodLink RX9 140 yX9_isSpoil ∈ gw := gw_in (i := 751) (by decide +kernel) (by decide +kernel)
theorem lX9_143 : Cond.methodLink RX9 143 yX8_draw ∈ gw := gw_in (i := 754) (by decide +kernel) (by decide +kernel)
theorem lX9_147 : Cond.methodLink RX9 147 yX8_start ∈ gw := gw_in (i := 762) (by decide +kernel) (by decide +kernel)
theorem lX9_153 : Cond.methodLink RX9 153 yX9_isOrder ∈ gw := gw_in (i := 767) (by decide +kernel) (by decide +kernel)
theorem lX9_159 : Cond.methodLink RX9 159 yX9_fillOrder ∈ gw := gw_in (i := 771) (by decide +kernel) (by decide +kernel)
theorem lX9_166 : Cond.methodLink RX9 166 yX9_isSteps ∈ gw := gw_in (i := 776) (by decide +kernel) (by decide +kernel)
theorem lX9_169 : Cond.methodLink RX9 169 yX8_go ∈ gw := gw_in (i := 779) (by decide +kernel) (by decide +kernel)
theorem lX8_97 : Cond.methodLink RX8 97 yX8_advance ∈ gw := gw_in (i := 783) (by decide +kernel) (by decide +kernel)
theorem lX8_100 : Cond.methodLink RX8 100 yX8_mendLayer ∈ gw := gw_in (i := 787) (by decide +kernel) (by decide +kernel)
theorem lX8_125 : Cond.methodLink RX8 125 yX8_mendMessages ∈ gw := gw_in (i := 791) (by decide +kernel) (by decide +kernel)
theorem lX8_141 : Cond.methodLink RX8 141 yX8_sizeOf ∈ gw := gw_in (i := 795) (by decide +kernel) (by decide +kernel)
theorem lX8_134 : Cond.methodLink RX8 134 yX8_hold ∈ gw := gw_in (i := 799) (by decide +kernel) (by decide +kernel)
theorem lX8_103 : Cond.methodLink RX8 103 yX8_mendAtOnce ∈ gw := gw_in (i := 802) (by decide +kernel) (by decide +kernel)
theorem lX8_106 : Cond.methodLink RX8 106 yX8_note ∈ gw := gw_in (i := 806) (by decide +kernel) (by decide +kernel)
theorem lX8_114 : Cond.methodLink RX8 114 yJ13_bitCount_95d88 ∈ gw := gw_in (i := 810) (by decide +kernel) (by decide +kernel)
theorem lX9_177 : Cond.methodLink RX9 177 yX6_takeBack ∈ gw := gw_in (i := 816) (by decide +kernel) (by decide +kernel)
theorem lX9_208 : Cond.methodLink RX9 208 yX9_isCheck ∈ gw := gw_in (i := 840) (by decide +kernel) (by decide +kernel)
theorem lX9_222 : Cond.methodLink RX9 222 yJ6_bitCount_0f7a4 ∈ gw := gw_in (i := 856) (by decide +kernel) (by decide +kernel)
theorem lX9_241 : Cond.methodLink RX9 241 yX9_isOdd ∈ gw := gw_in (i := 874) (by decide +kernel) (by decide +kernel)
theorem lX9_248 : Cond.methodLink RX9 248 yJ9_min_7cf53 ∈ gw := gw_in (i := 879) (by decide +kernel) (by decide +kernel)
theorem lX9_259 : Cond.methodLink RX9 259 yX4_shortestRing ∈ gw := gw_in (i := 912) (by decide +kernel) (by decide +kernel)
theorem lX4_28 : Cond.methodLink RX4 28 yX4_way ∈ gw := gw_in (i := 916) (by decide +kernel) (by decide +kernel)
theorem lX9_265 : Cond.methodLink RX9 265 yX4_countFours ∈ gw := gw_in (i := 923) (by decide +kernel) (by decide +kernel)
theorem lX4_34 : Cond.methodLink RX4 34 yJ13_bitCount_95d88 ∈ gw := gw_in (i := 926) (by decide +kernel) (by decide +kernel)
theorem lX9_268 : Cond.methodLink RX9 268 yX4_countSixes ∈ gw := gw_in (i := 931) (by decide +kernel) (by decide +kernel)
theorem lX4_40 : Cond.methodLink RX4 40 yX4_sixesOf ∈ gw := gw_in (i := 934) (by decide +kernel) (by decide +kernel)
theorem lX9_271 : Cond.methodLink RX9 271 yX4_way ∈ gw := gw_in (i := 941) (by decide +kernel) (by decide +kernel)
theorem lX9_275 : Cond.methodLink RX9 275 yX4_countPieces ∈ gw := gw_in (i := 946) (by decide +kernel) (by decide +kernel)
theorem lX4_47 : Cond.methodLink RX4 47 yX4_pieceOf ∈ gw := gw_in (i := 949) (by decide +kernel) (by decide +kernel)
theorem lX9_278 : Cond.methodLink RX9 278 yX9_isSet ∈ gw := gw_in (i := 956) (by decide +kernel) (by decide +kernel)
theorem lX9_281 : Cond.methodLink RX9 281 yX2_countOdd ∈ gw := gw_in (i := 960) (by decide +kernel) (by decide +kernel)
theorem lX9_284 : Cond.methodLink RX9 284 yX2_oddMask ∈ gw := gw_in (i := 965) (by decide +kernel) (by decide +kernel)
theorem lX9_287 : Cond.methodLink RX9 287 yX2_isHeldBy ∈ gw := gw_in (i := 969) (by decide +kernel) (by decide +kernel)
theorem lX2_94 : Cond.methodLink RX2 94 yJ6_bitCount_0f7a4 ∈ gw := gw_in (i := 973) (by decide +kernel) (by decide +kernel)
theorem lX9_291 : Cond.methodLink RX9 291 yX9_isMany ∈ gw := gw_in (i := 978) (by decide +kernel) (by decide +kernel)
theorem lX9_294 : Cond.methodLink RX9 294 yX1_tally ∈ gw := gw_in (i := 981) (by decide +kernel) (by decide +kernel)
theorem lX1_42 : Cond.methodLink RX1 42 yX1_count ∈ gw := gw_in (i := 985) (by decide +kernel) (by decide +kernel)
theorem lX1_56 : Cond.methodLink RX1 56 yX1_refresh ∈ gw := gw_in (i := 989) (by decide +kernel) (by decide +kernel)
theorem lX1_61 : Cond.methodLink RX1 61 yX1_countWords ∈ gw := gw_in (i := 994) (by decide +kernel) (by decide +kernel)
theorem lX1_81 : Cond.methodLink RX1 81 yX1_firstLast ∈ gw := gw_in (i := 998) (by decide +kernel) (by decide +kernel)
theorem lX1_65 : Cond.methodLink RX1 65 yX1_countStoppers ∈ gw := gw_in (i := 1002) (by decide +kernel) (by decide +kernel)
theorem lX1_84 : Cond.methodLink RX1 84 yX1_justOnce ∈ gw := gw_in (i := 1006) (by decide +kernel) (by decide +kernel)
theorem lX1_68 : Cond.methodLink RX1 68 yX1_countErasables ∈ gw := gw_in (i := 1010) (by decide +kernel) (by decide +kernel)
theorem lX1_88 : Cond.methodLink RX1 88 yX1_peelsAway ∈ gw := gw_in (i := 1014) (by decide +kernel) (by decide +kernel)
theorem lX1_71 : Cond.methodLink RX1 71 yX1_countKnots ∈ gw := gw_in (i := 1018) (by decide +kernel) (by decide +kernel)
theorem lX1_92 : Cond.methodLink RX1 92 yX2_isHeldBy ∈ gw := gw_in (i := 1022) (by decide +kernel) (by decide +kernel)
theorem lX1_96 : Cond.methodLink RX1 96 yX1_areHeldBy ∈ gw := gw_in (i := 1023) (by decide +kernel) (by decide +kernel)
theorem lX1_99 : Cond.methodLink RX1 99 yX1_anySmallerKnot ∈ gw := gw_in (i := 1027) (by decide +kernel) (by decide +kernel)
theorem lX1_105 : Cond.methodLink RX1 105 yX1_isKnot ∈ gw := gw_in (i := 1031) (by decide +kernel) (by decide +kernel)
theorem lX1_102 : Cond.methodLink RX1 102 yX1_list ∈ gw := gw_in (i := 1035) (by decide +kernel) (by decide +kernel)
theorem lX1_108 : Cond.methodLink RX1 108 yJ7_copyOf_c38d5 ∈ gw := gw_in (i := 1039) (by decide +kernel) (by decide +kernel)
theorem lJ7_304 : Cond.methodLink RJ7 304 yJ9_min_7cf53 ∈ gw := gw_in (i := 1044) (by decide +kernel) (by decide +kernel)
theorem lX1_74 : Cond.methodLink RX1 74 yX1_turn ∈ gw := gw_in (i := 1046) (by decide +kernel) (by decide +kernel)
theorem lX9_298 : Cond.methodLink RX9 298 yX1_leastKnot ∈ gw := gw_in (i := 1054) (by decide +kernel) (by decide +kernel)
theorem lX9_302 : Cond.methodLink RX9 302 yX9_trap ∈ gw := gw_in (i := 1070) (by decide +kernel) (by decide +kernel)
theorem lX9_347 : Cond.methodLink RX9 347 yX8_copyFrom ∈ gw := gw_in (i := 1074) (by decide +kernel) (by decide +kernel)
theorem lX9_305 : Cond.methodLink RX9 305 yX4_peel ∈ gw := gw_in (i := 1087) (by decide +kernel) (by decide +kernel)
theorem lX9_311 : Cond.methodLink RX9 311 yX8_costOf ∈ gw := gw_in (i := 1103) (by decide +kernel) (by decide +kernel)
theorem lX8_150 : Cond.methodLink RX8 150 yJ9_abs_0f7a4 ∈ gw := gw_in (i := 1107) (by decide +kernel) (by decide +kernel)
theorem lX9_314 : Cond.methodLink RX9 314 yX0_open ∈ gw := gw_in (i := 1114) (by decide +kernel) (by decide +kernel)
theorem lX0_24 : Cond.methodLink RX0 24 yX2_wordOf ∈ gw := gw_in (i := 1118) (by decide +kernel) (by decide +kernel)
theorem lX9_324 : Cond.methodLink RX9 324 yX0_turn ∈ gw := gw_in (i := 1119) (by decide +kernel) (by decide +kernel)
theorem lX9_327 : Cond.methodLink RX9 327 yX9_isLatency ∈ gw := gw_in (i := 1140) (by decide +kernel) (by decide +kernel)
theorem lX9_330 : Cond.methodLink RX9 330 yX3_run ∈ gw := gw_in (i := 1143) (by decide +kernel) (by decide +kernel)
theorem lX3_28 : Cond.methodLink RX3 28 yJ7_fill_53178 ∈ gw := gw_in (i := 1148) (by decide +kernel) (by decide +kernel)
theorem lX3_43 : Cond.methodLink RX3 43 yX2_columnsOf ∈ gw := gw_in (i := 1149) (by decide +kernel) (by decide +kernel)
theorem lX3_47 : Cond.methodLink RX3 47 yX3_runLayer ∈ gw := gw_in (i := 1153) (by decide +kernel) (by decide +kernel)
theorem lX3_51 : Cond.methodLink RX3 51 yX3_readyOf ∈ gw := gw_in (i := 1157) (by decide +kernel) (by decide +kernel)
theorem lX9_343 : Cond.methodLink RX9 343 yX3_countClashes ∈ gw := gw_in (i := 1169) (by decide +kernel) (by decide +kernel)
theorem lX3_55 : Cond.methodLink RX3 55 yJ6_bitCount_0f7a4 ∈ gw := gw_in (i := 1173) (by decide +kernel) (by decide +kernel)
theorem lX9_351 : Cond.methodLink RX9 351 yX9_sweepsBy ∈ gw := gw_in (i := 1194) (by decide +kernel) (by decide +kernel)
theorem lX9_354 : Cond.methodLink RX9 354 yX8_outcome ∈ gw := gw_in (i := 1202) (by decide +kernel) (by decide +kernel)
theorem lX9_358 : Cond.methodLink RX9 358 yJ9_abs_0f7a4 ∈ gw := gw_in (i := 1210) (by decide +kernel) (by decide +kernel)
theorem lX9_361 : Cond.methodLink RX9 361 yX9_quotientBits ∈ gw := gw_in (i := 1211) (by decide +kernel) (by decide +kernel)
theorem lX9_365 : Cond.methodLink RX9 365 yX5_copyFrom ∈ gw := gw_in (i := 1220) (by decide +kernel) (by decide +kernel)
theorem lX5_36 : Cond.methodLink RX5 36 yX8_copyFrom ∈ gw := gw_in (i := 1224) (by decide +kernel) (by decide +kernel)
theorem lX5_40 : Cond.methodLink RX5 40 yX6_copyFrom ∈ gw := gw_in (i := 1225) (by decide +kernel) (by decide +kernel)
theorem lX10_1 : Cond.methodLink RX10 1 Lib.objectInit ∈ gw := gw_in (i := 1242) (by decide +kernel) (by decide +kernel)
theorem lX10_54 : Cond.methodLink RX10 54 yX10_beginNow ∈ gw := gw_in (i := 1243) (by decide +kernel) (by decide +kernel)
theorem lX10_156 : Cond.methodLink RX10 156 yX10_guessed ∈ gw := gw_in (i := 1247) (by decide +kernel) (by decide +kernel)
theorem lX10_66 : Cond.methodLink RX10 66 yX10_bits ∈ gw := gw_in (i := 1251) (by decide +kernel) (by decide +kernel)
theorem lX10_160 : Cond.methodLink RX10 160 yX10_oddsOf ∈ gw := gw_in (i := 1255) (by decide +kernel) (by decide +kernel)
theorem lX10_74 : Cond.methodLink RX10 74 yX10_checks ∈ gw := gw_in (i := 1259) (by decide +kernel) (by decide +kernel)
theorem lX10_83 : Cond.methodLink RX10 83 yX10_checkSet ∈ gw := gw_in (i := 1263) (by decide +kernel) (by decide +kernel)
theorem lX10_77 : Cond.methodLink RX10 77 yX10_bitOf ∈ gw := gw_in (i := 1267) (by decide +kernel) (by decide +kernel)
theorem lX10_87 : Cond.methodLink RX10 87 yX10_many ∈ gw := gw_in (i := 1271) (by decide +kernel) (by decide +kernel)
theorem lX10_58 : Cond.methodLink RX10 58 yX10_copy ∈ gw := gw_in (i := 1274) (by decide +kernel) (by decide +kernel)
theorem lX10_94 : Cond.methodLink RX10 94 yX10_four ∈ gw := gw_in (i := 1366) (by decide +kernel) (by decide +kernel)
theorem lX10_70 : Cond.methodLink RX10 70 yX10_isIn ∈ gw := gw_in (i := 1374) (by decide +kernel) (by decide +kernel)
theorem lX10_150 : Cond.methodLink RX10 150 yX10_readText ∈ gw := gw_in (i := 1381) (by decide +kernel) (by decide +kernel)
theorem lX10_127 : Cond.methodLink RX10 127 yX10_nextToken ∈ gw := gw_in (i := 1385) (by decide +kernel) (by decide +kernel)
theorem lX10_97 : Cond.methodLink RX10 97 yX10_byteAt ∈ gw := gw_in (i := 1389) (by decide +kernel) (by decide +kernel)
theorem lX10_117 : Cond.methodLink RX10 117 yX10_isFigure ∈ gw := gw_in (i := 1393) (by decide +kernel) (by decide +kernel)
theorem lX10_121 : Cond.methodLink RX10 121 yX10_isLetterByte ∈ gw := gw_in (i := 1396) (by decide +kernel) (by decide +kernel)
theorem lX10_124 : Cond.methodLink RX10 124 yX10_wordOf ∈ gw := gw_in (i := 1399) (by decide +kernel) (by decide +kernel)
theorem lX10_104 : Cond.methodLink RX10 104 yX10_areFour ∈ gw := gw_in (i := 1403) (by decide +kernel) (by decide +kernel)
theorem lX10_147 : Cond.methodLink RX10 147 yX10_clause ∈ gw := gw_in (i := 1407) (by decide +kernel) (by decide +kernel)
theorem lX10_133 : Cond.methodLink RX10 133 yX10_numberTo ∈ gw := gw_in (i := 1411) (by decide +kernel) (by decide +kernel)
theorem lX10_137 : Cond.methodLink RX10 137 yX10_rowClause ∈ gw := gw_in (i := 1415) (by decide +kernel) (by decide +kernel)
theorem lX10_208 : Cond.methodLink RX10 208 yX10_stepAt ∈ gw := gw_in (i := 1427) (by decide +kernel) (by decide +kernel)
theorem lX10_215 : Cond.methodLink RX10 215 yX10_keep ∈ gw := gw_in (i := 1434) (by decide +kernel) (by decide +kernel)
theorem lX10_218 : Cond.methodLink RX10 218 yX10_come ∈ gw := gw_in (i := 1438) (by decide +kernel) (by decide +kernel)
theorem lX10_211 : Cond.methodLink RX10 211 yX10_putSent ∈ gw := gw_in (i := 1442) (by decide +kernel) (by decide +kernel)
theorem lX10_221 : Cond.methodLink RX10 221 yX10_moreAt ∈ gw := gw_in (i := 1450) (by decide +kernel) (by decide +kernel)
theorem lX10_227 : Cond.methodLink RX10 227 yX10_laySums ∈ gw := gw_in (i := 1462) (by decide +kernel) (by decide +kernel)
theorem lX10_62 : Cond.methodLink RX10 62 yX10_hasIt ∈ gw := gw_in (i := 1466) (by decide +kernel) (by decide +kernel)
theorem lX10_230 : Cond.methodLink RX10 230 yX10_wordBy ∈ gw := gw_in (i := 1469) (by decide +kernel) (by decide +kernel)
theorem lX10_224 : Cond.methodLink RX10 224 yX10_lowest ∈ gw := gw_in (i := 1473) (by decide +kernel) (by decide +kernel)
theorem lX10_234 : Cond.methodLink RX10 234 yX10_sentSet ∈ gw := gw_in (i := 1476) (by decide +kernel) (by decide +kernel)
theorem lX10_237 : Cond.methodLink RX10 237 yX10_isBit ∈ gw := gw_in (i := 1485) (by decide +kernel) (by decide +kernel)
theorem lX10_240 : Cond.methodLink RX10 240 yX10_isSending ∈ gw := gw_in (i := 1493) (by decide +kernel) (by decide +kernel)
theorem lX10_243 : Cond.methodLink RX10 243 yX10_sendNow ∈ gw := gw_in (i := 1496) (by decide +kernel) (by decide +kernel)
theorem lX10_153 : Cond.methodLink RX10 153 yX10_orders ∈ gw := gw_in (i := 1508) (by decide +kernel) (by decide +kernel)
theorem lX10_246 : Cond.methodLink RX10 246 yX10_stepsNow ∈ gw := gw_in (i := 1516) (by decide +kernel) (by decide +kernel)
theorem lX10_198 : Cond.methodLink RX10 198 yX10_stepNow ∈ gw := gw_in (i := 1520) (by decide +kernel) (by decide +kernel)
theorem lX10_178 : Cond.methodLink RX10 178 yX10_layerOf ∈ gw := gw_in (i := 1524) (by decide +kernel) (by decide +kernel)
theorem lX10_188 : Cond.methodLink RX10 188 yX10_stepLayer ∈ gw := gw_in (i := 1528) (by decide +kernel) (by decide +kernel)
theorem lX10_181 : Cond.methodLink RX10 181 yX10_mendCheck ∈ gw := gw_in (i := 1532) (by decide +kernel) (by decide +kernel)
theorem lX10_172 : Cond.methodLink RX10 172 yX10_layRests ∈ gw := gw_in (i := 1536) (by decide +kernel) (by decide +kernel)
theorem lX10_163 : Cond.methodLink RX10 163 yX10_messageAt ∈ gw := gw_in (i := 1540) (by decide +kernel) (by decide +kernel)
theorem lX10_175 : Cond.methodLink RX10 175 yX10_newMessage ∈ gw := gw_in (i := 1543) (by decide +kernel) (by decide +kernel)
theorem lX10_166 : Cond.methodLink RX10 166 yX10_sized ∈ gw := gw_in (i := 1547) (by decide +kernel) (by decide +kernel)
theorem lX10_169 : Cond.methodLink RX10 169 yX10_held ∈ gw := gw_in (i := 1550) (by decide +kernel) (by decide +kernel)
theorem lX10_191 : Cond.methodLink RX10 191 yX10_stepAll ∈ gw := gw_in (i := 1553) (by decide +kernel) (by decide +kernel)
theorem lX10_184 : Cond.methodLink RX10 184 yX10_hasBit ∈ gw := gw_in (i := 1557) (by decide +kernel) (by decide +kernel)
theorem lX10_194 : Cond.methodLink RX10 194 yX10_writeDown ∈ gw := gw_in (i := 1561) (by decide +kernel) (by decide +kernel)
theorem lX10_249 : Cond.methodLink RX10 249 yX10_isCheck ∈ gw := gw_in (i := 1585) (by decide +kernel) (by decide +kernel)
theorem lX10_252 : Cond.methodLink RX10 252 yX10_carrierOf ∈ gw := gw_in (i := 1625) (by decide +kernel) (by decide +kernel)
theorem lX10_257 : Cond.methodLink RX10 257 yX10_ringBy ∈ gw := gw_in (i := 1645) (by decide +kernel) (by decide +kernel)
theorem lX10_260 : Cond.methodLink RX10 260 yX10_bothOf ∈ gw := gw_in (i := 1654) (by decide +kernel) (by decide +kernel)
theorem lX10_263 : Cond.methodLink RX10 263 yX10_degree ∈ gw := gw_in (i := 1662) (by decide +kernel) (by decide +kernel)
theorem lX10_266 : Cond.methodLink RX10 266 yX10_sixesBy ∈ gw := gw_in (i := 1671) (by decide +kernel) (by decide +kernel)
theorem lX10_270 : Cond.methodLink RX10 270 yX10_beside ∈ gw := gw_in (i := 1679) (by decide +kernel) (by decide +kernel)
theorem lX10_273 : Cond.methodLink RX10 273 yX10_isSet ∈ gw := gw_in (i := 1691) (by decide +kernel) (by decide +kernel)
theorem lX10_280 : Cond.methodLink RX10 280 yX10_laySets ∈ gw := gw_in (i := 1699) (by decide +kernel) (by decide +kernel)
theorem lX10_277 : Cond.methodLink RX10 277 yX10_isKnot ∈ gw := gw_in (i := 1703) (by decide +kernel) (by decide +kernel)
theorem lX10_301 : Cond.methodLink RX10 301 yX10_counted ∈ gw := gw_in (i := 1711) (by decide +kernel) (by decide +kernel)
theorem lX10_289 : Cond.methodLink RX10 289 yX10_isFirst ∈ gw := gw_in (i := 1715) (by decide +kernel) (by decide +kernel)
theorem lX10_292 : Cond.methodLink RX10 292 yX10_pickedSet ∈ gw := gw_in (i := 1719) (by decide +kernel) (by decide +kernel)
theorem lX10_295 : Cond.methodLink RX10 295 yX10_isSort ∈ gw := gw_in (i := 1723) (by decide +kernel) (by decide +kernel)
theorem lX10_283 : Cond.methodLink RX10 283 yX10_isLeast ∈ gw := gw_in (i := 1727) (by decide +kernel) (by decide +kernel)
theorem lX10_286 : Cond.methodLink RX10 286 yX10_peelLaid ∈ gw := gw_in (i := 1731) (by decide +kernel) (by decide +kernel)
theorem lX10_298 : Cond.methodLink RX10 298 yX10_isNext ∈ gw := gw_in (i := 1735) (by decide +kernel) (by decide +kernel)
theorem lX10_310 : Cond.methodLink RX10 310 yX10_least ∈ gw := gw_in (i := 1759) (by decide +kernel) (by decide +kernel)
theorem lX10_314 : Cond.methodLink RX10 314 yX10_endOf ∈ gw := gw_in (i := 1760) (by decide +kernel) (by decide +kernel)
theorem lX10_304 : Cond.methodLink RX10 304 yX10_putAside ∈ gw := gw_in (i := 1764) (by decide +kernel) (by decide +kernel)
theorem lX10_307 : Cond.methodLink RX10 307 yX10_bringBack ∈ gw := gw_in (i := 1768) (by decide +kernel) (by decide +kernel)
theorem lX10_324 : Cond.methodLink RX10 324 yX10_layTraps ∈ gw := gw_in (i := 1776) (by decide +kernel) (by decide +kernel)
theorem lX10_328 : Cond.methodLink RX10 328 yX10_peel ∈ gw := gw_in (i := 1788) (by decide +kernel) (by decide +kernel)
theorem lX10_331 : Cond.methodLink RX10 331 yX10_costOf ∈ gw := gw_in (i := 1800) (by decide +kernel) (by decide +kernel)
theorem lX10_334 : Cond.methodLink RX10 334 yX10_wordsAll ∈ gw := gw_in (i := 1808) (by decide +kernel) (by decide +kernel)
theorem lX10_349 : Cond.methodLink RX10 349 yX10_pipeNow ∈ gw := gw_in (i := 1828) (by decide +kernel) (by decide +kernel)
theorem lX10_340 : Cond.methodLink RX10 340 yX10_columnsOf ∈ gw := gw_in (i := 1832) (by decide +kernel) (by decide +kernel)
theorem lX10_343 : Cond.methodLink RX10 343 yX10_readyAt ∈ gw := gw_in (i := 1836) (by decide +kernel) (by decide +kernel)
theorem lX10_352 : Cond.methodLink RX10 352 yX10_clashesOf ∈ gw := gw_in (i := 1848) (by decide +kernel) (by decide +kernel)
theorem lX10_355 : Cond.methodLink RX10 355 yX10_sweepsBy ∈ gw := gw_in (i := 1872) (by decide +kernel) (by decide +kernel)
theorem lX10_358 : Cond.methodLink RX10 358 yJxe99ae_doubleToLongBits_ccdee ∈ gw := gw_in (i := 1884) (by decide +kernel) (by decide +kernel)
theorem lJxe99ae_122 : Cond.methodLink RJxe99ae 122 yJxe99ae_isNaN_b9ae7 ∈ gw := gw_in (i := 1887) (by decide +kernel) (by decide +kernel)
theorem lX5_11 : Cond.methodLinkNest RX5 11 yX6_init "LiftedChecks" ∈ lw_tbl := List.mem_of_getElem? (i := 253) (by decide +kernel)
theorem lX8_83 : Cond.methodLinkNest RX8 83 yX9_fillOrder "LiftedChecks" ∈ lw_tbl := List.mem_of_getElem? (i := 352) (by decide +kernel)
theorem lX9_28 : Cond.methodLinkNest RX9 28 yX7_init "LiftedChecks" ∈ lw_tbl := List.mem_of_getElem? (i := 402) (by decide +kernel)
theorem lX9_49 : Cond.methodLinkNest RX9 49 yX0_init "LiftedChecks" ∈ lw_tbl := List.mem_of_getElem? (i := 493) (by decide +kernel)
theorem lX9_56 : Cond.methodLinkNest RX9 56 yX3_init "LiftedChecks" ∈ lw_tbl := List.mem_of_getElem? (i := 514) (by decide +kernel)
theorem lX2_85 : Cond.methodLinkNest RX2 85 yX9_isOdd "LiftedChecks" ∈ lw_tbl := List.mem_of_getElem? (i := 717) (by decide +kernel)
theorem lX8_119 : Cond.methodLinkNest RX8 119 yX9_lowest "LiftedChecks" ∈ lw_tbl := List.mem_of_getElem? (i := 811) (by decide +kernel)
theorem lX0_38 : Cond.methodLinkNest RX0 38 yX9_lowest "LiftedChecks" ∈ lw_tbl := List.mem_of_getElem? (i := 1123) (by decide +kernel)
theorem lX3_24 : Cond.methodLinkNest RX3 24 yX9_fillOrder "LiftedChecks" ∈ lw_tbl := List.mem_of_getElem? (i := 1147) (by decide +kernel)
theorem fX2_9 : FW RX2 9 2 0 true (.int) := ⟨RX2, TX2, 15, tyX2, rfl, by decide, cwX2, tyX2_ok, nmX2, gw_in (i := 165) (by decide +kernel) (by decide +kernel), rfl, rfl, rfl⟩
theorem fX8_122 : FW RX8 122 2 0 true (.int) := ⟨RX2, TX2, 15, tyX2, rfl, by decide, cwX2, tyX2_ok, nmX2, gw_in (i := 166) (by decide +kernel) (by decide +kernel), rfl, rfl, rfl⟩
theorem fX9_187 : FW RX9 187 2 0 true (.int) := ⟨RX2, TX2, 15, tyX2, rfl, by decide, cwX2, tyX2_ok, nmX2, gw_in (i := 167) (by decide +kernel) (by decide +kernel), rfl, rfl, rfl⟩
theorem fX2_15 : FW RX2 15 2 1 true (.int) := ⟨RX2, TX2, 15, tyX2, rfl, by decide, cwX2, tyX2_ok, nmX2, gw_in (i := 168) (by decide +kernel) (by decide +kernel), rfl, rfl, rfl⟩
theorem fX3_18 : FW RX3 18 2 1 true (.int) := ⟨RX2, TX2, 15, tyX2, rfl, by decide, cwX2, tyX2_ok, nmX2, gw_in (i := 169) (by decide +kernel) (by decide +kernel), rfl, rfl, rfl⟩
theorem fX8_78 : FW RX8 78 2 1 true (.int) := ⟨RX2, TX2, 15, tyX2, rfl, by decide, cwX2, tyX2_ok, nmX2, gw_in (i := 170) (by decide +kernel) (by decide +kernel), rfl, rfl, rfl⟩
theorem fX9_126 : FW RX9 126 2 1 true (.int) := ⟨RX2, TX2, 15, tyX2, rfl, by decide, cwX2, tyX2_ok, nmX2, gw_in (i := 171) (by decide +kernel) (by decide +kernel), rfl, rfl, rfl⟩
theorem fX2_18 : FW RX2 18 2 2 true (.int) := ⟨RX2, TX2, 15, tyX2, rfl, by decide, cwX2, tyX2_ok, nmX2, gw_in (i := 172) (by decide +kernel) (by decide +kernel), rfl, rfl, rfl⟩
theorem fX4_19 : FW RX4 19 2 2 true (.int) := ⟨RX2, TX2, 15, tyX2, rfl, by decide, cwX2, tyX2_ok, nmX2, gw_in (i := 173) (by decide +kernel) (by decide +kernel), rfl, rfl, rfl⟩
theorem fX9_119 : FW RX9 119 2 2 true (.int) := ⟨RX2, TX2, 15, tyX2, rfl, by decide, cwX2, tyX2_ok, nmX2, gw_in (i := 174) (by decide +kernel) (by decide +kernel), rfl, rfl, rfl⟩
theorem fX8_128 : FW RX8 128 2 2 true (.int) := ⟨RX2, TX2, 15, tyX2, rfl, by decide, cwX2, tyX2_ok, nmX2, gw_in (i := 175) (by decide +kernel) (by decide +kernel), rfl, rfl, rfl⟩
theorem fX2_21 : FW RX2 21 2 3 true (.int) := ⟨RX2, TX2, 15, tyX2, rfl, by decide, cwX2, tyX2_ok, nmX2, gw_in (i := 176) (by decide +kernel) (by decide +kernel), rfl, rfl, rfl⟩
theorem fX8_144 : FW RX8 144 2 3 true (.int) := ⟨RX2, TX2, 15, tyX2, rfl, by decide, cwX2, tyX2_ok, nmX2, gw_in (i := 177) (by decide +kernel) (by decide +kernel), rfl, rfl, rfl⟩
theorem fX9_190 : FW RX9 190 2 3 true (.int) := ⟨RX2, TX2, 15, tyX2, rfl, by decide, cwX2, tyX2_ok, nmX2, gw_in (i := 178) (by decide +kernel) (by decide +kernel), rfl, rfl, rfl⟩
theorem fX2_24 : FW RX2 24 2 4 true (.int) := ⟨RX2, TX2, 15, tyX2, rfl, by decide, cwX2, tyX2_ok, nmX2, gw_in (i := 179) (by decide +kernel) (by decide +kernel), rfl, rfl, rfl⟩
theorem fX8_147 : FW RX8 147 2 4 true (.int) := ⟨RX2, TX2, 15, tyX2, rfl, by decide, cwX2, tyX2_ok, nmX2, gw_in (i := 180) (by decide +kernel) (by decide +kernel), rfl, rfl, rfl⟩
theorem fX9_193 : FW RX9 193 2 4 true (.int) := ⟨RX2, TX2, 15, tyX2, rfl, by decide, cwX2, tyX2_ok, nmX2, gw_in (i := 181) (by decide +kernel) (by decide +kernel), rfl, rfl, rfl⟩
theorem fX2_31 : FW RX2 31 2 5 true (.int) := ⟨RX2, TX2, 15, tyX2, rfl, by decide, cwX2, tyX2_ok, nmX2, gw_in (i := 182) (by decide +kernel) (by decide +kernel), rfl, rfl, rfl⟩
theorem fX0_15 : FW RX0 15 2 5 true (.int) := ⟨RX2, TX2, 15, tyX2, rfl, by decide, cwX2, tyX2_ok, nmX2, gw_in (i := 183) (by decide +kernel) (by decide +kernel), rfl, rfl, rfl⟩
theorem fX1_53 : FW RX1 53 2 5 true (.int) := ⟨RX2, TX2, 15, tyX2, rfl, by decide, cwX2, tyX2_ok, nmX2, gw_in (i := 184) (by decide +kernel) (by decide +kernel), rfl, rfl, rfl⟩
theorem fX8_94 : FW RX8 94 2 5 true (.int) := ⟨RX2, TX2, 15, tyX2, rfl, by decide, cwX2, tyX2_ok, nmX2, gw_in (i := 185) (by decide +kernel) (by decide +kernel), rfl, rfl, rfl⟩
theorem fX9_95 : FW RX9 95 2 5 true (.int) := ⟨RX2, TX2, 15, tyX2, rfl, by decide, cwX2, tyX2_ok, nmX2, gw_in (i := 186) (by decide +kernel) (by decide +kernel), rfl, rfl, rfl⟩
theorem fX4_44 : FW RX4 44 2 5 true (.int) := ⟨RX2, TX2, 15, tyX2, rfl, by decide, cwX2, tyX2_ok, nmX2, gw_in (i := 187) (by decide +kernel) (by decide +kernel), rfl, rfl, rfl⟩
theorem fX2_34 : FW RX2 34 2 6 true (.int) := ⟨RX2, TX2, 15, tyX2, rfl, by decide, cwX2, tyX2_ok, nmX2, gw_in (i := 188) (by decide +kernel) (by decide +kernel), rfl, rfl, rfl⟩
theorem fX4_9 : FW RX4 9 2 6 true (.int) := ⟨RX2, TX2, 15, tyX2, rfl, by decide, cwX2, tyX2_ok, nmX2, gw_in (i := 189) (by decide +kernel) (by decide +kernel), rfl, rfl, rfl⟩
theorem fX8_138 : FW RX8 138 2 6 true (.int) := ⟨RX2, TX2, 15, tyX2, rfl, by decide, cwX2, tyX2_ok, nmX2, gw_in (i := 190) (by decide +kernel) (by decide +kernel), rfl, rfl, rfl⟩
theorem fX9_371 : FW RX9 371 2 6 true (.int) := ⟨RX2, TX2, 15, tyX2, rfl, by decide, cwX2, tyX2_ok, nmX2, gw_in (i := 191) (by decide +kernel) (by decide +kernel), rfl, rfl, rfl⟩
theorem fX2_27 : FW RX2 27 2 7 true (.array .int) := ⟨RX2, TX2, 15, tyX2, rfl, by decide, cwX2, tyX2_ok, nmX2, gw_in (i := 192) (by decide +kernel) (by decide +kernel), rfl, rfl, rfl⟩
theorem fX9_205 : FW RX9 205 2 7 true (.array .int) := ⟨RX2, TX2, 15, tyX2, rfl, by decide, cwX2, tyX2_ok, nmX2, gw_in (i := 193) (by decide +kernel) (by decide +kernel), rfl, rfl, rfl⟩
theorem fX2_37 : FW RX2 37 2 8 true (.array .int) := ⟨RX2, TX2, 15, tyX2, rfl, by decide, cwX2, tyX2_ok, nmX2, gw_in (i := 194) (by decide +kernel) (by decide +kernel), rfl, rfl, rfl⟩
theorem fX4_22 : FW RX4 22 2 8 true (.array .int) := ⟨RX2, TX2, 15, tyX2, rfl, by decide, cwX2, tyX2_ok, nmX2, gw_in (i := 195) (by decide +kernel) (by decide +kernel), rfl, rfl, rfl⟩
theorem fX8_131 : FW RX8 131 2 8 true (.array .int) := ⟨RX2, TX2, 15, tyX2, rfl, by decide, cwX2, tyX2_ok, nmX2, gw_in (i := 196) (by decide +kernel) (by decide +kernel), rfl, rfl, rfl⟩
theorem fX9_235 : FW RX9 235 2 8 true (.array .int) := ⟨RX2, TX2, 15, tyX2, rfl, by decide, cwX2, tyX2_ok, nmX2, gw_in (i := 197) (by decide +kernel) (by decide +kernel), rfl, rfl, rfl⟩
theorem fX2_40 : FW RX2 40 2 9 true (.array .long) := ⟨RX2, TX2, 15, tyX2, rfl, by decide, cwX2, tyX2_ok, nmX2, gw_in (i := 198) (by decide +kernel) (by decide +kernel), rfl, rfl, rfl⟩
theorem fX4_15 : FW RX4 15 2 9 true (.array .long) := ⟨RX2, TX2, 15, tyX2, rfl, by decide, cwX2, tyX2_ok, nmX2, gw_in (i := 199) (by decide +kernel) (by decide +kernel), rfl, rfl, rfl⟩
theorem fX9_211 : FW RX9 211 2 9 true (.array .long) := ⟨RX2, TX2, 15, tyX2, rfl, by decide, cwX2, tyX2_ok, nmX2, gw_in (i := 200) (by decide +kernel) (by decide +kernel), rfl, rfl, rfl⟩
theorem fX2_44 : FW RX2 44 2 10 true (.array .int) := ⟨RX2, TX2, 15, tyX2, rfl, by decide, cwX2, tyX2_ok, nmX2, gw_in (i := 201) (by decide +kernel) (by decide +kernel), rfl, rfl, rfl⟩
theorem fX1_78 : FW RX1 78 2 10 true (.array .int) := ⟨RX2, TX2, 15, tyX2, rfl, by decide, cwX2, tyX2_ok, nmX2, gw_in (i := 202) (by decide +kernel) (by decide +kernel), rfl, rfl, rfl⟩
theorem fX9_219 : FW RX9 219 2 10 true (.array .int) := ⟨RX2, TX2, 15, tyX2, rfl, by decide, cwX2, tyX2_ok, nmX2, gw_in (i := 203) (by decide +kernel) (by decide +kernel), rfl, rfl, rfl⟩
theorem fX2_62 : FW RX2 62 2 11 true (.array .long) := ⟨RX2, TX2, 15, tyX2, rfl, by decide, cwX2, tyX2_ok, nmX2, gw_in (i := 204) (by decide +kernel) (by decide +kernel), rfl, rfl, rfl⟩
theorem fX2_79 : FW RX2 79 2 12 true (.int) := ⟨RX2, TX2, 15, tyX2, rfl, by decide, cwX2, tyX2_ok, nmX2, gw_in (i := 205) (by decide +kernel) (by decide +kernel), rfl, rfl, rfl⟩
theorem fX0_21 : FW RX0 21 2 12 true (.int) := ⟨RX2, TX2, 15, tyX2, rfl, by decide, cwX2, tyX2_ok, nmX2, gw_in (i := 206) (by decide +kernel) (by decide +kernel), rfl, rfl, rfl⟩
theorem fX9_102 : FW RX9 102 2 12 true (.int) := ⟨RX2, TX2, 15, tyX2, rfl, by decide, cwX2, tyX2_ok, nmX2, gw_in (i := 207) (by decide +kernel) (by decide +kernel), rfl, rfl, rfl⟩
theorem fX2_69 : FW RX2 69 2 13 true (.long) := ⟨RX2, TX2, 15, tyX2, rfl, by decide, cwX2, tyX2_ok, nmX2, gw_in (i := 208) (by decide +kernel) (by decide +kernel), rfl, rfl, rfl⟩
theorem fX9_232 : FW RX9 232 2 13 true (.long) := ⟨RX2, TX2, 15, tyX2, rfl, by decide, cwX2, tyX2_ok, nmX2, gw_in (i := 209) (by decide +kernel) (by decide +kernel), rfl, rfl, rfl⟩
theorem fX2_82 : FW RX2 82 2 14 true (.array .int) := ⟨RX2, TX2, 15, tyX2, rfl, by decide, cwX2, tyX2_ok, nmX2, gw_in (i := 210) (by decide +kernel) (by decide +kernel), rfl, rfl, rfl⟩
theorem fX1_39 : FW RX1 39 2 14 true (.array .int) := ⟨RX2, TX2, 15, tyX2, rfl, by decide, cwX2, tyX2_ok, nmX2, gw_in (i := 211) (by decide +kernel) (by decide +kernel), rfl, rfl, rfl⟩
theorem fX6_11 : FW RX6 11 5 0 true (.array (.object "LiftedChecks$Scene")) := ⟨RX6, TX6, 3, tyX6, rfl, by decide, cwX6, tyX6_ok, nmX6, gw_in (i := 259) (by decide +kernel) (by decide +kernel), rfl, rfl, rfl⟩
theorem fX6_21 : FW RX6 21 5 1 false (.int) := ⟨RX6, TX6, 3, tyX6, rfl, by decide, cwX6, tyX6_ok, nmX6, gw_in (i := 260) (by decide +kernel) (by decide +kernel), rfl, rfl, rfl⟩
theorem fX6_17 : FW RX6 17 5 2 false (.int) := ⟨RX6, TX6, 3, tyX6, rfl, by decide, cwX6, tyX6_ok, nmX6, gw_in (i := 261) (by decide +kernel) (by decide +kernel), rfl, rfl, rfl⟩
theorem fX9_183 : FW RX9 183 5 2 false (.int) := ⟨RX6, TX6, 3, tyX6, rfl, by decide, cwX6, tyX6_ok, nmX6, gw_in (i := 262) (by decide +kernel) (by decide +kernel), rfl, rfl, rfl⟩
theorem fX8_37 : FW RX8 37 7 0 false (.object "LiftedChecks$Code") := ⟨RX8, TX8, 17, tyX8, rfl, by decide, cwX8, tyX8_ok, nmX8, gw_in (i := 278) (by decide +kernel) (by decide +kernel), rfl, rfl, rfl⟩
theorem fX6_28 : FW RX6 28 7 0 false (.object "LiftedChecks$Code") := ⟨RX8, TX8, 17, tyX8, rfl, by decide, cwX8, tyX8_ok, nmX8, gw_in (i := 279) (by decide +kernel) (by decide +kernel), rfl, rfl, rfl⟩
theorem fX9_98 : FW RX9 98 7 0 false (.object "LiftedChecks$Code") := ⟨RX8, TX8, 17, tyX8, rfl, by decide, cwX8, tyX8_ok, nmX8, gw_in (i := 280) (by decide +kernel) (by decide +kernel), rfl, rfl, rfl⟩
theorem fX8_41 : FW RX8 41 7 1 false (.long) := ⟨RX8, TX8, 17, tyX8, rfl, by decide, cwX8, tyX8_ok, nmX8, gw_in (i := 281) (by decide +kernel) (by decide +kernel), rfl, rfl, rfl⟩
theorem fX9_109 : FW RX9 109 7 1 false (.long) := ⟨RX8, TX8, 17, tyX8, rfl, by decide, cwX8, tyX8_ok, nmX8, gw_in (i := 282) (by decide +kernel) (by decide +kernel), rfl, rfl, rfl⟩
theorem fX8_9 : FW RX8 9 7 2 false (.int) := ⟨RX8, TX8, 17, tyX8, rfl, by decide, cwX8, tyX8_ok, nmX8, gw_in (i := 283) (by decide +kernel) (by decide +kernel), rfl, rfl, rfl⟩
theorem fX9_184 : FW RX9 184 7 2 false (.int) := ⟨RX8, TX8, 17, tyX8, rfl, by decide, cwX8, tyX8_ok, nmX8, gw_in (i := 284) (by decide +kernel) (by decide +kernel), rfl, rfl, rfl⟩
theorem fX8_45 : FW RX8 45 7 3 false (.int) := ⟨RX8, TX8, 17, tyX8, rfl, by decide, cwX8, tyX8_ok, nmX8, gw_in (i := 285) (by decide +kernel) (by decide +kernel), rfl, rfl, rfl⟩
theorem fX9_163 : FW RX9 163 7 3 false (.int) := ⟨RX8, TX8, 17, tyX8, rfl, by decide, cwX8, tyX8_ok, nmX8, gw_in (i := 286) (by decide +kernel) (by decide +kernel), rfl, rfl, rfl⟩
theorem fX8_48 : FW RX8 48 7 4 false (.int) := ⟨RX8, TX8, 17, tyX8, rfl, by decide, cwX8, tyX8_ok, nmX8, gw_in (i := 287) (by decide +kernel) (by decide +kernel), rfl, rfl, rfl⟩
theorem fX9_150 : FW RX9 150 7 4 false (.int) := ⟨RX8, TX8, 17, tyX8, rfl, by decide, cwX8, tyX8_ok, nmX8, gw_in (i := 288) (by decide +kernel) (by decide +kernel), rfl, rfl, rfl⟩
theorem fX8_51 : FW RX8 51 7 5 false (.int) := ⟨RX8, TX8, 17, tyX8, rfl, by decide, cwX8, tyX8_ok, nmX8, gw_in (i := 289) (by decide +kernel) (by decide +kernel), rfl, rfl, rfl⟩
theorem fX9_196 : FW RX9 196 7 5 false (.int) := ⟨RX8, TX8, 17, tyX8, rfl, by decide, cwX8, tyX8_ok, nmX8, gw_in (i := 290) (by decide +kernel) (by decide +kernel), rfl, rfl, rfl⟩
theorem fX8_54 : FW RX8 54 7 6 false (.int) := ⟨RX8, TX8, 17, tyX8, rfl, by decide, cwX8, tyX8_ok, nmX8, gw_in (i := 291) (by decide +kernel) (by decide +kernel), rfl, rfl, rfl⟩
theorem fX9_199 : FW RX9 199 7 6 false (.int) := ⟨RX8, TX8, 17, tyX8, rfl, by decide, cwX8, tyX8_ok, nmX8, gw_in (i := 292) (by decide +kernel) (by decide +kernel), rfl, rfl, rfl⟩
theorem fX8_57 : FW RX8 57 7 7 false (.int) := ⟨RX8, TX8, 17, tyX8, rfl, by decide, cwX8, tyX8_ok, nmX8, gw_in (i := 293) (by decide +kernel) (by decide +kernel), rfl, rfl, rfl⟩
theorem fX9_245 : FW RX9 245 7 7 false (.int) := ⟨RX8, TX8, 17, tyX8, rfl, by decide, cwX8, tyX8_ok, nmX8, gw_in (i := 294) (by decide +kernel) (by decide +kernel), rfl, rfl, rfl⟩
theorem fX8_60 : FW RX8 60 7 8 false (.long) := ⟨RX8, TX8, 17, tyX8, rfl, by decide, cwX8, tyX8_ok, nmX8, gw_in (i := 295) (by decide +kernel) (by decide +kernel), rfl, rfl, rfl⟩
theorem fX9_229 : FW RX9 229 7 8 false (.long) := ⟨RX8, TX8, 17, tyX8, rfl, by decide, cwX8, tyX8_ok, nmX8, gw_in (i := 296) (by decide +kernel) (by decide +kernel), rfl, rfl, rfl⟩
theorem fX8_63 : FW RX8 63 7 9 false (.int) := ⟨RX8, TX8, 17, tyX8, rfl, by decide, cwX8, tyX8_ok, nmX8, gw_in (i := 297) (by decide +kernel) (by decide +kernel), rfl, rfl, rfl⟩
theorem fX9_202 : FW RX9 202 7 9 false (.int) := ⟨RX8, TX8, 17, tyX8, rfl, by decide, cwX8, tyX8_ok, nmX8, gw_in (i := 298) (by decide +kernel) (by decide +kernel), rfl, rfl, rfl⟩
theorem fX8_15 : FW RX8 15 7 10 true (.array .int) := ⟨RX8, TX8, 17, tyX8, rfl, by decide, cwX8, tyX8_ok, nmX8, gw_in (i := 299) (by decide +kernel) (by decide +kernel), rfl, rfl, rfl⟩
theorem fX9_133 : FW RX9 133 7 10 true (.array .int) := ⟨RX8, TX8, 17, tyX8, rfl, by decide, cwX8, tyX8_ok, nmX8, gw_in (i := 300) (by decide +kernel) (by decide +kernel), rfl, rfl, rfl⟩
theorem fX8_19 : FW RX8 19 7 11 true (.array .int) := ⟨RX8, TX8, 17, tyX8, rfl, by decide, cwX8, tyX8_ok, nmX8, gw_in (i := 301) (by decide +kernel) (by decide +kernel), rfl, rfl, rfl⟩
theorem fX9_226 : FW RX9 226 7 11 true (.array .int) := ⟨RX8, TX8, 17, tyX8, rfl, by decide, cwX8, tyX8_ok, nmX8, gw_in (i := 302) (by decide +kernel) (by decide +kernel), rfl, rfl, rfl⟩
theorem fX8_22 : FW RX8 22 7 12 true (.array .int) := ⟨RX8, TX8, 17, tyX8, rfl, by decide, cwX8, tyX8_ok, nmX8, gw_in (i := 303) (by decide +kernel) (by decide +kernel), rfl, rfl, rfl⟩
theorem fX9_256 : FW RX9 256 7 12 true (.array .int) := ⟨RX8, TX8, 17, tyX8, rfl, by decide, cwX8, tyX8_ok, nmX8, gw_in (i := 304) (by decide +kernel) (by decide +kernel), rfl, rfl, rfl⟩
theorem fX8_25 : FW RX8 25 7 13 true (.array .int) := ⟨RX8, TX8, 17, tyX8, rfl, by decide, cwX8, tyX8_ok, nmX8, gw_in (i := 305) (by decide +kernel) (by decide +kernel), rfl, rfl, rfl⟩
theorem fX9_238 : FW RX9 238 7 13 true (.array .int) := ⟨RX8, TX8, 17, tyX8, rfl, by decide, cwX8, tyX8_ok, nmX8, gw_in (i := 306) (by decide +kernel) (by decide +kernel), rfl, rfl, rfl⟩
theorem fX8_28 : FW RX8 28 7 14 true (.array .int) := ⟨RX8, TX8, 17, tyX8, rfl, by decide, cwX8, tyX8_ok, nmX8, gw_in (i := 307) (by decide +kernel) (by decide +kernel), rfl, rfl, rfl⟩
theorem fX9_253 : FW RX9 253 7 14 true (.array .int) := ⟨RX8, TX8, 17, tyX8, rfl, by decide, cwX8, tyX8_ok, nmX8, gw_in (i := 308) (by decide +kernel) (by decide +kernel), rfl, rfl, rfl⟩
theorem fX8_31 : FW RX8 31 7 15 true (.array .int) := ⟨RX8, TX8, 17, tyX8, rfl, by decide, cwX8, tyX8_ok, nmX8, gw_in (i := 309) (by decide +kernel) (by decide +kernel), rfl, rfl, rfl⟩
theorem fX9_156 : FW RX9 156 7 15 true (.array .int) := ⟨RX8, TX8, 17, tyX8, rfl, by decide, cwX8, tyX8_ok, nmX8, gw_in (i := 310) (by decide +kernel) (by decide +kernel), rfl, rfl, rfl⟩
theorem fX8_34 : FW RX8 34 7 16 true (.array .int) := ⟨RX8, TX8, 17, tyX8, rfl, by decide, cwX8, tyX8_ok, nmX8, gw_in (i := 311) (by decide +kernel) (by decide +kernel), rfl, rfl, rfl⟩
theorem fX5_29 : FW RX5 29 4 0 true (.object "LiftedChecks$Scene") := ⟨RX5, TX5, 4, tyX5, rfl, by decide, cwX5, tyX5_ok, nmX5, gw_in (i := 383) (by decide +kernel) (by decide +kernel), rfl, rfl, rfl⟩
theorem fX9_89 : FW RX9 89 4 0 true (.object "LiftedChecks$Scene") := ⟨RX5, TX5, 4, tyX5, rfl, by decide, cwX5, tyX5_ok, nmX5, gw_in (i := 384) (by decide +kernel) (by decide +kernel), rfl, rfl, rfl⟩
theorem fX5_12 : FW RX5 12 4 1 true (.object "LiftedChecks$Past") := ⟨RX5, TX5, 4, tyX5, rfl, by decide, cwX5, tyX5_ok, nmX5, gw_in (i := 385) (by decide +kernel) (by decide +kernel), rfl, rfl, rfl⟩
theorem fX9_173 : FW RX9 173 4 1 true (.object "LiftedChecks$Past") := ⟨RX5, TX5, 4, tyX5, rfl, by decide, cwX5, tyX5_ok, nmX5, gw_in (i := 386) (by decide +kernel) (by decide +kernel), rfl, rfl, rfl⟩
theorem fX5_20 : FW RX5 20 4 2 true (.array (.object "LiftedChecks$Code")) := ⟨RX5, TX5, 4, tyX5, rfl, by decide, cwX5, tyX5_ok, nmX5, gw_in (i := 387) (by decide +kernel) (by decide +kernel), rfl, rfl, rfl⟩
theorem fX9_76 : FW RX9 76 4 2 true (.array (.object "LiftedChecks$Code")) := ⟨RX5, TX5, 4, tyX5, rfl, by decide, cwX5, tyX5_ok, nmX5, gw_in (i := 388) (by decide +kernel) (by decide +kernel), rfl, rfl, rfl⟩
theorem fX5_43 : FW RX5 43 4 3 false (.int) := ⟨RX5, TX5, 4, tyX5, rfl, by decide, cwX5, tyX5_ok, nmX5, gw_in (i := 389) (by decide +kernel) (by decide +kernel), rfl, rfl, rfl⟩
theorem fX9_69 : FW RX9 69 4 3 false (.int) := ⟨RX5, TX5, 4, tyX5, rfl, by decide, cwX5, tyX5_ok, nmX5, gw_in (i := 390) (by decide +kernel) (by decide +kernel), rfl, rfl, rfl⟩
theorem fX7_9 : FW RX7 9 6 0 true (.array .int) := ⟨RX7, TX7, 14, tyX7, rfl, by decide, cwX7, tyX7_ok, nmX7, gw_in (i := 406) (by decide +kernel) (by decide +kernel), rfl, rfl, rfl⟩
theorem fX9_61 : FW RX9 61 6 1 false (.int) := ⟨RX7, TX7, 14, tyX7, rfl, by decide, cwX7, tyX7_ok, nmX7, gw_in (i := 407) (by decide +kernel) (by decide +kernel), rfl, rfl, rfl⟩
theorem fX7_25 : FW RX7 25 6 1 false (.int) := ⟨RX7, TX7, 14, tyX7, rfl, by decide, cwX7, tyX7_ok, nmX7, gw_in (i := 408) (by decide +kernel) (by decide +kernel), rfl, rfl, rfl⟩
theorem fX7_15 : FW RX7 15 6 2 false (.int) := ⟨RX7, TX7, 14, tyX7, rfl, by decide, cwX7, tyX7_ok, nmX7, gw_in (i := 409) (by decide +kernel) (by decide +kernel), rfl, rfl, rfl⟩
theorem fX9_80 : FW RX9 80 6 2 false (.int) := ⟨RX7, TX7, 14, tyX7, rfl, by decide, cwX7, tyX7_ok, nmX7, gw_in (i := 410) (by decide +kernel) (by decide +kernel), rfl, rfl, rfl⟩
theorem fX7_19 : FW RX7 19 6 3 false (.int) := ⟨RX7, TX7, 14, tyX7, rfl, by decide, cwX7, tyX7_ok, nmX7, gw_in (i := 411) (by decide +kernel) (by decide +kernel), rfl, rfl, rfl⟩
theorem fX9_83 : FW RX9 83 6 3 false (.int) := ⟨RX7, TX7, 14, tyX7, rfl, by decide, cwX7, tyX7_ok, nmX7, gw_in (i := 412) (by decide +kernel) (by decide +kernel), rfl, rfl, rfl⟩
theorem fX7_28 : FW RX7 28 6 4 false (.int) := ⟨RX7, TX7, 14, tyX7, rfl, by decide, cwX7, tyX7_ok, nmX7, gw_in (i := 413) (by decide +kernel) (by decide +kernel), rfl, rfl, rfl⟩
theorem fX7_62 : FW RX7 62 6 5 false (.int) := ⟨RX7, TX7, 14, tyX7, rfl, by decide, cwX7, tyX7_ok, nmX7, gw_in (i := 414) (by decide +kernel) (by decide +kernel), rfl, rfl, rfl⟩
theorem fX7_99 : FW RX7 99 6 6 false (.int) := ⟨RX7, TX7, 14, tyX7, rfl, by decide, cwX7, tyX7_ok, nmX7, gw_in (i := 415) (by decide +kernel) (by decide +kernel), rfl, rfl, rfl⟩
theorem fX7_89 : FW RX7 89 6 7 false (.int) := ⟨RX7, TX7, 14, tyX7, rfl, by decide, cwX7, tyX7_ok, nmX7, gw_in (i := 416) (by decide +kernel) (by decide +kernel), rfl, rfl, rfl⟩
theorem fX7_31 : FW RX7 31 6 8 false (.int) := ⟨RX7, TX7, 14, tyX7, rfl, by decide, cwX7, tyX7_ok, nmX7, gw_in (i := 417) (by decide +kernel) (by decide +kernel), rfl, rfl, rfl⟩
theorem fX7_34 : FW RX7 34 6 9 false (.int) := ⟨RX7, TX7, 14, tyX7, rfl, by decide, cwX7, tyX7_ok, nmX7, gw_in (i := 418) (by decide +kernel) (by decide +kernel), rfl, rfl, rfl⟩
theorem fX7_37 : FW RX7 37 6 10 false (.int) := ⟨RX7, TX7, 14, tyX7, rfl, by decide, cwX7, tyX7_ok, nmX7, gw_in (i := 419) (by decide +kernel) (by decide +kernel), rfl, rfl, rfl⟩
theorem fX7_40 : FW RX7 40 6 11 false (.int) := ⟨RX7, TX7, 14, tyX7, rfl, by decide, cwX7, tyX7_ok, nmX7, gw_in (i := 420) (by decide +kernel) (by decide +kernel), rfl, rfl, rfl⟩
theorem fX7_43 : FW RX7 43 6 12 false (.int) := ⟨RX7, TX7, 14, tyX7, rfl, by decide, cwX7, tyX7_ok, nmX7, gw_in (i := 421) (by decide +kernel) (by decide +kernel), rfl, rfl, rfl⟩
theorem fX7_22 : FW RX7 22 6 13 true (.array .int) := ⟨RX7, TX7, 14, tyX7, rfl, by decide, cwX7, tyX7_ok, nmX7, gw_in (i := 422) (by decide +kernel) (by decide +kernel), rfl, rfl, rfl⟩
theorem fX1_35 : FW RX1 35 1 0 false (.object "LiftedChecks$Code") := ⟨RX1, TX1, 9, tyX1, rfl, by decide, cwX1, tyX1_ok, nmX1, gw_in (i := 463) (by decide +kernel) (by decide +kernel), rfl, rfl, rfl⟩
theorem fX1_11 : FW RX1 11 1 1 true (.array (.object "LiftedChecks$Code")) := ⟨RX1, TX1, 9, tyX1, rfl, by decide, cwX1, tyX1_ok, nmX1, gw_in (i := 464) (by decide +kernel) (by decide +kernel), rfl, rfl, rfl⟩
theorem fX1_19 : FW RX1 19 1 2 true (.array (.array .long)) := ⟨RX1, TX1, 9, tyX1, rfl, by decide, cwX1, tyX1_ok, nmX1, gw_in (i := 465) (by decide +kernel) (by decide +kernel), rfl, rfl, rfl⟩
theorem fX1_22 : FW RX1 22 1 3 true (.array .int) := ⟨RX1, TX1, 9, tyX1, rfl, by decide, cwX1, tyX1_ok, nmX1, gw_in (i := 466) (by decide +kernel) (by decide +kernel), rfl, rfl, rfl⟩
theorem fX1_26 : FW RX1 26 1 4 true (.array .int) := ⟨RX1, TX1, 9, tyX1, rfl, by decide, cwX1, tyX1_ok, nmX1, gw_in (i := 467) (by decide +kernel) (by decide +kernel), rfl, rfl, rfl⟩
theorem fX1_29 : FW RX1 29 1 5 true (.array .int) := ⟨RX1, TX1, 9, tyX1, rfl, by decide, cwX1, tyX1_ok, nmX1, gw_in (i := 468) (by decide +kernel) (by decide +kernel), rfl, rfl, rfl⟩
theorem fX1_32 : FW RX1 32 1 6 true (.array .int) := ⟨RX1, TX1, 9, tyX1, rfl, by decide, cwX1, tyX1_ok, nmX1, gw_in (i := 469) (by decide +kernel) (by decide +kernel), rfl, rfl, rfl⟩
theorem fX1_50 : FW RX1 50 1 7 false (.int) := ⟨RX1, TX1, 9, tyX1, rfl, by decide, cwX1, tyX1_ok, nmX1, gw_in (i := 470) (by decide +kernel) (by decide +kernel), rfl, rfl, rfl⟩
theorem fX1_46 : FW RX1 46 1 8 false (.int) := ⟨RX1, TX1, 9, tyX1, rfl, by decide, cwX1, tyX1_ok, nmX1, gw_in (i := 471) (by decide +kernel) (by decide +kernel), rfl, rfl, rfl⟩
theorem fX0_9 : FW RX0 9 0 0 true (.array .long) := ⟨RX0, TX0, 4, tyX0, rfl, by decide, cwX0, tyX0_ok, nmX0, gw_in (i := 497) (by decide +kernel) (by decide +kernel), rfl, rfl, rfl⟩
theorem fX0_31 : FW RX0 31 0 1 false (.int) := ⟨RX0, TX0, 4, tyX0, rfl, by decide, cwX0, tyX0_ok, nmX0, gw_in (i := 498) (by decide +kernel) (by decide +kernel), rfl, rfl, rfl⟩
theorem fX0_28 : FW RX0 28 0 2 false (.int) := ⟨RX0, TX0, 4, tyX0, rfl, by decide, cwX0, tyX0_ok, nmX0, gw_in (i := 499) (by decide +kernel) (by decide +kernel), rfl, rfl, rfl⟩
theorem fX9_318 : FW RX9 318 0 2 false (.int) := ⟨RX0, TX0, 4, tyX0, rfl, by decide, cwX0, tyX0_ok, nmX0, gw_in (i := 500) (by decide +kernel) (by decide +kernel), rfl, rfl, rfl⟩
theorem fX0_34 : FW RX0 34 0 3 false (.long) := ⟨RX0, TX0, 4, tyX0, rfl, by decide, cwX0, tyX0_ok, nmX0, gw_in (i := 501) (by decide +kernel) (by decide +kernel), rfl, rfl, rfl⟩
theorem fX9_321 : FW RX9 321 0 3 false (.long) := ⟨RX0, TX0, 4, tyX0, rfl, by decide, cwX0, tyX0_ok, nmX0, gw_in (i := 502) (by decide +kernel) (by decide +kernel), rfl, rfl, rfl⟩
theorem fX3_9 : FW RX3 9 3 0 true (.array .int) := ⟨RX3, TX3, 5, tyX3, rfl, by decide, cwX3, tyX3_ok, nmX3, gw_in (i := 518) (by decide +kernel) (by decide +kernel), rfl, rfl, rfl⟩
theorem fX3_15 : FW RX3 15 3 1 true (.array .int) := ⟨RX3, TX3, 5, tyX3, rfl, by decide, cwX3, tyX3_ok, nmX3, gw_in (i := 519) (by decide +kernel) (by decide +kernel), rfl, rfl, rfl⟩
theorem fX3_34 : FW RX3 34 3 2 false (.int) := ⟨RX3, TX3, 5, tyX3, rfl, by decide, cwX3, tyX3_ok, nmX3, gw_in (i := 520) (by decide +kernel) (by decide +kernel), rfl, rfl, rfl⟩
theorem fX3_37 : FW RX3 37 3 3 false (.int) := ⟨RX3, TX3, 5, tyX3, rfl, by decide, cwX3, tyX3_ok, nmX3, gw_in (i := 521) (by decide +kernel) (by decide +kernel), rfl, rfl, rfl⟩
theorem fX9_334 : FW RX9 334 3 3 false (.int) := ⟨RX3, TX3, 5, tyX3, rfl, by decide, cwX3, tyX3_ok, nmX3, gw_in (i := 522) (by decide +kernel) (by decide +kernel), rfl, rfl, rfl⟩
theorem fX3_40 : FW RX3 40 3 4 false (.int) := ⟨RX3, TX3, 5, tyX3, rfl, by decide, cwX3, tyX3_ok, nmX3, gw_in (i := 523) (by decide +kernel) (by decide +kernel), rfl, rfl, rfl⟩
theorem fX9_337 : FW RX9 337 3 4 false (.int) := ⟨RX3, TX3, 5, tyX3, rfl, by decide, cwX3, tyX3_ok, nmX3, gw_in (i := 524) (by decide +kernel) (by decide +kernel), rfl, rfl, rfl⟩
theorem fX9_19 : FW RX9 19 8 0 true (.object "LiftedChecks$Held") := ⟨RX9, TX9, 7, tyX9, rfl, by decide, cwX9, tyX9_ok, nmX9, gw_in (i := 536) (by decide +kernel) (by decide +kernel), rfl, rfl, rfl⟩
theorem fX9_23 : FW RX9 23 8 1 true (.object "LiftedChecks$Held") := ⟨RX9, TX9, 7, tyX9, rfl, by decide, cwX9, tyX9_ok, nmX9, gw_in (i := 537) (by decide +kernel) (by decide +kernel), rfl, rfl, rfl⟩
theorem fX9_29 : FW RX9 29 8 2 true (.object "LiftedChecks$Reader") := ⟨RX9, TX9, 7, tyX9, rfl, by decide, cwX9, tyX9_ok, nmX9, gw_in (i := 538) (by decide +kernel) (by decide +kernel), rfl, rfl, rfl⟩
theorem fX9_36 : FW RX9 36 8 3 true (.object "LiftedChecks$Scene") := ⟨RX9, TX9, 7, tyX9, rfl, by decide, cwX9, tyX9_ok, nmX9, gw_in (i := 539) (by decide +kernel) (by decide +kernel), rfl, rfl, rfl⟩
theorem fX9_43 : FW RX9 43 8 4 true (.object "LiftedChecks$Census") := ⟨RX9, TX9, 7, tyX9, rfl, by decide, cwX9, tyX9_ok, nmX9, gw_in (i := 540) (by decide +kernel) (by decide +kernel), rfl, rfl, rfl⟩
theorem fX9_50 : FW RX9 50 8 5 true (.object "LiftedChecks$AllWords") := ⟨RX9, TX9, 7, tyX9, rfl, by decide, cwX9, tyX9_ok, nmX9, gw_in (i := 541) (by decide +kernel) (by decide +kernel), rfl, rfl, rfl⟩
theorem fX9_57 : FW RX9 57 8 6 true (.object "LiftedChecks$Flow") := ⟨RX9, TX9, 7, tyX9, rfl, by decide, cwX9, tyX9_ok, nmX9, gw_in (i := 542) (by decide +kernel) (by decide +kernel), rfl, rfl, rfl⟩
theorem fX10_7 : FW RX10 7 9 0 true (.array .int) := ⟨RX10, TX10, 28, tyX10, rfl, by decide, cwX10, tyX10_ok, nmX10, gw_in (i := 1277) (by decide +kernel) (by decide +kernel), rfl, rfl, rfl⟩
theorem fX10_13 : FW RX10 13 9 1 true (.array .int) := ⟨RX10, TX10, 28, tyX10, rfl, by decide, cwX10, tyX10_ok, nmX10, gw_in (i := 1278) (by decide +kernel) (by decide +kernel), rfl, rfl, rfl⟩
theorem fX10_16 : FW RX10 16 9 2 true (.array .int) := ⟨RX10, TX10, 28, tyX10, rfl, by decide, cwX10, tyX10_ok, nmX10, gw_in (i := 1279) (by decide +kernel) (by decide +kernel), rfl, rfl, rfl⟩
theorem fX10_19 : FW RX10 19 9 3 true (.array .int) := ⟨RX10, TX10, 28, tyX10, rfl, by decide, cwX10, tyX10_ok, nmX10, gw_in (i := 1280) (by decide +kernel) (by decide +kernel), rfl, rfl, rfl⟩
theorem fX10_91 : FW RX10 91 9 4 false (.int) := ⟨RX10, TX10, 28, tyX10, rfl, by decide, cwX10, tyX10_ok, nmX10, gw_in (i := 1281) (by decide +kernel) (by decide +kernel), rfl, rfl, rfl⟩
theorem fX10_22 : FW RX10 22 9 5 false (.int) := ⟨RX10, TX10, 28, tyX10, rfl, by decide, cwX10, tyX10_ok, nmX10, gw_in (i := 1282) (by decide +kernel) (by decide +kernel), rfl, rfl, rfl⟩
theorem fX10_26 : FW RX10 26 9 6 false (.int) := ⟨RX10, TX10, 28, tyX10, rfl, by decide, cwX10, tyX10_ok, nmX10, gw_in (i := 1283) (by decide +kernel) (by decide +kernel), rfl, rfl, rfl⟩
theorem fX10_108 : FW RX10 108 9 7 false (.int) := ⟨RX10, TX10, 28, tyX10, rfl, by decide, cwX10, tyX10_ok, nmX10, gw_in (i := 1284) (by decide +kernel) (by decide +kernel), rfl, rfl, rfl⟩
theorem fX10_101 : FW RX10 101 9 8 false (.int) := ⟨RX10, TX10, 28, tyX10, rfl, by decide, cwX10, tyX10_ok, nmX10, gw_in (i := 1285) (by decide +kernel) (by decide +kernel), rfl, rfl, rfl⟩
theorem fX10_114 : FW RX10 114 9 9 false (.int) := ⟨RX10, TX10, 28, tyX10, rfl, by decide, cwX10, tyX10_ok, nmX10, gw_in (i := 1286) (by decide +kernel) (by decide +kernel), rfl, rfl, rfl⟩
theorem fX10_111 : FW RX10 111 9 10 false (.int) := ⟨RX10, TX10, 28, tyX10, rfl, by decide, cwX10, tyX10_ok, nmX10, gw_in (i := 1287) (by decide +kernel) (by decide +kernel), rfl, rfl, rfl⟩
theorem fX10_130 : FW RX10 130 9 11 false (.int) := ⟨RX10, TX10, 28, tyX10, rfl, by decide, cwX10, tyX10_ok, nmX10, gw_in (i := 1288) (by decide +kernel) (by decide +kernel), rfl, rfl, rfl⟩
theorem fX10_140 : FW RX10 140 9 12 false (.boolean) := ⟨RX10, TX10, 28, tyX10, rfl, by decide, cwX10, tyX10_ok, nmX10, gw_in (i := 1289) (by decide +kernel) (by decide +kernel), rfl, rfl, rfl⟩
theorem fX10_144 : FW RX10 144 9 13 false (.boolean) := ⟨RX10, TX10, 28, tyX10, rfl, by decide, cwX10, tyX10_ok, nmX10, gw_in (i := 1290) (by decide +kernel) (by decide +kernel), rfl, rfl, rfl⟩
theorem fX10_29 : FW RX10 29 9 14 true (.array .int) := ⟨RX10, TX10, 28, tyX10, rfl, by decide, cwX10, tyX10_ok, nmX10, gw_in (i := 1291) (by decide +kernel) (by decide +kernel), rfl, rfl, rfl⟩
theorem fX10_32 : FW RX10 32 9 15 true (.array .long) := ⟨RX10, TX10, 28, tyX10, rfl, by decide, cwX10, tyX10_ok, nmX10, gw_in (i := 1292) (by decide +kernel) (by decide +kernel), rfl, rfl, rfl⟩
theorem fX10_201 : FW RX10 201 9 16 false (.long) := ⟨RX10, TX10, 28, tyX10, rfl, by decide, cwX10, tyX10_ok, nmX10, gw_in (i := 1293) (by decide +kernel) (by decide +kernel), rfl, rfl, rfl⟩
theorem fX10_205 : FW RX10 205 9 17 false (.int) := ⟨RX10, TX10, 28, tyX10, rfl, by decide, cwX10, tyX10_ok, nmX10, gw_in (i := 1294) (by decide +kernel) (by decide +kernel), rfl, rfl, rfl⟩
theorem fX10_36 : FW RX10 36 9 18 true (.array .int) := ⟨RX10, TX10, 28, tyX10, rfl, by decide, cwX10, tyX10_ok, nmX10, gw_in (i := 1295) (by decide +kernel) (by decide +kernel), rfl, rfl, rfl⟩
theorem fX10_39 : FW RX10 39 9 19 true (.array .long) := ⟨RX10, TX10, 28, tyX10, rfl, by decide, cwX10, tyX10_ok, nmX10, gw_in (i := 1296) (by decide +kernel) (by decide +kernel), rfl, rfl, rfl⟩
theorem fX10_42 : FW RX10 42 9 20 true (.array .int) := ⟨RX10, TX10, 28, tyX10, rfl, by decide, cwX10, tyX10_ok, nmX10, gw_in (i := 1297) (by decide +kernel) (by decide +kernel), rfl, rfl, rfl⟩
theorem fX10_45 : FW RX10 45 9 21 true (.array .int) := ⟨RX10, TX10, 28, tyX10, rfl, by decide, cwX10, tyX10_ok, nmX10, gw_in (i := 1298) (by decide +kernel) (by decide +kernel), rfl, rfl, rfl⟩
theorem fX10_318 : FW RX10 318 9 22 false (.int) := ⟨RX10, TX10, 28, tyX10, rfl, by decide, cwX10, tyX10_ok, nmX10, gw_in (i := 1299) (by decide +kernel) (by decide +kernel), rfl, rfl, rfl⟩
theorem fX10_321 : FW RX10 321 9 23 false (.long) := ⟨RX10, TX10, 28, tyX10, rfl, by decide, cwX10, tyX10_ok, nmX10, gw_in (i := 1300) (by decide +kernel) (by decide +kernel), rfl, rfl, rfl⟩
theorem fX10_48 : FW RX10 48 9 24 true (.array .int) := ⟨RX10, TX10, 28, tyX10, rfl, by decide, cwX10, tyX10_ok, nmX10, gw_in (i := 1301) (by decide +kernel) (by decide +kernel), rfl, rfl, rfl⟩
theorem fX10_346 : FW RX10 346 9 25 false (.int) := ⟨RX10, TX10, 28, tyX10, rfl, by decide, cwX10, tyX10_ok, nmX10, gw_in (i := 1302) (by decide +kernel) (by decide +kernel), rfl, rfl, rfl⟩
theorem fX10_337 : FW RX10 337 9 26 false (.int) := ⟨RX10, TX10, 28, tyX10, rfl, by decide, cwX10, tyX10_ok, nmX10, gw_in (i := 1303) (by decide +kernel) (by decide +kernel), rfl, rfl, rfl⟩
theorem fX10_51 : FW RX10 51 9 27 true (.array .int) := ⟨RX10, TX10, 28, tyX10, rfl, by decide, cwX10, tyX10_ok, nmX10, gw_in (i := 1304) (by decide +kernel) (by decide +kernel), rfl, rfl, rfl⟩
theorem nX9_7 : NWd RX9 7 2 15 [.int 0, .int 0, .int 0, .int 0, .int 0, .int 0, .int 0, .null, .null, .null, .null, .null, .int 0, .long 0, .null] := ⟨RX2, TX2, tyX2, rfl, cwX2, tyX2_ok, by decide +kernel, gw_in (i := 136) (by decide +kernel) (by decide +kernel), gw_in (i := 137) (by decide +kernel) (by decide +kernel), gw_in (i := 107) (by decide +kernel) (by decide +kernel)⟩
theorem nX9_14 : NWd RX9 14 4 4 [.null, .null, .null, .int 0] := ⟨RX5, TX5, tyX5, rfl, cwX5, tyX5_ok, by decide +kernel, gw_in (i := 245) (by decide +kernel) (by decide +kernel), gw_in (i := 246) (by decide +kernel) (by decide +kernel), gw_in (i := 111) (by decide +kernel) (by decide +kernel)⟩
theorem nX5_9 : NWd RX5 9 5 3 [.null, .int 0, .int 0] := ⟨RX6, TX6, tyX6, rfl, cwX6, tyX6_ok, by decide +kernel, gw_in (i := 251) (by decide +kernel) (by decide +kernel), gw_in (i := 252) (by decide +kernel) (by decide +kernel), gw_in (i := 112) (by decide +kernel) (by decide +kernel)⟩
theorem nX6_9 : NWd RX6 9 7 17 [.null, .long 0, .int 0, .int 0, .int 0, .int 0, .int 0, .int 0, .long 0, .int 0, .null, .null, .null, .null, .null, .null, .null] := ⟨RX8, TX8, tyX8, rfl, cwX8, tyX8_ok, by decide +kernel, gw_in (i := 257) (by decide +kernel) (by decide +kernel), gw_in (i := 273) (by decide +kernel) (by decide +kernel), gw_in (i := 113) (by decide +kernel) (by decide +kernel)⟩
theorem nX5_18 : NWd RX5 18 2 15 [.int 0, .int 0, .int 0, .int 0, .int 0, .int 0, .int 0, .null, .null, .null, .null, .null, .int 0, .long 0, .null] := ⟨RX2, TX2, tyX2, rfl, cwX2, tyX2_ok, by decide +kernel, gw_in (i := 270) (by decide +kernel) (by decide +kernel), gw_in (i := 137) (by decide +kernel) (by decide +kernel), gw_in (i := 107) (by decide +kernel) (by decide +kernel)⟩
theorem nX5_24 : NWd RX5 24 7 17 [.null, .long 0, .int 0, .int 0, .int 0, .int 0, .int 0, .int 0, .long 0, .int 0, .null, .null, .null, .null, .null, .null, .null] := ⟨RX8, TX8, tyX8, rfl, cwX8, tyX8_ok, by decide +kernel, gw_in (i := 272) (by decide +kernel) (by decide +kernel), gw_in (i := 273) (by decide +kernel) (by decide +kernel), gw_in (i := 113) (by decide +kernel) (by decide +kernel)⟩
theorem nX9_26 : NWd RX9 26 6 14 [.null, .int 0, .int 0, .int 0, .int 0, .int 0, .int 0, .int 0, .int 0, .int 0, .int 0, .int 0, .int 0, .null] := ⟨RX7, TX7, tyX7, rfl, cwX7, tyX7_ok, by decide +kernel, gw_in (i := 400) (by decide +kernel) (by decide +kernel), gw_in (i := 401) (by decide +kernel) (by decide +kernel), gw_in (i := 116) (by decide +kernel) (by decide +kernel)⟩
theorem nX9_33 : NWd RX9 33 7 17 [.null, .long 0, .int 0, .int 0, .int 0, .int 0, .int 0, .int 0, .long 0, .int 0, .null, .null, .null, .null, .null, .null, .null] := ⟨RX8, TX8, tyX8, rfl, cwX8, tyX8_ok, by decide +kernel, gw_in (i := 452) (by decide +kernel) (by decide +kernel), gw_in (i := 273) (by decide +kernel) (by decide +kernel), gw_in (i := 113) (by decide +kernel) (by decide +kernel)⟩
theorem nX9_40 : NWd RX9 40 1 9 [.null, .null, .null, .null, .null, .null, .null, .int 0, .int 0] := ⟨RX1, TX1, tyX1, rfl, cwX1, tyX1_ok, by decide +kernel, gw_in (i := 454) (by decide +kernel) (by decide +kernel), gw_in (i := 455) (by decide +kernel) (by decide +kernel), gw_in (i := 117) (by decide +kernel) (by decide +kernel)⟩
theorem nX1_9 : NWd RX1 9 2 15 [.int 0, .int 0, .int 0, .int 0, .int 0, .int 0, .int 0, .null, .null, .null, .null, .null, .int 0, .long 0, .null] := ⟨RX2, TX2, tyX2, rfl, cwX2, tyX2_ok, by decide +kernel, gw_in (i := 460) (by decide +kernel) (by decide +kernel), gw_in (i := 137) (by decide +kernel) (by decide +kernel), gw_in (i := 107) (by decide +kernel) (by decide +kernel)⟩
theorem nX9_47 : NWd RX9 47 0 4 [.null, .int 0, .int 0, .long 0] := ⟨RX0, TX0, tyX0, rfl, cwX0, tyX0_ok, by decide +kernel, gw_in (i := 491) (by decide +kernel) (by decide +kernel), gw_in (i := 492) (by decide +kernel) (by decide +kernel), gw_in (i := 118) (by decide +kernel) (by decide +kernel)⟩
theorem nX9_54 : NWd RX9 54 3 5 [.null, .null, .int 0, .int 0, .int 0] := ⟨RX3, TX3, tyX3, rfl, cwX3, tyX3_ok, by decide +kernel, gw_in (i := 512) (by decide +kernel) (by decide +kernel), gw_in (i := 513) (by decide +kernel) (by decide +kernel), gw_in (i := 119) (by decide +kernel) (by decide +kernel)⟩
theorem nX7_49 : NWd RX7 49 2 15 [.int 0, .int 0, .int 0, .int 0, .int 0, .int 0, .int 0, .null, .null, .null, .null, .null, .int 0, .long 0, .null] := ⟨RX2, TX2, tyX2, rfl, cwX2, tyX2_ok, by decide +kernel, gw_in (i := 675) (by decide +kernel) (by decide +kernel), gw_in (i := 137) (by decide +kernel) (by decide +kernel), gw_in (i := 107) (by decide +kernel) (by decide +kernel)⟩
theorem nX2_10 : NWd RX2 10 2 15 [.int 0, .int 0, .int 0, .int 0, .int 0, .int 0, .int 0, .null, .null, .null, .null, .null, .int 0, .long 0, .null] := ⟨RX2, TX2, tyX2, rfl, cwX2, tyX2_ok, by decide +kernel, gw_in (i := 730) (by decide +kernel) (by decide +kernel), gw_in (i := 137) (by decide +kernel) (by decide +kernel), gw_in (i := 107) (by decide +kernel) (by decide +kernel)⟩
theorem qJ13_314 : Cond.constantLong RJ13 314 (6148914691236517205) ∈ gw := gw_in (i := 162) (by decide +kernel) (by decide +kernel)
theorem qJ13_316 : Cond.constantLong RJ13 316 (3689348814741910323) ∈ gw := gw_in (i := 163) (by decide +kernel) (by decide +kernel)
theorem qJ13_318 : Cond.constantLong RJ13 318 (1085102592571150095) ∈ gw := gw_in (i := 164) (by decide +kernel) (by decide +kernel)
theorem qJ6_265 : Cond.constant RJ6 265 (1431655765) ∈ gw := gw_in (i := 859) (by decide +kernel) (by decide +kernel)
theorem qJ6_266 : Cond.constant RJ6 266 (858993459) ∈ gw := gw_in (i := 860) (by decide +kernel) (by decide +kernel)
theorem qJ6_267 : Cond.constant RJ6 267 (252645135) ∈ gw := gw_in (i := 861) (by decide +kernel) (by decide +kernel)
theorem qX4_26 : Cond.constantLong RX4 26 (-1) ∈ gw := gw_in (i := 915) (by decide +kernel) (by decide +kernel)
theorem qX1_60 : Cond.constant RX1 60 (1000000) ∈ gw := gw_in (i := 993) (by decide +kernel) (by decide +kernel)
theorem qX9_309 : Cond.constantLong RX9 309 (-1) ∈ gw := gw_in (i := 1090) (by decide +kernel) (by decide +kernel)
theorem qX9_380 : Cond.constantLong RX9 380 (4503599627370496) ∈ gw := gw_in (i := 1214) (by decide +kernel) (by decide +kernel)
theorem qX9_382 : Cond.constantLong RX9 382 (2) ∈ gw := gw_in (i := 1215) (by decide +kernel) (by decide +kernel)
theorem qX10_81 : Cond.constantLong RX10 81 (4294967295) ∈ gw := gw_in (i := 1480) (by decide +kernel) (by decide +kernel)
theorem qX10_255 : Cond.constantLong RX10 255 (-1) ∈ gw := gw_in (i := 1649) (by decide +kernel) (by decide +kernel)
theorem qJxe99ae_137 : Cond.constantLong RJxe99ae 137 (9221120237041090560) ∈ gw := gw_in (i := 1893) (by decide +kernel) (by decide +kernel)
theorem qL_36 : Cond.constantLong RL 36 (4294967295) ∈ gw := gw_in (i := 1906) (by decide +kernel) (by decide +kernel)
