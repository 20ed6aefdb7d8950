/-! WORDS: classes, links, codes -/
theorem gt_l {ws : List Cond} (ps : List Nat) (h : ws = ps.filterMap (fun i => tables_1[i]?)) (hg : ws.all goodWord = true) : ∀ w ∈ ws, w ∈ gt := by
  intro w hw
  refine List.mem_filter.mpr ⟨List.mem_append_right _ ?_, List.all_eq_true.mp hg w hw⟩
  rw [h] at hw
  obtain ⟨i, -, hi⟩ := List.mem_filterMap.mp hw
  exact List.mem_of_getElem? hi
theorem clX0 : ClOk 0 RX0 TX0 4 tyX0 := ⟨rfl, rfl, gt_l [390, 392, 394, 396] (by decide +kernel) (by decide +kernel), tyX0_ok, nmX0⟩
theorem clX1 : ClOk 1 RX1 TX1 8 tyX1 := ⟨rfl, rfl, gt_l [604, 606, 608, 610, 612, 614, 616, 618] (by decide +kernel) (by decide +kernel), tyX1_ok, nmX1⟩
theorem clX2 : ClOk 2 RX2 TX2 4 tyX2 := ⟨rfl, rfl, gt_l [444, 446, 448, 450] (by decide +kernel) (by decide +kernel), tyX2_ok, nmX2⟩
theorem clX3 : ClOk 3 RX3 TX3 18 tyX3 := ⟨rfl, rfl, gt_l [197, 199, 201, 203, 205, 207, 209, 211, 213, 215, 217, 219, 221, 223, 225, 227, 229, 231] (by decide +kernel) (by decide +kernel), tyX3_ok, nmX3⟩
theorem clX4 : ClOk 4 RX4 TX4 7 tyX4 := ⟨rfl, rfl, gt_l [412, 414, 416, 418, 420, 422, 424] (by decide +kernel) (by decide +kernel), tyX4_ok, nmX4⟩
theorem clX5 : ClOk 5 RX5 TX5 12 tyX5 := ⟨rfl, rfl, gt_l [485, 487, 489, 491, 493, 495, 497, 499, 501, 503, 505, 507] (by decide +kernel) (by decide +kernel), tyX5_ok, nmX5⟩
theorem clX6 : ClOk 6 RX6 TX6 12 tyX6 := ⟨rfl, rfl, gt_l [249, 251, 253, 255, 257, 259, 261, 263, 265, 267, 269, 271] (by decide +kernel) (by decide +kernel), tyX6_ok, nmX6⟩
theorem clX7 : ClOk 7 RX7 TX7 18 tyX7 := ⟨rfl, rfl, gt_l [553, 555, 557, 559, 561, 563, 565, 567, 569, 571, 573, 575, 577, 579, 581, 583, 585, 587] (by decide +kernel) (by decide +kernel), tyX7_ok, nmX7⟩
theorem clX8 : ClOk 8 RX8 TX8 8 tyX8 := ⟨rfl, rfl, gt_l [102, 104, 106, 108, 110, 112, 114, 116] (by decide +kernel) (by decide +kernel), tyX8_ok, nmX8⟩
theorem clX9 : ClOk 9 RX9 TX9 8 tyX9 := ⟨rfl, rfl, gt_l [321, 323, 325, 327, 329, 331, 333, 335] (by decide +kernel) (by decide +kernel), tyX9_ok, nmX9⟩
theorem clX10 : ClOk 10 RX10 TX10 10 tyX10 := ⟨rfl, rfl, gt_l [351, 353, 355, 357, 359, 361, 363, 365, 367, 369] (by decide +kernel) (by decide +kernel), tyX10_ok, nmX10⟩
theorem clX11 : ClOk 11 RX11 TX11 16 tyX11 := ⟨rfl, rfl, gt_l [639, 641, 643, 645, 647, 649, 651, 653, 655, 657, 659, 661, 663, 665, 667, 669] (by decide +kernel) (by decide +kernel), tyX11_ok, nmX11⟩
theorem clX12 : ClOk 12 RX12 TX12 54 tyX12 := ⟨rfl, rfl, gt_l [1465, 1467, 1469, 1471, 1473, 1475, 1477, 1479, 1481, 1483, 1485, 1487, 1489, 1491, 1493, 1495, 1497, 1499, 1501, 1503, 1505, 1507, 1509, 1511, 1513, 1515, 1517, 1519, 1521, 1523, 1525, 1527, 1529, 1531, 1533, 1535, 1537, 1539, 1541, 1543, 1545, 1547, 1549, 1551, 1553, 1555, 1557, 1559, 1561, 1563, 1565, 1567, 1569, 1571] (by decide +kernel) (by decide +kernel), tyX12_ok, nmX12⟩
theorem cd_yX0_init : Cond.code yX0_init cX0_init 1 none ∈ gt := gt_t (i := 378) (by decide +kernel) rfl
theorem cd_yX0_start : Cond.code yX0_start cX0_start 4 none ∈ gt := gt_t (i := 899) (by decide +kernel) rfl
theorem cd_yX0_liesWithin : Cond.code yX0_liesWithin cX0_liesWithin 6 (some .boolean) ∈ gt := gt_t (i := 1080) (by decide +kernel) rfl
theorem cd_yX1_init : Cond.code yX1_init cX1_init 4 none ∈ gt := gt_t (i := 594) (by decide +kernel) rfl
theorem cd_yX1_reckon : Cond.code yX1_reckon cX1_reckon 3 (some .int) ∈ gt := gt_t (i := 1224) (by decide +kernel) rfl
theorem cd_yX1_gather : Cond.code yX1_gather cX1_gather 2 none ∈ gt := gt_t (i := 1228) (by decide +kernel) rfl
theorem cd_yX1_asSet : Cond.code yX1_asSet cX1_asSet 5 (some .int) ∈ gt := gt_t (i := 1233) (by decide +kernel) rfl
theorem cd_yX1_living : Cond.code yX1_living cX1_living 5 (some .int) ∈ gt := gt_t (i := 1238) (by decide +kernel) rfl
theorem cd_yX1_goOn : Cond.code yX1_goOn cX1_goOn 4 none ∈ gt := gt_t (i := 1244) (by decide +kernel) rfl
theorem cd_yX2_init : Cond.code yX2_init cX2_init 2 none ∈ gt := gt_t (i := 431) (by decide +kernel) rfl
theorem cd_yX2_reckon : Cond.code yX2_reckon cX2_reckon 6 none ∈ gt := gt_t (i := 907) (by decide +kernel) rfl
theorem cd_yX2_put : Cond.code yX2_put cX2_put 4 none ∈ gt := gt_t (i := 911) (by decide +kernel) rfl
theorem cd_yX2_putPick : Cond.code yX2_putPick cX2_putPick 6 none ∈ gt := gt_t (i := 915) (by decide +kernel) rfl
theorem cd_yX2_putPair : Cond.code yX2_putPair cX2_putPair 9 none ∈ gt := gt_t (i := 929) (by decide +kernel) rfl
theorem cd_yX2_putProduct : Cond.code yX2_putProduct cX2_putProduct 9 none ∈ gt := gt_t (i := 944) (by decide +kernel) rfl
theorem cd_yX2_putFlag : Cond.code yX2_putFlag cX2_putFlag 4 none ∈ gt := gt_t (i := 948) (by decide +kernel) rfl
theorem cd_yX2_isKnown : Cond.code yX2_isKnown cX2_isKnown 2 (some .boolean) ∈ gt := gt_t (i := 919) (by decide +kernel) rfl
theorem cd_yX2_isLow : Cond.code yX2_isLow cX2_isLow 2 (some .boolean) ∈ gt := gt_t (i := 952) (by decide +kernel) rfl
theorem cd_yX2_countLow : Cond.code yX2_countLow cX2_countLow 3 (some .int) ∈ gt := gt_t (i := 1207) (by decide +kernel) rfl
theorem cd_yX2_countKnown : Cond.code yX2_countKnown cX2_countKnown 3 (some .int) ∈ gt := gt_t (i := 1211) (by decide +kernel) rfl
theorem cd_yX3_init : Cond.code yX3_init cX3_init 1 none ∈ gt := gt_t (i := 131) (by decide +kernel) rfl
theorem cd_yX3_clear : Cond.code yX3_clear cX3_clear 1 none ∈ gt := gt_t (i := 695) (by decide +kernel) rfl
theorem cd_yX3_open : Cond.code yX3_open cX3_open 4 (some .int) ∈ gt := gt_t (i := 731) (by decide +kernel) rfl
theorem cd_yX3_endsTimes : Cond.code yX3_endsTimes cX3_endsTimes 2 (some .boolean) ∈ gt := gt_t (i := 878) (by decide +kernel) rfl
theorem cd_yX3_hasElse : Cond.code yX3_hasElse cX3_hasElse 2 (some .boolean) ∈ gt := gt_t (i := 890) (by decide +kernel) rfl
theorem cd_yX4_init : Cond.code yX4_init cX4_init 2 none ∈ gt := gt_t (i := 403) (by decide +kernel) rfl
theorem cd_yX4_reckonLane : Cond.code yX4_reckonLane cX4_reckonLane 7 (some .int) ∈ gt := gt_t (i := 1107) (by decide +kernel) rfl
theorem cd_yX4_reckonOne : Cond.code yX4_reckonOne cX4_reckonOne 5 (some .int) ∈ gt := gt_t (i := 1112) (by decide +kernel) rfl
theorem cd_yX4_walk : Cond.code yX4_walk cX4_walk 7 (some .int) ∈ gt := gt_t (i := 1326) (by decide +kernel) rfl
theorem cd_yX4_walkLine : Cond.code yX4_walkLine cX4_walkLine 4 (some .int) ∈ gt := gt_t (i := 1334) (by decide +kernel) rfl
theorem cd_yX4_walkIs : Cond.code yX4_walkIs cX4_walkIs 5 none ∈ gt := gt_t (i := 1338) (by decide +kernel) rfl
theorem cd_yX4_walkTimes : Cond.code yX4_walkTimes cX4_walkTimes 2 none ∈ gt := gt_t (i := 1342) (by decide +kernel) rfl
theorem cd_yX4_walkTimesEnd : Cond.code yX4_walkTimesEnd cX4_walkTimesEnd 3 (some .int) ∈ gt := gt_t (i := 1347) (by decide +kernel) rfl
theorem cd_yX4_argNumber : Cond.code yX4_argNumber cX4_argNumber 5 (some .int) ∈ gt := gt_t (i := 1330) (by decide +kernel) rfl
theorem cd_yX4_run : Cond.code yX4_run cX4_run 7 none ∈ gt := gt_t (i := 1358) (by decide +kernel) rfl
theorem cd_yX4_heldFor : Cond.code yX4_heldFor cX4_heldFor 4 (some .int) ∈ gt := gt_t (i := 1362) (by decide +kernel) rfl
theorem cd_yX5_init : Cond.code yX5_init cX5_init 3 none ∈ gt := gt_t (i := 457) (by decide +kernel) rfl
theorem cd_yX5_reckon : Cond.code yX5_reckon cX5_reckon 3 none ∈ gt := gt_t (i := 956) (by decide +kernel) rfl
theorem cd_yX5_isNeeded : Cond.code yX5_isNeeded cX5_isNeeded 2 (some .boolean) ∈ gt := gt_t (i := 978) (by decide +kernel) rfl
theorem cd_yX5_isKept : Cond.code yX5_isKept cX5_isKept 2 (some .boolean) ∈ gt := gt_t (i := 997) (by decide +kernel) rfl
theorem cd_yX5_findStandsFor : Cond.code yX5_findStandsFor cX5_findStandsFor 4 none ∈ gt := gt_t (i := 960) (by decide +kernel) rfl
theorem cd_yX5_findSources : Cond.code yX5_findSources cX5_findSources 5 none ∈ gt := gt_t (i := 965) (by decide +kernel) rfl
theorem cd_yX5_keepShown : Cond.code yX5_keepShown cX5_keepShown 4 none ∈ gt := gt_t (i := 970) (by decide +kernel) rfl
theorem cd_yX5_findUsers : Cond.code yX5_findUsers cX5_findUsers 4 none ∈ gt := gt_t (i := 974) (by decide +kernel) rfl
theorem cd_yX6_init : Cond.code yX6_init cX6_init 2 none ∈ gt := gt_t (i := 125) (by decide +kernel) rfl
theorem cd_yX6_parse : Cond.code yX6_parse cX6_parse 3 (some .int) ∈ gt := gt_t (i := 691) (by decide +kernel) rfl
theorem cd_yX6_faultHere : Cond.code yX6_faultHere cX6_faultHere 2 (some .int) ∈ gt := gt_t (i := 719) (by decide +kernel) rfl
theorem cd_yX6_readLine : Cond.code yX6_readLine cX6_readLine 1 (some .int) ∈ gt := gt_t (i := 715) (by decide +kernel) rfl
theorem cd_yX6_readInput : Cond.code yX6_readInput cX6_readInput 4 (some .int) ∈ gt := gt_t (i := 768) (by decide +kernel) rfl
theorem cd_yX6_readInputName : Cond.code yX6_readInputName cX6_readInputName 3 (some .int) ∈ gt := gt_t (i := 772) (by decide +kernel) rfl
theorem cd_yX6_readFetch : Cond.code yX6_readFetch cX6_readFetch 2 (some .int) ∈ gt := gt_t (i := 780) (by decide +kernel) rfl
theorem cd_yX6_readAlu : Cond.code yX6_readAlu cX6_readAlu 2 (some .int) ∈ gt := gt_t (i := 784) (by decide +kernel) rfl
theorem cd_yX6_readWhen : Cond.code yX6_readWhen cX6_readWhen 3 (some .int) ∈ gt := gt_t (i := 788) (by decide +kernel) rfl
theorem cd_yX6_readElse : Cond.code yX6_readElse cX6_readElse 2 (some .int) ∈ gt := gt_t (i := 792) (by decide +kernel) rfl
theorem cd_yX6_readTimes : Cond.code yX6_readTimes cX6_readTimes 3 (some .int) ∈ gt := gt_t (i := 796) (by decide +kernel) rfl
theorem cd_yX6_readEnd : Cond.code yX6_readEnd cX6_readEnd 4 (some .int) ∈ gt := gt_t (i := 800) (by decide +kernel) rfl
theorem cd_yX6_readShow : Cond.code yX6_readShow cX6_readShow 3 (some .int) ∈ gt := gt_t (i := 804) (by decide +kernel) rfl
theorem cd_yX6_readIs : Cond.code yX6_readIs cX6_readIs 6 (some .int) ∈ gt := gt_t (i := 723) (by decide +kernel) rfl
theorem cd_yX6_readOp : Cond.code yX6_readOp cX6_readOp 7 (some .int) ∈ gt := gt_t (i := 739) (by decide +kernel) rfl
theorem cd_yX6_typeWanted : Cond.code yX6_typeWanted cX6_typeWanted 4 (some .int) ∈ gt := gt_t (i := 749) (by decide +kernel) rfl
theorem cd_yX6_takeArg : Cond.code yX6_takeArg cX6_takeArg 5 (some .int) ∈ gt := gt_t (i := 756) (by decide +kernel) rfl
theorem cd_yX6_readNumber : Cond.code yX6_readNumber cX6_readNumber 3 (some .int) ∈ gt := gt_t (i := 776) (by decide +kernel) rfl
theorem cd_yX6_readSemicolon : Cond.code yX6_readSemicolon cX6_readSemicolon 1 (some .int) ∈ gt := gt_t (i := 760) (by decide +kernel) rfl
theorem cd_yX6_slotOf : Cond.code yX6_slotOf cX6_slotOf 4 (some .int) ∈ gt := gt_t (i := 727) (by decide +kernel) rfl
theorem cd_yX6_tell : Cond.code yX6_tell cX6_tell 6 (some .int) ∈ gt := gt_t (i := 764) (by decide +kernel) rfl
theorem cd_yX7_init : Cond.code yX7_init cX7_init 4 none ∈ gt := gt_t (i := 514) (by decide +kernel) rfl
theorem cd_yX7_arrange : Cond.code yX7_arrange cX7_arrange 8 none ∈ gt := gt_t (i := 983) (by decide +kernel) rfl
theorem cd_yX7_putAt : Cond.code yX7_putAt cX7_putAt 3 none ∈ gt := gt_t (i := 1001) (by decide +kernel) rfl
theorem cd_yX7_goesAhead : Cond.code yX7_goesAhead cX7_goesAhead 7 (some .boolean) ∈ gt := gt_t (i := 989) (by decide +kernel) rfl
theorem cd_yX7_growth : Cond.code yX7_growth cX7_growth 9 (some .int) ∈ gt := gt_t (i := 993) (by decide +kernel) rfl
theorem cd_yX7_settle : Cond.code yX7_settle cX7_settle 3 none ∈ gt := gt_t (i := 1005) (by decide +kernel) rfl
theorem cd_yX7_findEnds : Cond.code yX7_findEnds cX7_findEnds 5 none ∈ gt := gt_t (i := 1009) (by decide +kernel) rfl
theorem cd_yX7_findPressures : Cond.code yX7_findPressures cX7_findPressures 3 none ∈ gt := gt_t (i := 1014) (by decide +kernel) rfl
theorem cd_yX7_pressureAt : Cond.code yX7_pressureAt cX7_pressureAt 6 (some .int) ∈ gt := gt_t (i := 1018) (by decide +kernel) rfl
theorem cd_yX7_fileOf : Cond.code yX7_fileOf cX7_fileOf 2 (some .int) ∈ gt := gt_t (i := 1022) (by decide +kernel) rfl
theorem cd_yX7_halfOf : Cond.code yX7_halfOf cX7_halfOf 2 (some .int) ∈ gt := gt_t (i := 1034) (by decide +kernel) rfl
theorem cd_yX7_giveRegisters : Cond.code yX7_giveRegisters cX7_giveRegisters 4 none ∈ gt := gt_t (i := 1026) (by decide +kernel) rfl
theorem cd_yX7_mark : Cond.code yX7_mark cX7_mark 4 none ∈ gt := gt_t (i := 1030) (by decide +kernel) rfl
theorem cd_yX7_lowestFree : Cond.code yX7_lowestFree cX7_lowestFree 5 (some .int) ∈ gt := gt_t (i := 1038) (by decide +kernel) rfl
theorem cd_yX7_cutClauses : Cond.code yX7_cutClauses cX7_cutClauses 6 none ∈ gt := gt_t (i := 1042) (by decide +kernel) rfl
theorem cd_yX7_joins : Cond.code yX7_joins cX7_joins 7 (some .boolean) ∈ gt := gt_t (i := 1046) (by decide +kernel) rfl
theorem cd_yX7_cyclesOf : Cond.code yX7_cyclesOf cX7_cyclesOf 3 (some .int) ∈ gt := gt_t (i := 1050) (by decide +kernel) rfl
theorem cd_yX8_init : Cond.code yX8_init cX8_init 4 none ∈ gt := gt_t (i := 37) (by decide +kernel) rfl
theorem cd_yX8_put : Cond.code yX8_put cX8_put 3 none ∈ gt := gt_t (i := 683) (by decide +kernel) rfl
theorem cd_yX8_wipe : Cond.code yX8_wipe cX8_wipe 1 none ∈ gt := gt_t (i := 808) (by decide +kernel) rfl
theorem cd_yX8_rewind : Cond.code yX8_rewind cX8_rewind 1 none ∈ gt := gt_t (i := 699) (by decide +kernel) rfl
theorem cd_yX8_advance : Cond.code yX8_advance cX8_advance 2 none ∈ gt := gt_t (i := 703) (by decide +kernel) rfl
theorem cd_yX8_readWord : Cond.code yX8_readWord cX8_readWord 2 none ∈ gt := gt_t (i := 707) (by decide +kernel) rfl
theorem cd_yX8_readNumeral : Cond.code yX8_readNumeral cX8_readNumeral 1 none ∈ gt := gt_t (i := 711) (by decide +kernel) rfl
theorem cd_yX8_isWord : Cond.code yX8_isWord cX8_isWord 2 (some .boolean) ∈ gt := gt_t (i := 735) (by decide +kernel) rfl
theorem cd_yX9_init : Cond.code yX9_init cX9_init 1 none ∈ gt := gt_t (i := 284) (by decide +kernel) rfl
theorem cd_yX9_start : Cond.code yX9_start cX9_start 4 none ∈ gt := gt_t (i := 816) (by decide +kernel) rfl
theorem cd_yX9_ofOp : Cond.code yX9_ofOp cX9_ofOp 5 (some .int) ∈ gt := gt_t (i := 848) (by decide +kernel) rfl
theorem cd_yX9_single : Cond.code yX9_single cX9_single 7 (some .int) ∈ gt := gt_t (i := 820) (by decide +kernel) rfl
theorem cd_yX9_isShown : Cond.code yX9_isShown cX9_isShown 3 (some .boolean) ∈ gt := gt_t (i := 1146) (by decide +kernel) rfl
theorem cd_yX9_copyFrom : Cond.code yX9_copyFrom cX9_copyFrom 3 none ∈ gt := gt_t (i := 894) (by decide +kernel) rfl
theorem cd_yX10_init : Cond.code yX10_init cX10_init 1 none ∈ gt := gt_t (i := 278) (by decide +kernel) rfl
theorem cd_yX10_work : Cond.code yX10_work cX10_work 4 (some .int) ∈ gt := gt_t (i := 812) (by decide +kernel) rfl
theorem cd_yX10_countLine : Cond.code yX10_countLine cX10_countLine 4 none ∈ gt := gt_t (i := 826) (by decide +kernel) rfl
theorem cd_yX10_tooMany : Cond.code yX10_tooMany cX10_tooMany 2 none ∈ gt := gt_t (i := 830) (by decide +kernel) rfl
theorem cd_yX10_workLine : Cond.code yX10_workLine cX10_workLine 3 (some .int) ∈ gt := gt_t (i := 834) (by decide +kernel) rfl
theorem cd_yX10_beginTimes : Cond.code yX10_beginTimes cX10_beginTimes 2 none ∈ gt := gt_t (i := 874) (by decide +kernel) rfl
theorem cd_yX10_endFirstPart : Cond.code yX10_endFirstPart cX10_endFirstPart 2 none ∈ gt := gt_t (i := 870) (by decide +kernel) rfl
theorem cd_yX10_workIs : Cond.code yX10_workIs cX10_workIs 5 none ∈ gt := gt_t (i := 838) (by decide +kernel) rfl
theorem cd_yX10_workShow : Cond.code yX10_workShow cX10_workShow 4 none ∈ gt := gt_t (i := 859) (by decide +kernel) rfl
theorem cd_yX10_argValue : Cond.code yX10_argValue cX10_argValue 6 (some .int) ∈ gt := gt_t (i := 843) (by decide +kernel) rfl
theorem cd_yX10_keep : Cond.code yX10_keep cX10_keep 4 none ∈ gt := gt_t (i := 855) (by decide +kernel) rfl
theorem cd_yX10_beginWhen : Cond.code yX10_beginWhen cX10_beginWhen 4 none ∈ gt := gt_t (i := 863) (by decide +kernel) rfl
theorem cd_yX10_endTimes : Cond.code yX10_endTimes cX10_endTimes 3 (some .int) ∈ gt := gt_t (i := 882) (by decide +kernel) rfl
theorem cd_yX10_endWhen : Cond.code yX10_endWhen cX10_endWhen 6 (some .int) ∈ gt := gt_t (i := 886) (by decide +kernel) rfl
theorem cd_yX11_init : Cond.code yX11_init cX11_init 1 none ∈ gt := gt_t (i := 29) (by decide +kernel) rfl
theorem cd_yX11_feed : Cond.code yX11_feed cX11_feed 7 (some .int) ∈ gt := gt_t (i := 675) (by decide +kernel) rfl
theorem cd_yX11_feedEight : Cond.code yX11_feedEight cX11_feedEight 4 none ∈ gt := gt_t (i := 679) (by decide +kernel) rfl
theorem cd_yX11_shader : Cond.code yX11_shader cX11_shader 3 (some .int) ∈ gt := gt_t (i := 687) (by decide +kernel) rfl
theorem cd_yX11_refresh : Cond.code yX11_refresh cX11_refresh 1 none ∈ gt := gt_t (i := 903) (by decide +kernel) rfl
theorem cd_yX11_set : Cond.code yX11_set cX11_set 6 (some .int) ∈ gt := gt_t (i := 1054) (by decide +kernel) rfl
theorem cd_yX11_cell : Cond.code yX11_cell cX11_cell 4 (some .int) ∈ gt := gt_t (i := 1065) (by decide +kernel) rfl
theorem cd_yX11_rule : Cond.code yX11_rule cX11_rule 3 (some .int) ∈ gt := gt_t (i := 1069) (by decide +kernel) rfl
theorem cd_yX11_narrow : Cond.code yX11_narrow cX11_narrow 4 (some .boolean) ∈ gt := gt_t (i := 1073) (by decide +kernel) rfl
theorem cd_yX11_input : Cond.code yX11_input cX11_input 3 (some .int) ∈ gt := gt_t (i := 1084) (by decide +kernel) rfl
theorem cd_yX11_value : Cond.code yX11_value cX11_value 3 (some .int) ∈ gt := gt_t (i := 1088) (by decide +kernel) rfl
theorem cd_yX11_range : Cond.code yX11_range cX11_range 3 (some .int) ∈ gt := gt_t (i := 1098) (by decide +kernel) rfl
theorem cd_yX11_is : Cond.code yX11_is cX11_is 3 (some .int) ∈ gt := gt_t (i := 1103) (by decide +kernel) rfl
theorem cd_yX11_differs : Cond.code yX11_differs cX11_differs 5 (some .int) ∈ gt := gt_t (i := 1125) (by decide +kernel) rfl
theorem cd_yX11_shown : Cond.code yX11_shown cX11_shown 2 (some .int) ∈ gt := gt_t (i := 1129) (by decide +kernel) rfl
theorem cd_yX11_walked : Cond.code yX11_walked cX11_walked 3 (some .int) ∈ gt := gt_t (i := 1261) (by decide +kernel) rfl
theorem cd_yX11_ran : Cond.code yX11_ran cX11_ran 3 (some .int) ∈ gt := gt_t (i := 1354) (by decide +kernel) rfl
theorem cd_yX11_all : Cond.code yX11_all cX11_all 5 (some .long) ∈ gt := gt_t (i := 1137) (by decide +kernel) rfl
theorem cd_yX11_belongs : Cond.code yX11_belongs cX11_belongs 3 (some .boolean) ∈ gt := gt_t (i := 1141) (by decide +kernel) rfl
theorem cd_yX11_kin : Cond.code yX11_kin cX11_kin 3 (some .long) ∈ gt := gt_t (i := 1150) (by decide +kernel) rfl
theorem cd_yX11_order : Cond.code yX11_order cX11_order 2 (some .int) ∈ gt := gt_t (i := 1154) (by decide +kernel) rfl
theorem cd_yX11_place : Cond.code yX11_place cX11_place 3 (some .int) ∈ gt := gt_t (i := 1162) (by decide +kernel) rfl
theorem cd_yX11_pressure : Cond.code yX11_pressure cX11_pressure 2 (some .int) ∈ gt := gt_t (i := 1172) (by decide +kernel) rfl
theorem cd_yX11_at : Cond.code yX11_at cX11_at 4 (some .int) ∈ gt := gt_t (i := 1176) (by decide +kernel) rfl
theorem cd_yX11_used : Cond.code yX11_used cX11_used 2 (some .int) ∈ gt := gt_t (i := 1180) (by decide +kernel) rfl
theorem cd_yX11_clause : Cond.code yX11_clause cX11_clause 3 (some .int) ∈ gt := gt_t (i := 1184) (by decide +kernel) rfl
theorem cd_yX11_by : Cond.code yX11_by cX11_by 3 (some .int) ∈ gt := gt_t (i := 1188) (by decide +kernel) rfl
theorem cd_yX11_alone : Cond.code yX11_alone cX11_alone 3 (some .int) ∈ gt := gt_t (i := 1199) (by decide +kernel) rfl
theorem cd_yX11_narrowed : Cond.code yX11_narrowed cX11_narrowed 7 (some .int) ∈ gt := gt_t (i := 1203) (by decide +kernel) rfl
theorem cd_yX11_swapped : Cond.code yX11_swapped cX11_swapped 5 (some .int) ∈ gt := gt_t (i := 1215) (by decide +kernel) rfl
theorem cd_yX11_imagine : Cond.code yX11_imagine cX11_imagine 3 none ∈ gt := gt_t (i := 1192) (by decide +kernel) rfl
theorem cd_yX11_cost : Cond.code yX11_cost cX11_cost 2 (some .int) ∈ gt := gt_t (i := 1195) (by decide +kernel) rfl
theorem cd_yX11_best : Cond.code yX11_best cX11_best 1 (some .int) ∈ gt := gt_t (i := 1220) (by decide +kernel) rfl
theorem cd_yX11_parts : Cond.code yX11_parts cX11_parts 2 (some .int) ∈ gt := gt_t (i := 1249) (by decide +kernel) rfl
theorem cd_yX11_count : Cond.code yX11_count cX11_count 2 (some .int) ∈ gt := gt_t (i := 1253) (by decide +kernel) rfl
theorem cd_yX11_isInput : Cond.code yX11_isInput cX11_isInput 2 (some .boolean) ∈ gt := gt_t (i := 1058) (by decide +kernel) rfl
theorem cd_yX11_isValue : Cond.code yX11_isValue cX11_isValue 2 (some .boolean) ∈ gt := gt_t (i := 1092) (by decide +kernel) rfl
theorem cd_yX11_isShown : Cond.code yX11_isShown cX11_isShown 2 (some .boolean) ∈ gt := gt_t (i := 1133) (by decide +kernel) rfl
theorem cd_yX11_isPlace : Cond.code yX11_isPlace cX11_isPlace 2 (some .boolean) ∈ gt := gt_t (i := 1158) (by decide +kernel) rfl
theorem cd_yX11_isLane : Cond.code yX11_isLane cX11_isLane 1 (some .boolean) ∈ gt := gt_t (i := 1061) (by decide +kernel) rfl
theorem cd_yX11_isRange : Cond.code yX11_isRange cX11_isRange 2 (some .boolean) ∈ gt := gt_t (i := 1076) (by decide +kernel) rfl
theorem cd_yX11_argsOf : Cond.code yX11_argsOf cX11_argsOf 1 (some .int) ∈ gt := gt_t (i := 745) (by decide +kernel) rfl
theorem cd_yX11_typeTaken : Cond.code yX11_typeTaken cX11_typeTaken 1 (some .int) ∈ gt := gt_t (i := 752) (by decide +kernel) rfl
theorem cd_yX11_typeMade : Cond.code yX11_typeMade cX11_typeMade 1 (some .int) ∈ gt := gt_t (i := 742) (by decide +kernel) rfl
theorem cd_yX11_goesEitherWay : Cond.code yX11_goesEitherWay cX11_goesEitherWay 1 (some .boolean) ∈ gt := gt_t (i := 851) (by decide +kernel) rfl
theorem cd_yX11_held : Cond.code yX11_held cX11_held 2 (some .int) ∈ gt := gt_t (i := 932) (by decide +kernel) rfl
theorem cd_yX11_made : Cond.code yX11_made cX11_made 5 (some .int) ∈ gt := gt_t (i := 1115) (by decide +kernel) rfl
theorem cd_yX12_thrown : Cond.code yX12_thrown cX12_thrown 1 (some .int) ∈ gt := gt_t (i := 1369) (by decide +kernel) rfl
theorem cd_yX12_feed : Cond.code yX12_feed cX12_feed 7 (some .int) ∈ gt := gt_t (i := 1373) (by decide +kernel) rfl
theorem cd_yX12_lay : Cond.code yX12_lay cX12_lay 5 none ∈ gt := gt_t (i := 1378) (by decide +kernel) rfl
theorem cd_yX12_isLetter : Cond.code yX12_isLetter cX12_isLetter 1 (some .boolean) ∈ gt := gt_t (i := 1584) (by decide +kernel) rfl
theorem cd_yX12_isDigit : Cond.code yX12_isDigit cX12_isDigit 1 (some .boolean) ∈ gt := gt_t (i := 1587) (by decide +kernel) rfl
theorem cd_yX12_behindRun : Cond.code yX12_behindRun cX12_behindRun 4 (some .int) ∈ gt := gt_t (i := 1591) (by decide +kernel) rfl
theorem cd_yX12_worthOf : Cond.code yX12_worthOf cX12_worthOf 7 (some .long) ∈ gt := gt_t (i := 1595) (by decide +kernel) rfl
theorem cd_yX12_cutAll : Cond.code yX12_cutAll cX12_cutAll 7 none ∈ gt := gt_t (i := 1581) (by decide +kernel) rfl
theorem cd_yX12_wrong : Cond.code yX12_wrong cX12_wrong 2 none ∈ gt := gt_t (i := 1619) (by decide +kernel) rfl
theorem cd_yX12_isWord : Cond.code yX12_isWord cX12_isWord 2 (some .boolean) ∈ gt := gt_t (i := 1611) (by decide +kernel) rfl
theorem cd_yX12_takeWord : Cond.code yX12_takeWord cX12_takeWord 3 none ∈ gt := gt_t (i := 1682) (by decide +kernel) rfl
theorem cd_yX12_takeEnd : Cond.code yX12_takeEnd cX12_takeEnd 1 none ∈ gt := gt_t (i := 1692) (by decide +kernel) rfl
theorem cd_yX12_wordHere : Cond.code yX12_wordHere cX12_wordHere 5 (some .int) ∈ gt := gt_t (i := 1607) (by decide +kernel) rfl
theorem cd_yX12_isName : Cond.code yX12_isName cX12_isName 1 (some .boolean) ∈ gt := gt_t (i := 1627) (by decide +kernel) rfl
theorem cd_yX12_takeNumber : Cond.code yX12_takeNumber cX12_takeNumber 3 (some .int) ∈ gt := gt_t (i := 1635) (by decide +kernel) rfl
theorem cd_yX12_within : Cond.code yX12_within cX12_within 3 (some .boolean) ∈ gt := gt_t (i := 1748) (by decide +kernel) rfl
theorem cd_yX12_init : Cond.code yX12_init cX12_init 1 none ∈ gt := gt_t (i := 1382) (by decide +kernel) rfl
theorem cd_yX12_clears : Cond.code yX12_clears cX12_clears 3 none ∈ gt := gt_t (i := 1410) (by decide +kernel) rfl
theorem cd_yX12_nameAt : Cond.code yX12_nameAt cX12_nameAt 3 (some .int) ∈ gt := gt_t (i := 1631) (by decide +kernel) rfl
theorem cd_yX12_newLine : Cond.code yX12_newLine cX12_newLine 4 (some .int) ∈ gt := gt_t (i := 1623) (by decide +kernel) rfl
theorem cd_yX12_isWithinWhen : Cond.code yX12_isWithinWhen cX12_isWithinWhen 3 (some .boolean) ∈ gt := gt_t (i := 1674) (by decide +kernel) rfl
theorem cd_yX12_tells : Cond.code yX12_tells cX12_tells 4 none ∈ gt := gt_t (i := 1639) (by decide +kernel) rfl
theorem cd_yX12_readInput : Cond.code yX12_readInput cX12_readInput 9 none ∈ gt := gt_t (i := 1615) (by decide +kernel) rfl
theorem cd_yX12_readLimit : Cond.code yX12_readLimit cX12_readLimit 5 none ∈ gt := gt_t (i := 1643) (by decide +kernel) rfl
theorem cd_yX12_typeOf : Cond.code yX12_typeOf cX12_typeOf 1 (some .int) ∈ gt := gt_t (i := 1654) (by decide +kernel) rfl
theorem cd_yX12_takeArg : Cond.code yX12_takeArg cX12_takeArg 5 none ∈ gt := gt_t (i := 1651) (by decide +kernel) rfl
theorem cd_yX12_makesFlag : Cond.code yX12_makesFlag cX12_makesFlag 1 (some .boolean) ∈ gt := gt_t (i := 1685) (by decide +kernel) rfl
theorem cd_yX12_argsOf : Cond.code yX12_argsOf cX12_argsOf 1 (some .int) ∈ gt := gt_t (i := 1688) (by decide +kernel) rfl
theorem cd_yX12_readIs : Cond.code yX12_readIs cX12_readIs 9 none ∈ gt := gt_t (i := 1678) (by decide +kernel) rfl
theorem cd_yX12_opens : Cond.code yX12_opens cX12_opens 3 none ∈ gt := gt_t (i := 1658) (by decide +kernel) rfl
theorem cd_yX12_readBlock : Cond.code yX12_readBlock cX12_readBlock 3 none ∈ gt := gt_t (i := 1647) (by decide +kernel) rfl
theorem cd_yX12_readElse : Cond.code yX12_readElse cX12_readElse 2 none ∈ gt := gt_t (i := 1662) (by decide +kernel) rfl
theorem cd_yX12_readEnd : Cond.code yX12_readEnd cX12_readEnd 4 none ∈ gt := gt_t (i := 1666) (by decide +kernel) rfl
theorem cd_yX12_readShow : Cond.code yX12_readShow cX12_readShow 2 none ∈ gt := gt_t (i := 1670) (by decide +kernel) rfl
theorem cd_yX12_readLine : Cond.code yX12_readLine cX12_readLine 2 none ∈ gt := gt_t (i := 1603) (by decide +kernel) rfl
theorem cd_yX12_shader : Cond.code yX12_shader cX12_shader 3 (some .int) ∈ gt := gt_t (i := 1577) (by decide +kernel) rfl
theorem cd_yX12_bad : Cond.code yX12_bad cX12_bad 2 none ∈ gt := gt_t (i := 1708) (by decide +kernel) rfl
theorem cd_yX12_new1 : Cond.code yX12_new1 cX12_new1 2 (some .int) ∈ gt := gt_t (i := 1704) (by decide +kernel) rfl
theorem cd_yX12_made : Cond.code yX12_made cX12_made 9 (some .int) ∈ gt := gt_t (i := 1700) (by decide +kernel) rfl
theorem cd_yX12_argValue : Cond.code yX12_argValue cX12_argValue 2 (some .int) ∈ gt := gt_t (i := 1716) (by decide +kernel) rfl
theorem cd_yX12_goesEitherWay : Cond.code yX12_goesEitherWay cX12_goesEitherWay 1 (some .boolean) ∈ gt := gt_t (i := 1719) (by decide +kernel) rfl
theorem cd_yX12_opValue : Cond.code yX12_opValue cX12_opValue 8 (some .int) ∈ gt := gt_t (i := 1712) (by decide +kernel) rfl
theorem cd_yX12_isUniformRead : Cond.code yX12_isUniformRead cX12_isUniformRead 6 (some .boolean) ∈ gt := gt_t (i := 1723) (by decide +kernel) rfl
theorem cd_yX12_closes : Cond.code yX12_closes cX12_closes 8 none ∈ gt := gt_t (i := 1730) (by decide +kernel) rfl
theorem cd_yX12_works : Cond.code yX12_works cX12_works 7 none ∈ gt := gt_t (i := 1696) (by decide +kernel) rfl
theorem cd_yX12_moves : Cond.code yX12_moves cX12_moves 5 none ∈ gt := gt_t (i := 1726) (by decide +kernel) rfl
theorem cd_yX12_inputs : Cond.code yX12_inputs cX12_inputs 1 (some .int) ∈ gt := gt_t (i := 1734) (by decide +kernel) rfl
theorem cd_yX12_values : Cond.code yX12_values cX12_values 1 (some .int) ∈ gt := gt_t (i := 1779) (by decide +kernel) rfl
theorem cd_yX12_howOf : Cond.code yX12_howOf cX12_howOf 2 (some .int) ∈ gt := gt_t (i := 1788) (by decide +kernel) rfl
theorem cd_yX12_argOf : Cond.code yX12_argOf cX12_argOf 3 (some .int) ∈ gt := gt_t (i := 1792) (by decide +kernel) rfl
theorem cd_yX12_isInput : Cond.code yX12_isInput cX12_isInput 2 (some .boolean) ∈ gt := gt_t (i := 1742) (by decide +kernel) rfl
theorem cd_yX12_isValue : Cond.code yX12_isValue cX12_isValue 2 (some .boolean) ∈ gt := gt_t (i := 1775) (by decide +kernel) rfl
theorem cd_yX12_isLane : Cond.code yX12_isLane cX12_isLane 1 (some .boolean) ∈ gt := gt_t (i := 1745) (by decide +kernel) rfl
theorem cd_yX12_isRange : Cond.code yX12_isRange cX12_isRange 2 (some .boolean) ∈ gt := gt_t (i := 1763) (by decide +kernel) rfl
theorem cd_yX12_set : Cond.code yX12_set cX12_set 7 (some .int) ∈ gt := gt_t (i := 1738) (by decide +kernel) rfl
theorem cd_yX12_cell : Cond.code yX12_cell cX12_cell 4 (some .int) ∈ gt := gt_t (i := 1752) (by decide +kernel) rfl
theorem cd_yX12_rule : Cond.code yX12_rule cX12_rule 3 (some .int) ∈ gt := gt_t (i := 1756) (by decide +kernel) rfl
theorem cd_yX12_narrow : Cond.code yX12_narrow cX12_narrow 6 (some .boolean) ∈ gt := gt_t (i := 1760) (by decide +kernel) rfl
theorem cd_yX12_input : Cond.code yX12_input cX12_input 3 (some .int) ∈ gt := gt_t (i := 1767) (by decide +kernel) rfl
theorem cd_yX12_held : Cond.code yX12_held cX12_held 2 (some .int) ∈ gt := gt_t (i := 1811) (by decide +kernel) rfl
theorem cd_yX12_lesser : Cond.code yX12_lesser cX12_lesser 2 (some .int) ∈ gt := gt_t (i := 1822) (by decide +kernel) rfl
theorem cd_yX12_greater : Cond.code yX12_greater cX12_greater 2 (some .int) ∈ gt := gt_t (i := 1825) (by decide +kernel) rfl
theorem cd_yX12_worked : Cond.code yX12_worked cX12_worked 5 (some .int) ∈ gt := gt_t (i := 1845) (by decide +kernel) rfl
theorem cd_yX12_numberOf : Cond.code yX12_numberOf cX12_numberOf 3 (some .int) ∈ gt := gt_t (i := 1841) (by decide +kernel) rfl
theorem cd_yX12_numbersIn : Cond.code yX12_numbersIn cX12_numbersIn 4 none ∈ gt := gt_t (i := 1837) (by decide +kernel) rfl
theorem cd_yX12_rangeIs : Cond.code yX12_rangeIs cX12_rangeIs 4 none ∈ gt := gt_t (i := 1796) (by decide +kernel) rfl
theorem cd_yX12_lowOf : Cond.code yX12_lowOf cX12_lowOf 3 (some .int) ∈ gt := gt_t (i := 1804) (by decide +kernel) rfl
theorem cd_yX12_highOf : Cond.code yX12_highOf cX12_highOf 3 (some .int) ∈ gt := gt_t (i := 1808) (by decide +kernel) rfl
theorem cd_yX12_timesRange : Cond.code yX12_timesRange cX12_timesRange 8 none ∈ gt := gt_t (i := 1819) (by decide +kernel) rfl
theorem cd_yX12_pickRange : Cond.code yX12_pickRange cX12_pickRange 6 none ∈ gt := gt_t (i := 1829) (by decide +kernel) rfl
theorem cd_yX12_rangeOf : Cond.code yX12_rangeOf cX12_rangeOf 7 none ∈ gt := gt_t (i := 1800) (by decide +kernel) rfl
theorem cd_yX12_rangesWith : Cond.code yX12_rangesWith cX12_rangesWith 9 none ∈ gt := gt_t (i := 1784) (by decide +kernel) rfl
theorem cd_yX12_isKnown : Cond.code yX12_isKnown cX12_isKnown 2 (some .boolean) ∈ gt := gt_t (i := 1893) (by decide +kernel) rfl
theorem cd_yX12_isLow : Cond.code yX12_isLow cX12_isLow 2 (some .boolean) ∈ gt := gt_t (i := 1908) (by decide +kernel) rfl
theorem cd_yX12_widthOf : Cond.code yX12_widthOf cX12_widthOf 2 (some .int) ∈ gt := gt_t (i := 1904) (by decide +kernel) rfl
theorem cd_yX12_range : Cond.code yX12_range cX12_range 3 (some .int) ∈ gt := gt_t (i := 1771) (by decide +kernel) rfl
theorem cd_yX12_is : Cond.code yX12_is cX12_is 3 (some .int) ∈ gt := gt_t (i := 1833) (by decide +kernel) rfl
theorem cd_yX12_differs : Cond.code yX12_differs cX12_differs 5 (some .int) ∈ gt := gt_t (i := 1849) (by decide +kernel) rfl
theorem cd_yX12_shown : Cond.code yX12_shown cX12_shown 2 (some .int) ∈ gt := gt_t (i := 1853) (by decide +kernel) rfl
theorem cd_yX12_argNumber : Cond.code yX12_argNumber cX12_argNumber 2 (some .int) ∈ gt := gt_t (i := 1873) (by decide +kernel) rfl
theorem cd_yX12_opNumber : Cond.code yX12_opNumber cX12_opNumber 7 (some .int) ∈ gt := gt_t (i := 1869) (by decide +kernel) rfl
theorem cd_yX12_nextLine : Cond.code yX12_nextLine cX12_nextLine 4 (some .int) ∈ gt := gt_t (i := 1877) (by decide +kernel) rfl
theorem cd_yX12_walk : Cond.code yX12_walk cX12_walk 8 (some .int) ∈ gt := gt_t (i := 1865) (by decide +kernel) rfl
theorem cd_yX12_isShown : Cond.code yX12_isShown cX12_isShown 3 (some .boolean) ∈ gt := gt_t (i := 1861) (by decide +kernel) rfl
theorem cd_yX12_walked : Cond.code yX12_walked cX12_walked 3 (some .int) ∈ gt := gt_t (i := 1857) (by decide +kernel) rfl
theorem cd_yX12_has : Cond.code yX12_has cX12_has 3 (some .boolean) ∈ gt := gt_t (i := 1900) (by decide +kernel) rfl
theorem cd_yX12_manyOf : Cond.code yX12_manyOf cX12_manyOf 4 (some .int) ∈ gt := gt_t (i := 1976) (by decide +kernel) rfl
theorem cd_yX12_shownSet : Cond.code yX12_shownSet cX12_shownSet 5 (some .long) ∈ gt := gt_t (i := 1897) (by decide +kernel) rfl
theorem cd_yX12_needs : Cond.code yX12_needs cX12_needs 6 none ∈ gt := gt_t (i := 1889) (by decide +kernel) rfl
theorem cd_yX12_all0 : Cond.code yX12_all0 cX12_all0 1 none ∈ gt := gt_t (i := 1885) (by decide +kernel) rfl
theorem cd_yX12_farKin : Cond.code yX12_farKin cX12_farKin 7 (some .long) ∈ gt := gt_t (i := 1924) (by decide +kernel) rfl
theorem cd_yX12_isNeeded : Cond.code yX12_isNeeded cX12_isNeeded 2 (some .boolean) ∈ gt := gt_t (i := 1920) (by decide +kernel) rfl
theorem cd_yX12_value : Cond.code yX12_value cX12_value 3 (some .int) ∈ gt := gt_t (i := 1881) (by decide +kernel) rfl
theorem cd_yX12_all : Cond.code yX12_all cX12_all 6 (some .long) ∈ gt := gt_t (i := 1912) (by decide +kernel) rfl
theorem cd_yX12_kin : Cond.code yX12_kin cX12_kin 3 (some .long) ∈ gt := gt_t (i := 1916) (by decide +kernel) rfl
theorem cd_yX12_growth : Cond.code yX12_growth cX12_growth 7 (some .int) ∈ gt := gt_t (i := 1945) (by decide +kernel) rfl
theorem cd_yX12_goesAhead : Cond.code yX12_goesAhead cX12_goesAhead 6 (some .boolean) ∈ gt := gt_t (i := 1941) (by decide +kernel) rfl
theorem cd_yX12_orders : Cond.code yX12_orders cX12_orders 7 none ∈ gt := gt_t (i := 1936) (by decide +kernel) rfl
theorem cd_yX12_lives : Cond.code yX12_lives cX12_lives 4 none ∈ gt := gt_t (i := 1949) (by decide +kernel) rfl
theorem cd_yX12_fileOf : Cond.code yX12_fileOf cX12_fileOf 2 (some .int) ∈ gt := gt_t (i := 1965) (by decide +kernel) rfl
theorem cd_yX12_livesAt : Cond.code yX12_livesAt cX12_livesAt 6 (some .int) ∈ gt := gt_t (i := 1988) (by decide +kernel) rfl
theorem cd_yX12_most : Cond.code yX12_most cX12_most 4 (some .int) ∈ gt := gt_t (i := 1984) (by decide +kernel) rfl
theorem cd_yX12_isFree : Cond.code yX12_isFree cX12_isFree 4 (some .boolean) ∈ gt := gt_t (i := 1969) (by decide +kernel) rfl
theorem cd_yX12_registers : Cond.code yX12_registers cX12_registers 7 none ∈ gt := gt_t (i := 1961) (by decide +kernel) rfl
theorem cd_yX12_costOf : Cond.code yX12_costOf cX12_costOf 3 (some .int) ∈ gt := gt_t (i := 1957) (by decide +kernel) rfl
theorem cd_yX12_cuts : Cond.code yX12_cuts cX12_cuts 9 none ∈ gt := gt_t (i := 1953) (by decide +kernel) rfl
theorem cd_yX12_plans : Cond.code yX12_plans cX12_plans 1 none ∈ gt := gt_t (i := 1932) (by decide +kernel) rfl
theorem cd_yX12_order : Cond.code yX12_order cX12_order 2 (some .int) ∈ gt := gt_t (i := 1928) (by decide +kernel) rfl
theorem cd_yX12_place : Cond.code yX12_place cX12_place 3 (some .int) ∈ gt := gt_t (i := 1973) (by decide +kernel) rfl
theorem cd_yX12_pressure : Cond.code yX12_pressure cX12_pressure 2 (some .int) ∈ gt := gt_t (i := 1980) (by decide +kernel) rfl
theorem cd_yX12_at : Cond.code yX12_at cX12_at 3 (some .int) ∈ gt := gt_t (i := 1992) (by decide +kernel) rfl
theorem cd_yX12_used : Cond.code yX12_used cX12_used 2 (some .int) ∈ gt := gt_t (i := 1996) (by decide +kernel) rfl
theorem cd_yX12_clause : Cond.code yX12_clause cX12_clause 3 (some .int) ∈ gt := gt_t (i := 2000) (by decide +kernel) rfl
theorem cd_yX12_tell : Cond.code yX12_tell cX12_tell 2 (some .int) ∈ gt := gt_t (i := 2008) (by decide +kernel) rfl
theorem cd_yX12_by : Cond.code yX12_by cX12_by 3 (some .int) ∈ gt := gt_t (i := 2004) (by decide +kernel) rfl
theorem cd_yX12_alone : Cond.code yX12_alone cX12_alone 3 (some .int) ∈ gt := gt_t (i := 2012) (by decide +kernel) rfl
theorem cd_yX12_howMany : Cond.code yX12_howMany cX12_howMany 4 (some .int) ∈ gt := gt_t (i := 2020) (by decide +kernel) rfl
theorem cd_yX12_narrowed : Cond.code yX12_narrowed cX12_narrowed 5 (some .int) ∈ gt := gt_t (i := 2016) (by decide +kernel) rfl
theorem cd_yX12_swapped : Cond.code yX12_swapped cX12_swapped 4 (some .int) ∈ gt := gt_t (i := 2024) (by decide +kernel) rfl
theorem cd_yX12_argRun : Cond.code yX12_argRun cX12_argRun 4 (some .int) ∈ gt := gt_t (i := 2032) (by decide +kernel) rfl
theorem cd_yX12_ran : Cond.code yX12_ran cX12_ran 7 (some .int) ∈ gt := gt_t (i := 2028) (by decide +kernel) rfl
theorem cd_yX12_livesIn : Cond.code yX12_livesIn cX12_livesIn 8 (some .int) ∈ gt := gt_t (i := 2048) (by decide +kernel) rfl
theorem cd_yX12_comesBehind : Cond.code yX12_comesBehind cX12_comesBehind 7 (some .boolean) ∈ gt := gt_t (i := 2044) (by decide +kernel) rfl
theorem cd_yX12_canBe : Cond.code yX12_canBe cX12_canBe 6 (some .boolean) ∈ gt := gt_t (i := 2040) (by decide +kernel) rfl
theorem cd_yX12_best : Cond.code yX12_best cX12_best 4 (some .int) ∈ gt := gt_t (i := 2036) (by decide +kernel) rfl
theorem cd_yX12_parts : Cond.code yX12_parts cX12_parts 2 (some .int) ∈ gt := gt_t (i := 2052) (by decide +kernel) rfl
theorem cd_yX12_count : Cond.code yX12_count cX12_count 2 (some .int) ∈ gt := gt_t (i := 2056) (by decide +kernel) rfl
theorem cd_yJ13_bitCount_95d88 : Cond.code yJ13_bitCount_95d88 cJ13_bitCount_95d88 2 (some .int) ∈ gt := gt_t (i := 1165) (by decide +kernel) rfl
theorem cd_yJ9_floorMod_7cf53 : Cond.code yJ9_floorMod_7cf53 cJ9_floorMod_7cf53 3 (some .int) ∈ gt := gt_t (i := 1121) (by decide +kernel) rfl
theorem cd_yJ9_max_7cf53 : Cond.code yJ9_max_7cf53 cJ9_max_7cf53 2 (some .int) ∈ gt := gt_t (i := 925) (by decide +kernel) rfl
theorem cd_yJ9_max_f86c9 : Cond.code yJ9_max_f86c9 cJ9_max_f86c9 4 (some .long) ∈ gt := gt_t (i := 940) (by decide +kernel) rfl
theorem cd_yJ9_min_7cf53 : Cond.code yJ9_min_7cf53 cJ9_min_7cf53 2 (some .int) ∈ gt := gt_t (i := 922) (by decide +kernel) rfl
theorem cd_yJ9_min_f86c9 : Cond.code yJ9_min_f86c9 cJ9_min_f86c9 4 (some .long) ∈ gt := gt_t (i := 937) (by decide +kernel) rfl
theorem cd_yJ0_length_8abf5 : Cond.code yJ0_length_8abf5 cJ0_length_8abf5 1 (some .int) ∈ gt := gt_t (i := 43) (by decide +kernel) rfl
theorem cd_yJ0_charAt_5068e : Cond.code yJ0_charAt_5068e cJ0_charAt_5068e 2 (some .char) ∈ gt := gt_t (i := 53) (by decide +kernel) rfl
theorem cd_yJ0_coder_7d493 : Cond.code yJ0_coder_7d493 cJ0_coder_7d493 1 (some .byte) ∈ gt := gt_t (i := 47) (by decide +kernel) rfl
theorem cd_yJ0_isLatin1_aae02 : Cond.code yJ0_isLatin1_aae02 cJ0_isLatin1_aae02 1 (some .boolean) ∈ gt := gt_t (i := 57) (by decide +kernel) rfl
theorem cd_yJ0_checkIndex_df160 : Cond.code yJ0_checkIndex_df160 cJ0_checkIndex_df160 2 none ∈ gt := gt_t (i := 63) (by decide +kernel) rfl
theorem cd_yJ1_charAt_3b067 : Cond.code yJ1_charAt_3b067 cJ1_charAt_3b067 2 (some .char) ∈ gt := gt_t (i := 60) (by decide +kernel) rfl
theorem cd_yJ2_getChar_3b067 : Cond.code yJ2_getChar_3b067 cJ2_getChar_3b067 2 (some .char) ∈ gt := gt_t (i := 81) (by decide +kernel) rfl
theorem cd_yJ2_length_9d52b : Cond.code yJ2_length_9d52b cJ2_length_9d52b 1 (some .int) ∈ gt := gt_t (i := 77) (by decide +kernel) rfl
theorem cd_yJ2_charAt_3b067 : Cond.code yJ2_charAt_3b067 cJ2_charAt_3b067 2 (some .char) ∈ gt := gt_t (i := 71) (by decide +kernel) rfl
theorem cd_yJ2_checkIndex_2214a : Cond.code yJ2_checkIndex_2214a cJ2_checkIndex_2214a 2 none ∈ gt := gt_t (i := 74) (by decide +kernel) rfl
theorem cd_yJ3_checkIndex_8e157 : Cond.code yJ3_checkIndex_8e157 cJ3_checkIndex_8e157 3 (some .int) ∈ gt := gt_t (i := 68) (by decide +kernel) rfl
theorem flX11_14 : Cond.fieldLink RX11 14 (TX11 0).1 (TX11 0).2.1 (TX11 0).2.2.1 ∈ gt := gt_t (i := 623) (by decide +kernel) rfl
theorem flX11_23 : Cond.fieldLink RX11 23 (TX11 1).1 (TX11 1).2.1 (TX11 1).2.2.1 ∈ gt := gt_t (i := 624) (by decide +kernel) rfl
theorem flX11_30 : Cond.fieldLink RX11 30 (TX11 2).1 (TX11 2).2.1 (TX11 2).2.2.1 ∈ gt := gt_t (i := 625) (by decide +kernel) rfl
theorem flX11_37 : Cond.fieldLink RX11 37 (TX11 3).1 (TX11 3).2.1 (TX11 3).2.2.1 ∈ gt := gt_t (i := 626) (by decide +kernel) rfl
theorem flX11_44 : Cond.fieldLink RX11 44 (TX11 4).1 (TX11 4).2.1 (TX11 4).2.2.1 ∈ gt := gt_t (i := 627) (by decide +kernel) rfl
theorem flX11_53 : Cond.fieldLink RX11 53 (TX11 5).1 (TX11 5).2.1 (TX11 5).2.2.1 ∈ gt := gt_t (i := 628) (by decide +kernel) rfl
theorem flX11_62 : Cond.fieldLink RX11 62 (TX11 6).1 (TX11 6).2.1 (TX11 6).2.2.1 ∈ gt := gt_t (i := 629) (by decide +kernel) rfl
theorem flX11_71 : Cond.fieldLink RX11 71 (TX11 7).1 (TX11 7).2.1 (TX11 7).2.2.1 ∈ gt := gt_t (i := 630) (by decide +kernel) rfl
theorem flX11_80 : Cond.fieldLink RX11 80 (TX11 8).1 (TX11 8).2.1 (TX11 8).2.2.1 ∈ gt := gt_t (i := 631) (by decide +kernel) rfl
theorem flX11_84 : Cond.fieldLink RX11 84 (TX11 9).1 (TX11 9).2.1 (TX11 9).2.2.1 ∈ gt := gt_t (i := 632) (by decide +kernel) rfl
theorem flX11_87 : Cond.fieldLink RX11 87 (TX11 10).1 (TX11 10).2.1 (TX11 10).2.2.1 ∈ gt := gt_t (i := 633) (by decide +kernel) rfl
theorem flX11_90 : Cond.fieldLink RX11 90 (TX11 11).1 (TX11 11).2.1 (TX11 11).2.2.1 ∈ gt := gt_t (i := 634) (by decide +kernel) rfl
theorem flX11_96 : Cond.fieldLink RX11 96 (TX11 12).1 (TX11 12).2.1 (TX11 12).2.2.1 ∈ gt := gt_t (i := 635) (by decide +kernel) rfl
theorem flX11_103 : Cond.fieldLink RX11 103 (TX11 13).1 (TX11 13).2.1 (TX11 13).2.2.1 ∈ gt := gt_t (i := 636) (by decide +kernel) rfl
theorem flX11_107 : Cond.fieldLink RX11 107 (TX11 14).1 (TX11 14).2.1 (TX11 14).2.2.1 ∈ gt := gt_t (i := 637) (by decide +kernel) rfl
theorem flX11_111 : Cond.fieldLink RX11 111 (TX11 15).1 (TX11 15).2.1 (TX11 15).2.2.1 ∈ gt := gt_t (i := 638) (by decide +kernel) rfl
theorem flX11_118 : Cond.fieldLink RX11 118 (TX8 2).1 (TX8 2).2.1 (TX8 2).2.2.1 ∈ gt := gt_t (i := 91) (by decide +kernel) rfl
theorem flX11_132 : Cond.fieldLink RX11 132 (TX6 1).1 (TX6 1).2.1 (TX6 1).2.2.1 ∈ gt := gt_t (i := 238) (by decide +kernel) rfl
theorem flX11_137 : Cond.fieldLink RX11 137 (TX10 0).1 (TX10 0).2.1 (TX10 0).2.2.1 ∈ gt := gt_t (i := 341) (by decide +kernel) rfl
theorem flX11_148 : Cond.fieldLink RX11 148 (TX0 0).1 (TX0 0).2.1 (TX0 0).2.2.1 ∈ gt := gt_t (i := 381) (by decide +kernel) rfl
theorem flX11_152 : Cond.fieldLink RX11 152 (TX0 1).1 (TX0 1).2.1 (TX0 1).2.2.1 ∈ gt := gt_t (i := 383) (by decide +kernel) rfl
theorem flX11_164 : Cond.fieldLink RX11 164 (TX3 14).1 (TX3 14).2.1 (TX3 14).2.2.1 ∈ gt := gt_t (i := 185) (by decide +kernel) rfl
theorem flX11_167 : Cond.fieldLink RX11 167 (TX3 15).1 (TX3 15).2.1 (TX3 15).2.2.1 ∈ gt := gt_t (i := 188) (by decide +kernel) rfl
theorem flX11_181 : Cond.fieldLink RX11 181 (TX0 2).1 (TX0 2).2.1 (TX0 2).2.2.1 ∈ gt := gt_t (i := 386) (by decide +kernel) rfl
theorem flX11_184 : Cond.fieldLink RX11 184 (TX3 11).1 (TX3 11).2.1 (TX3 11).2.2.1 ∈ gt := gt_t (i := 177) (by decide +kernel) rfl
theorem flX11_188 : Cond.fieldLink RX11 188 (TX0 3).1 (TX0 3).2.1 (TX0 3).2.2.1 ∈ gt := gt_t (i := 389) (by decide +kernel) rfl
theorem flX11_202 : Cond.fieldLink RX11 202 (TX9 1).1 (TX9 1).2.1 (TX9 1).2.2.1 ∈ gt := gt_t (i := 297) (by decide +kernel) rfl
theorem flX11_205 : Cond.fieldLink RX11 205 (TX9 2).1 (TX9 2).2.1 (TX9 2).2.2.1 ∈ gt := gt_t (i := 302) (by decide +kernel) rfl
theorem flX11_208 : Cond.fieldLink RX11 208 (TX9 3).1 (TX9 3).2.1 (TX9 3).2.2.1 ∈ gt := gt_t (i := 305) (by decide +kernel) rfl
theorem flX11_211 : Cond.fieldLink RX11 211 (TX9 4).1 (TX9 4).2.1 (TX9 4).2.2.1 ∈ gt := gt_t (i := 308) (by decide +kernel) rfl
theorem flX11_220 : Cond.fieldLink RX11 220 (TX5 2).1 (TX5 2).2.1 (TX5 2).2.2.1 ∈ gt := gt_t (i := 463) (by decide +kernel) rfl
theorem flX11_223 : Cond.fieldLink RX11 223 (TX5 11).1 (TX5 11).2.1 (TX5 11).2.2.1 ∈ gt := gt_t (i := 484) (by decide +kernel) rfl
theorem flX11_226 : Cond.fieldLink RX11 226 (TX2 3).1 (TX2 3).2.1 (TX2 3).2.2.1 ∈ gt := gt_t (i := 443) (by decide +kernel) rfl
theorem flX11_230 : Cond.fieldLink RX11 230 (TX2 1).1 (TX2 1).2.1 (TX2 1).2.2.1 ∈ gt := gt_t (i := 437) (by decide +kernel) rfl
theorem flX11_233 : Cond.fieldLink RX11 233 (TX2 2).1 (TX2 2).2.1 (TX2 2).2.2.1 ∈ gt := gt_t (i := 439) (by decide +kernel) rfl
theorem flX11_243 : Cond.fieldLink RX11 243 (TX9 6).1 (TX9 6).2.1 (TX9 6).2.2.1 ∈ gt := gt_t (i := 317) (by decide +kernel) rfl
theorem flX11_261 : Cond.fieldLink RX11 261 (TX9 0).1 (TX9 0).2.1 (TX9 0).2.2.1 ∈ gt := gt_t (i := 291) (by decide +kernel) rfl
theorem flX11_271 : Cond.fieldLink RX11 271 (TX5 7).1 (TX5 7).2.1 (TX5 7).2.2.1 ∈ gt := gt_t (i := 473) (by decide +kernel) rfl
theorem flX11_275 : Cond.fieldLink RX11 275 (TX5 8).1 (TX5 8).2.1 (TX5 8).2.2.1 ∈ gt := gt_t (i := 477) (by decide +kernel) rfl
theorem flX11_278 : Cond.fieldLink RX11 278 (TX5 9).1 (TX5 9).2.1 (TX5 9).2.2.1 ∈ gt := gt_t (i := 479) (by decide +kernel) rfl
theorem flX11_281 : Cond.fieldLink RX11 281 (TX5 10).1 (TX5 10).2.1 (TX5 10).2.2.1 ∈ gt := gt_t (i := 481) (by decide +kernel) rfl
theorem flX11_287 : Cond.fieldLink RX11 287 (TX7 3).1 (TX7 3).2.1 (TX7 3).2.2.1 ∈ gt := gt_t (i := 524) (by decide +kernel) rfl
theorem flX11_290 : Cond.fieldLink RX11 290 (TX7 5).1 (TX7 5).2.1 (TX7 5).2.2.1 ∈ gt := gt_t (i := 529) (by decide +kernel) rfl
theorem flX11_293 : Cond.fieldLink RX11 293 (TX7 6).1 (TX7 6).2.1 (TX7 6).2.2.1 ∈ gt := gt_t (i := 531) (by decide +kernel) rfl
theorem flX11_296 : Cond.fieldLink RX11 296 (TX7 9).1 (TX7 9).2.1 (TX7 9).2.2.1 ∈ gt := gt_t (i := 537) (by decide +kernel) rfl
theorem flX11_299 : Cond.fieldLink RX11 299 (TX7 12).1 (TX7 12).2.1 (TX7 12).2.2.1 ∈ gt := gt_t (i := 542) (by decide +kernel) rfl
theorem flX11_308 : Cond.fieldLink RX11 308 (TX7 4).1 (TX7 4).2.1 (TX7 4).2.2.1 ∈ gt := gt_t (i := 527) (by decide +kernel) rfl
theorem flX11_311 : Cond.fieldLink RX11 311 (TX7 8).1 (TX7 8).2.1 (TX7 8).2.2.1 ∈ gt := gt_t (i := 535) (by decide +kernel) rfl
theorem flX11_314 : Cond.fieldLink RX11 314 (TX7 7).1 (TX7 7).2.1 (TX7 7).2.2.1 ∈ gt := gt_t (i := 533) (by decide +kernel) rfl
theorem flX11_317 : Cond.fieldLink RX11 317 (TX7 11).1 (TX7 11).2.1 (TX7 11).2.2.1 ∈ gt := gt_t (i := 540) (by decide +kernel) rfl
theorem flX11_320 : Cond.fieldLink RX11 320 (TX7 16).1 (TX7 16).2.1 (TX7 16).2.2.1 ∈ gt := gt_t (i := 550) (by decide +kernel) rfl
theorem flX11_323 : Cond.fieldLink RX11 323 (TX7 13).1 (TX7 13).2.1 (TX7 13).2.2.1 ∈ gt := gt_t (i := 544) (by decide +kernel) rfl
theorem flX11_326 : Cond.fieldLink RX11 326 (TX7 14).1 (TX7 14).2.1 (TX7 14).2.2.1 ∈ gt := gt_t (i := 546) (by decide +kernel) rfl
theorem flX11_329 : Cond.fieldLink RX11 329 (TX7 15).1 (TX7 15).2.1 (TX7 15).2.2.1 ∈ gt := gt_t (i := 548) (by decide +kernel) rfl
theorem flX11_347 : Cond.fieldLink RX11 347 (TX7 17).1 (TX7 17).2.1 (TX7 17).2.2.1 ∈ gt := gt_t (i := 552) (by decide +kernel) rfl
theorem flX11_352 : Cond.fieldLink RX11 352 (TX3 16).1 (TX3 16).2.1 (TX3 16).2.2.1 ∈ gt := gt_t (i := 193) (by decide +kernel) rfl
theorem flX11_355 : Cond.fieldLink RX11 355 (TX9 7).1 (TX9 7).2.1 (TX9 7).2.2.1 ∈ gt := gt_t (i := 320) (by decide +kernel) rfl
theorem flX11_358 : Cond.fieldLink RX11 358 (TX3 10).1 (TX3 10).2.1 (TX3 10).2.2.1 ∈ gt := gt_t (i := 173) (by decide +kernel) rfl
theorem flX11_361 : Cond.fieldLink RX11 361 (TX9 5).1 (TX9 5).2.1 (TX9 5).2.2.1 ∈ gt := gt_t (i := 313) (by decide +kernel) rfl
theorem flX11_364 : Cond.fieldLink RX11 364 (TX3 17).1 (TX3 17).2.1 (TX3 17).2.2.1 ∈ gt := gt_t (i := 196) (by decide +kernel) rfl
theorem flX0_9 : Cond.fieldLink RX0 9 (TX0 0).1 (TX0 0).2.1 (TX0 0).2.2.1 ∈ gt := gt_t (i := 380) (by decide +kernel) rfl
theorem flX0_15 : Cond.fieldLink RX0 15 (TX0 1).1 (TX0 1).2.1 (TX0 1).2.2.1 ∈ gt := gt_t (i := 382) (by decide +kernel) rfl
theorem flX0_18 : Cond.fieldLink RX0 18 (TX0 2).1 (TX0 2).2.1 (TX0 2).2.2.1 ∈ gt := gt_t (i := 384) (by decide +kernel) rfl
theorem flX0_21 : Cond.fieldLink RX0 21 (TX0 3).1 (TX0 3).2.1 (TX0 3).2.2.1 ∈ gt := gt_t (i := 387) (by decide +kernel) rfl
theorem flX0_24 : Cond.fieldLink RX0 24 (TX3 10).1 (TX3 10).2.1 (TX3 10).2.2.1 ∈ gt := gt_t (i := 169) (by decide +kernel) rfl
theorem flX0_30 : Cond.fieldLink RX0 30 (TX3 12).1 (TX3 12).2.1 (TX3 12).2.2.1 ∈ gt := gt_t (i := 179) (by decide +kernel) rfl
theorem flX0_31 : Cond.fieldLink RX0 31 (TX3 13).1 (TX3 13).2.1 (TX3 13).2.2.1 ∈ gt := gt_t (i := 182) (by decide +kernel) rfl
theorem flX1_11 : Cond.fieldLink RX1 11 (TX1 3).1 (TX1 3).2.1 (TX1 3).2.2.1 ∈ gt := gt_t (i := 599) (by decide +kernel) rfl
theorem flX1_17 : Cond.fieldLink RX1 17 (TX1 4).1 (TX1 4).2.1 (TX1 4).2.2.1 ∈ gt := gt_t (i := 600) (by decide +kernel) rfl
theorem flX1_20 : Cond.fieldLink RX1 20 (TX1 5).1 (TX1 5).2.1 (TX1 5).2.2.1 ∈ gt := gt_t (i := 601) (by decide +kernel) rfl
theorem flX1_23 : Cond.fieldLink RX1 23 (TX1 6).1 (TX1 6).2.1 (TX1 6).2.2.1 ∈ gt := gt_t (i := 602) (by decide +kernel) rfl
theorem flX1_26 : Cond.fieldLink RX1 26 (TX1 0).1 (TX1 0).2.1 (TX1 0).2.2.1 ∈ gt := gt_t (i := 596) (by decide +kernel) rfl
theorem flX1_30 : Cond.fieldLink RX1 30 (TX1 1).1 (TX1 1).2.1 (TX1 1).2.2.1 ∈ gt := gt_t (i := 597) (by decide +kernel) rfl
theorem flX1_34 : Cond.fieldLink RX1 34 (TX1 2).1 (TX1 2).2.1 (TX1 2).2.2.1 ∈ gt := gt_t (i := 598) (by decide +kernel) rfl
theorem flX1_41 : Cond.fieldLink RX1 41 (TX1 7).1 (TX1 7).2.1 (TX1 7).2.2.1 ∈ gt := gt_t (i := 603) (by decide +kernel) rfl
theorem flX1_60 : Cond.fieldLink RX1 60 (TX9 0).1 (TX9 0).2.1 (TX9 0).2.2.1 ∈ gt := gt_t (i := 290) (by decide +kernel) rfl
theorem flX1_71 : Cond.fieldLink RX1 71 (TX5 7).1 (TX5 7).2.1 (TX5 7).2.2.1 ∈ gt := gt_t (i := 472) (by decide +kernel) rfl
theorem flX1_79 : Cond.fieldLink RX1 79 (TX5 8).1 (TX5 8).2.1 (TX5 8).2.2.1 ∈ gt := gt_t (i := 475) (by decide +kernel) rfl
theorem flX1_85 : Cond.fieldLink RX1 85 (TX2 3).1 (TX2 3).2.1 (TX2 3).2.2.1 ∈ gt := gt_t (i := 442) (by decide +kernel) rfl
theorem flX2_9 : Cond.fieldLink RX2 9 (TX2 1).1 (TX2 1).2.1 (TX2 1).2.2.1 ∈ gt := gt_t (i := 434) (by decide +kernel) rfl
theorem flX2_15 : Cond.fieldLink RX2 15 (TX2 2).1 (TX2 2).2.1 (TX2 2).2.2.1 ∈ gt := gt_t (i := 438) (by decide +kernel) rfl
theorem flX2_18 : Cond.fieldLink RX2 18 (TX2 3).1 (TX2 3).2.1 (TX2 3).2.2.1 ∈ gt := gt_t (i := 440) (by decide +kernel) rfl
theorem flX2_21 : Cond.fieldLink RX2 21 (TX2 0).1 (TX2 0).2.1 (TX2 0).2.2.1 ∈ gt := gt_t (i := 433) (by decide +kernel) rfl
theorem flX2_25 : Cond.fieldLink RX2 25 (TX9 0).1 (TX9 0).2.1 (TX9 0).2.2.1 ∈ gt := gt_t (i := 287) (by decide +kernel) rfl
theorem flX2_31 : Cond.fieldLink RX2 31 (TX9 2).1 (TX9 2).2.1 (TX9 2).2.2.1 ∈ gt := gt_t (i := 299) (by decide +kernel) rfl
theorem flX2_34 : Cond.fieldLink RX2 34 (TX9 1).1 (TX9 1).2.1 (TX9 1).2.2.1 ∈ gt := gt_t (i := 294) (by decide +kernel) rfl
theorem flX2_48 : Cond.fieldLink RX2 48 (TX9 3).1 (TX9 3).2.1 (TX9 3).2.2.1 ∈ gt := gt_t (i := 304) (by decide +kernel) rfl
theorem flX3_9 : Cond.fieldLink RX3 9 (TX3 1).1 (TX3 1).2.1 (TX3 1).2.2.1 ∈ gt := gt_t (i := 137) (by decide +kernel) rfl
theorem flX3_15 : Cond.fieldLink RX3 15 (TX3 2).1 (TX3 2).2.1 (TX3 2).2.2.1 ∈ gt := gt_t (i := 141) (by decide +kernel) rfl
theorem flX3_18 : Cond.fieldLink RX3 18 (TX3 3).1 (TX3 3).2.1 (TX3 3).2.2.1 ∈ gt := gt_t (i := 143) (by decide +kernel) rfl
theorem flX3_21 : Cond.fieldLink RX3 21 (TX3 4).1 (TX3 4).2.1 (TX3 4).2.2.1 ∈ gt := gt_t (i := 147) (by decide +kernel) rfl
theorem flX3_24 : Cond.fieldLink RX3 24 (TX3 5).1 (TX3 5).2.1 (TX3 5).2.2.1 ∈ gt := gt_t (i := 151) (by decide +kernel) rfl
theorem flX3_27 : Cond.fieldLink RX3 27 (TX3 6).1 (TX3 6).2.1 (TX3 6).2.2.1 ∈ gt := gt_t (i := 154) (by decide +kernel) rfl
theorem flX3_30 : Cond.fieldLink RX3 30 (TX3 7).1 (TX3 7).2.1 (TX3 7).2.2.1 ∈ gt := gt_t (i := 158) (by decide +kernel) rfl
theorem flX3_33 : Cond.fieldLink RX3 33 (TX3 8).1 (TX3 8).2.1 (TX3 8).2.2.1 ∈ gt := gt_t (i := 161) (by decide +kernel) rfl
theorem flX3_36 : Cond.fieldLink RX3 36 (TX3 9).1 (TX3 9).2.1 (TX3 9).2.2.1 ∈ gt := gt_t (i := 165) (by decide +kernel) rfl
theorem flX3_39 : Cond.fieldLink RX3 39 (TX3 11).1 (TX3 11).2.1 (TX3 11).2.2.1 ∈ gt := gt_t (i := 174) (by decide +kernel) rfl
theorem flX3_43 : Cond.fieldLink RX3 43 (TX3 12).1 (TX3 12).2.1 (TX3 12).2.2.1 ∈ gt := gt_t (i := 178) (by decide +kernel) rfl
theorem flX3_46 : Cond.fieldLink RX3 46 (TX3 13).1 (TX3 13).2.1 (TX3 13).2.2.1 ∈ gt := gt_t (i := 181) (by decide +kernel) rfl
theorem flX3_49 : Cond.fieldLink RX3 49 (TX3 14).1 (TX3 14).2.1 (TX3 14).2.2.1 ∈ gt := gt_t (i := 184) (by decide +kernel) rfl
theorem flX3_53 : Cond.fieldLink RX3 53 (TX3 15).1 (TX3 15).2.1 (TX3 15).2.2.1 ∈ gt := gt_t (i := 187) (by decide +kernel) rfl
theorem flX3_56 : Cond.fieldLink RX3 56 (TX3 0).1 (TX3 0).2.1 (TX3 0).2.2.1 ∈ gt := gt_t (i := 133) (by decide +kernel) rfl
theorem flX3_59 : Cond.fieldLink RX3 59 (TX3 10).1 (TX3 10).2.1 (TX3 10).2.2.1 ∈ gt := gt_t (i := 170) (by decide +kernel) rfl
theorem flX3_62 : Cond.fieldLink RX3 62 (TX3 16).1 (TX3 16).2.1 (TX3 16).2.2.1 ∈ gt := gt_t (i := 190) (by decide +kernel) rfl
theorem flX3_65 : Cond.fieldLink RX3 65 (TX3 17).1 (TX3 17).2.1 (TX3 17).2.2.1 ∈ gt := gt_t (i := 194) (by decide +kernel) rfl
theorem flX4_9 : Cond.fieldLink RX4 9 (TX4 1).1 (TX4 1).2.1 (TX4 1).2.2.1 ∈ gt := gt_t (i := 406) (by decide +kernel) rfl
theorem flX4_15 : Cond.fieldLink RX4 15 (TX4 2).1 (TX4 2).2.1 (TX4 2).2.2.1 ∈ gt := gt_t (i := 407) (by decide +kernel) rfl
theorem flX4_18 : Cond.fieldLink RX4 18 (TX4 3).1 (TX4 3).2.1 (TX4 3).2.2.1 ∈ gt := gt_t (i := 408) (by decide +kernel) rfl
theorem flX4_21 : Cond.fieldLink RX4 21 (TX4 4).1 (TX4 4).2.1 (TX4 4).2.2.1 ∈ gt := gt_t (i := 409) (by decide +kernel) rfl
theorem flX4_24 : Cond.fieldLink RX4 24 (TX4 5).1 (TX4 5).2.1 (TX4 5).2.2.1 ∈ gt := gt_t (i := 410) (by decide +kernel) rfl
theorem flX4_27 : Cond.fieldLink RX4 27 (TX4 0).1 (TX4 0).2.1 (TX4 0).2.2.1 ∈ gt := gt_t (i := 405) (by decide +kernel) rfl
theorem flX4_31 : Cond.fieldLink RX4 31 (TX9 1).1 (TX9 1).2.1 (TX9 1).2.2.1 ∈ gt := gt_t (i := 293) (by decide +kernel) rfl
theorem flX4_40 : Cond.fieldLink RX4 40 (TX9 2).1 (TX9 2).2.1 (TX9 2).2.2.1 ∈ gt := gt_t (i := 300) (by decide +kernel) rfl
theorem flX4_47 : Cond.fieldLink RX4 47 (TX0 2).1 (TX0 2).2.1 (TX0 2).2.2.1 ∈ gt := gt_t (i := 385) (by decide +kernel) rfl
theorem flX4_52 : Cond.fieldLink RX4 52 (TX0 3).1 (TX0 3).2.1 (TX0 3).2.2.1 ∈ gt := gt_t (i := 388) (by decide +kernel) rfl
theorem flX4_58 : Cond.fieldLink RX4 58 (TX4 6).1 (TX4 6).2.1 (TX4 6).2.2.1 ∈ gt := gt_t (i := 411) (by decide +kernel) rfl
theorem flX4_62 : Cond.fieldLink RX4 62 (TX3 0).1 (TX3 0).2.1 (TX3 0).2.2.1 ∈ gt := gt_t (i := 136) (by decide +kernel) rfl
theorem flX4_67 : Cond.fieldLink RX4 67 (TX3 1).1 (TX3 1).2.1 (TX3 1).2.2.1 ∈ gt := gt_t (i := 139) (by decide +kernel) rfl
theorem flX4_77 : Cond.fieldLink RX4 77 (TX3 3).1 (TX3 3).2.1 (TX3 3).2.2.1 ∈ gt := gt_t (i := 144) (by decide +kernel) rfl
theorem flX4_78 : Cond.fieldLink RX4 78 (TX3 9).1 (TX3 9).2.1 (TX3 9).2.2.1 ∈ gt := gt_t (i := 167) (by decide +kernel) rfl
theorem flX4_83 : Cond.fieldLink RX4 83 (TX3 8).1 (TX3 8).2.1 (TX3 8).2.2.1 ∈ gt := gt_t (i := 162) (by decide +kernel) rfl
theorem flX4_98 : Cond.fieldLink RX4 98 (TX3 4).1 (TX3 4).2.1 (TX3 4).2.2.1 ∈ gt := gt_t (i := 148) (by decide +kernel) rfl
theorem flX4_101 : Cond.fieldLink RX4 101 (TX3 6).1 (TX3 6).2.1 (TX3 6).2.2.1 ∈ gt := gt_t (i := 155) (by decide +kernel) rfl
theorem flX4_102 : Cond.fieldLink RX4 102 (TX7 0).1 (TX7 0).2.1 (TX7 0).2.2.1 ∈ gt := gt_t (i := 517) (by decide +kernel) rfl
theorem flX4_108 : Cond.fieldLink RX4 108 (TX7 4).1 (TX7 4).2.1 (TX7 4).2.2.1 ∈ gt := gt_t (i := 526) (by decide +kernel) rfl
theorem flX4_111 : Cond.fieldLink RX4 111 (TX7 3).1 (TX7 3).2.1 (TX7 3).2.2.1 ∈ gt := gt_t (i := 523) (by decide +kernel) rfl
theorem flX4_121 : Cond.fieldLink RX4 121 (TX7 2).1 (TX7 2).2.1 (TX7 2).2.2.1 ∈ gt := gt_t (i := 521) (by decide +kernel) rfl
theorem flX4_125 : Cond.fieldLink RX4 125 (TX5 2).1 (TX5 2).2.1 (TX5 2).2.2.1 ∈ gt := gt_t (i := 462) (by decide +kernel) rfl
theorem flX4_130 : Cond.fieldLink RX4 130 (TX7 1).1 (TX7 1).2.1 (TX7 1).2.2.1 ∈ gt := gt_t (i := 519) (by decide +kernel) rfl
theorem flX4_139 : Cond.fieldLink RX4 139 (TX2 1).1 (TX2 1).2.1 (TX2 1).2.2.1 ∈ gt := gt_t (i := 436) (by decide +kernel) rfl
theorem flX5_9 : Cond.fieldLink RX5 9 (TX5 2).1 (TX5 2).2.1 (TX5 2).2.2.1 ∈ gt := gt_t (i := 461) (by decide +kernel) rfl
theorem flX5_15 : Cond.fieldLink RX5 15 (TX5 5).1 (TX5 5).2.1 (TX5 5).2.2.1 ∈ gt := gt_t (i := 466) (by decide +kernel) rfl
theorem flX5_18 : Cond.fieldLink RX5 18 (TX5 6).1 (TX5 6).2.1 (TX5 6).2.2.1 ∈ gt := gt_t (i := 468) (by decide +kernel) rfl
theorem flX5_21 : Cond.fieldLink RX5 21 (TX5 7).1 (TX5 7).2.1 (TX5 7).2.2.1 ∈ gt := gt_t (i := 470) (by decide +kernel) rfl
theorem flX5_25 : Cond.fieldLink RX5 25 (TX5 8).1 (TX5 8).2.1 (TX5 8).2.2.1 ∈ gt := gt_t (i := 474) (by decide +kernel) rfl
theorem flX5_28 : Cond.fieldLink RX5 28 (TX5 9).1 (TX5 9).2.1 (TX5 9).2.2.1 ∈ gt := gt_t (i := 478) (by decide +kernel) rfl
theorem flX5_31 : Cond.fieldLink RX5 31 (TX5 10).1 (TX5 10).2.1 (TX5 10).2.2.1 ∈ gt := gt_t (i := 480) (by decide +kernel) rfl
theorem flX5_34 : Cond.fieldLink RX5 34 (TX5 11).1 (TX5 11).2.1 (TX5 11).2.2.1 ∈ gt := gt_t (i := 482) (by decide +kernel) rfl
theorem flX5_37 : Cond.fieldLink RX5 37 (TX5 0).1 (TX5 0).2.1 (TX5 0).2.2.1 ∈ gt := gt_t (i := 459) (by decide +kernel) rfl
theorem flX5_41 : Cond.fieldLink RX5 41 (TX5 1).1 (TX5 1).2.1 (TX5 1).2.2.1 ∈ gt := gt_t (i := 460) (by decide +kernel) rfl
theorem flX5_45 : Cond.fieldLink RX5 45 (TX9 0).1 (TX9 0).2.1 (TX9 0).2.2.1 ∈ gt := gt_t (i := 288) (by decide +kernel) rfl
theorem flX5_64 : Cond.fieldLink RX5 64 (TX5 3).1 (TX5 3).2.1 (TX5 3).2.2.1 ∈ gt := gt_t (i := 464) (by decide +kernel) rfl
theorem flX5_68 : Cond.fieldLink RX5 68 (TX5 4).1 (TX5 4).2.1 (TX5 4).2.2.1 ∈ gt := gt_t (i := 465) (by decide +kernel) rfl
theorem flX5_71 : Cond.fieldLink RX5 71 (TX9 2).1 (TX9 2).2.1 (TX9 2).2.2.1 ∈ gt := gt_t (i := 301) (by decide +kernel) rfl
theorem flX5_74 : Cond.fieldLink RX5 74 (TX9 1).1 (TX9 1).2.1 (TX9 1).2.2.1 ∈ gt := gt_t (i := 296) (by decide +kernel) rfl
theorem flX5_83 : Cond.fieldLink RX5 83 (TX2 1).1 (TX2 1).2.1 (TX2 1).2.2.1 ∈ gt := gt_t (i := 435) (by decide +kernel) rfl
theorem flX5_90 : Cond.fieldLink RX5 90 (TX9 5).1 (TX9 5).2.1 (TX9 5).2.2.1 ∈ gt := gt_t (i := 311) (by decide +kernel) rfl
theorem flX5_93 : Cond.fieldLink RX5 93 (TX9 6).1 (TX9 6).2.1 (TX9 6).2.2.1 ∈ gt := gt_t (i := 315) (by decide +kernel) rfl
theorem flX6_12 : Cond.fieldLink RX6 12 (TX6 1).1 (TX6 1).2.1 (TX6 1).2.2.1 ∈ gt := gt_t (i := 237) (by decide +kernel) rfl
theorem flX6_18 : Cond.fieldLink RX6 18 (TX6 2).1 (TX6 2).2.1 (TX6 2).2.2.1 ∈ gt := gt_t (i := 239) (by decide +kernel) rfl
theorem flX6_22 : Cond.fieldLink RX6 22 (TX6 3).1 (TX6 3).2.1 (TX6 3).2.2.1 ∈ gt := gt_t (i := 240) (by decide +kernel) rfl
theorem flX6_26 : Cond.fieldLink RX6 26 (TX6 4).1 (TX6 4).2.1 (TX6 4).2.2.1 ∈ gt := gt_t (i := 241) (by decide +kernel) rfl
theorem flX6_30 : Cond.fieldLink RX6 30 (TX6 6).1 (TX6 6).2.1 (TX6 6).2.2.1 ∈ gt := gt_t (i := 243) (by decide +kernel) rfl
theorem flX6_33 : Cond.fieldLink RX6 33 (TX6 0).1 (TX6 0).2.1 (TX6 0).2.2.1 ∈ gt := gt_t (i := 236) (by decide +kernel) rfl
theorem flX6_40 : Cond.fieldLink RX6 40 (TX6 5).1 (TX6 5).2.1 (TX6 5).2.2.1 ∈ gt := gt_t (i := 242) (by decide +kernel) rfl
theorem flX6_44 : Cond.fieldLink RX6 44 (TX6 7).1 (TX6 7).2.1 (TX6 7).2.2.1 ∈ gt := gt_t (i := 244) (by decide +kernel) rfl
theorem flX6_47 : Cond.fieldLink RX6 47 (TX6 8).1 (TX6 8).2.1 (TX6 8).2.2.1 ∈ gt := gt_t (i := 245) (by decide +kernel) rfl
theorem flX6_50 : Cond.fieldLink RX6 50 (TX6 9).1 (TX6 9).2.1 (TX6 9).2.2.1 ∈ gt := gt_t (i := 246) (by decide +kernel) rfl
theorem flX6_54 : Cond.fieldLink RX6 54 (TX6 10).1 (TX6 10).2.1 (TX6 10).2.2.1 ∈ gt := gt_t (i := 247) (by decide +kernel) rfl
theorem flX6_65 : Cond.fieldLink RX6 65 (TX8 4).1 (TX8 4).2.1 (TX8 4).2.2.1 ∈ gt := gt_t (i := 94) (by decide +kernel) rfl
theorem flX6_76 : Cond.fieldLink RX6 76 (TX3 17).1 (TX3 17).2.1 (TX3 17).2.2.1 ∈ gt := gt_t (i := 195) (by decide +kernel) rfl
theorem flX6_78 : Cond.fieldLink RX6 78 (TX8 5).1 (TX8 5).2.1 (TX8 5).2.2.1 ∈ gt := gt_t (i := 96) (by decide +kernel) rfl
theorem flX6_81 : Cond.fieldLink RX6 81 (TX3 0).1 (TX3 0).2.1 (TX3 0).2.2.1 ∈ gt := gt_t (i := 135) (by decide +kernel) rfl
theorem flX6_87 : Cond.fieldLink RX6 87 (TX8 6).1 (TX8 6).2.1 (TX8 6).2.2.1 ∈ gt := gt_t (i := 98) (by decide +kernel) rfl
theorem flX6_115 : Cond.fieldLink RX6 115 (TX3 10).1 (TX3 10).2.1 (TX3 10).2.2.1 ∈ gt := gt_t (i := 172) (by decide +kernel) rfl
theorem flX6_117 : Cond.fieldLink RX6 117 (TX3 11).1 (TX3 11).2.1 (TX3 11).2.2.1 ∈ gt := gt_t (i := 176) (by decide +kernel) rfl
theorem flX6_127 : Cond.fieldLink RX6 127 (TX3 12).1 (TX3 12).2.1 (TX3 12).2.2.1 ∈ gt := gt_t (i := 180) (by decide +kernel) rfl
theorem flX6_130 : Cond.fieldLink RX6 130 (TX3 13).1 (TX3 13).2.1 (TX3 13).2.2.1 ∈ gt := gt_t (i := 183) (by decide +kernel) rfl
theorem flX6_139 : Cond.fieldLink RX6 139 (TX8 7).1 (TX8 7).2.1 (TX8 7).2.2.1 ∈ gt := gt_t (i := 101) (by decide +kernel) rfl
theorem flX6_147 : Cond.fieldLink RX6 147 (TX3 9).1 (TX3 9).2.1 (TX3 9).2.2.1 ∈ gt := gt_t (i := 168) (by decide +kernel) rfl
theorem flX6_150 : Cond.fieldLink RX6 150 (TX3 3).1 (TX3 3).2.1 (TX3 3).2.2.1 ∈ gt := gt_t (i := 146) (by decide +kernel) rfl
theorem flX6_157 : Cond.fieldLink RX6 157 (TX3 14).1 (TX3 14).2.1 (TX3 14).2.2.1 ∈ gt := gt_t (i := 186) (by decide +kernel) rfl
theorem flX6_160 : Cond.fieldLink RX6 160 (TX3 15).1 (TX3 15).2.1 (TX3 15).2.2.1 ∈ gt := gt_t (i := 189) (by decide +kernel) rfl
theorem flX6_167 : Cond.fieldLink RX6 167 (TX3 16).1 (TX3 16).2.1 (TX3 16).2.2.1 ∈ gt := gt_t (i := 192) (by decide +kernel) rfl
theorem flX6_170 : Cond.fieldLink RX6 170 (TX3 1).1 (TX3 1).2.1 (TX3 1).2.2.1 ∈ gt := gt_t (i := 140) (by decide +kernel) rfl
theorem flX6_173 : Cond.fieldLink RX6 173 (TX3 8).1 (TX3 8).2.1 (TX3 8).2.2.1 ∈ gt := gt_t (i := 163) (by decide +kernel) rfl
theorem flX6_183 : Cond.fieldLink RX6 183 (TX6 11).1 (TX6 11).2.1 (TX6 11).2.2.1 ∈ gt := gt_t (i := 248) (by decide +kernel) rfl
theorem flX6_189 : Cond.fieldLink RX6 189 (TX3 4).1 (TX3 4).2.1 (TX3 4).2.2.1 ∈ gt := gt_t (i := 150) (by decide +kernel) rfl
theorem flX6_192 : Cond.fieldLink RX6 192 (TX3 5).1 (TX3 5).2.1 (TX3 5).2.2.1 ∈ gt := gt_t (i := 153) (by decide +kernel) rfl
theorem flX6_204 : Cond.fieldLink RX6 204 (TX3 6).1 (TX3 6).2.1 (TX3 6).2.2.1 ∈ gt := gt_t (i := 157) (by decide +kernel) rfl
theorem flX6_207 : Cond.fieldLink RX6 207 (TX3 7).1 (TX3 7).2.1 (TX3 7).2.2.1 ∈ gt := gt_t (i := 160) (by decide +kernel) rfl
theorem flX7_9 : Cond.fieldLink RX7 9 (TX7 3).1 (TX7 3).2.1 (TX7 3).2.2.1 ∈ gt := gt_t (i := 522) (by decide +kernel) rfl
theorem flX7_15 : Cond.fieldLink RX7 15 (TX7 5).1 (TX7 5).2.1 (TX7 5).2.2.1 ∈ gt := gt_t (i := 528) (by decide +kernel) rfl
theorem flX7_18 : Cond.fieldLink RX7 18 (TX7 6).1 (TX7 6).2.1 (TX7 6).2.2.1 ∈ gt := gt_t (i := 530) (by decide +kernel) rfl
theorem flX7_21 : Cond.fieldLink RX7 21 (TX7 7).1 (TX7 7).2.1 (TX7 7).2.2.1 ∈ gt := gt_t (i := 532) (by decide +kernel) rfl
theorem flX7_24 : Cond.fieldLink RX7 24 (TX7 8).1 (TX7 8).2.1 (TX7 8).2.2.1 ∈ gt := gt_t (i := 534) (by decide +kernel) rfl
theorem flX7_27 : Cond.fieldLink RX7 27 (TX7 9).1 (TX7 9).2.1 (TX7 9).2.2.1 ∈ gt := gt_t (i := 536) (by decide +kernel) rfl
theorem flX7_30 : Cond.fieldLink RX7 30 (TX7 10).1 (TX7 10).2.1 (TX7 10).2.2.1 ∈ gt := gt_t (i := 538) (by decide +kernel) rfl
theorem flX7_34 : Cond.fieldLink RX7 34 (TX7 11).1 (TX7 11).2.1 (TX7 11).2.2.1 ∈ gt := gt_t (i := 539) (by decide +kernel) rfl
theorem flX7_37 : Cond.fieldLink RX7 37 (TX7 12).1 (TX7 12).2.1 (TX7 12).2.2.1 ∈ gt := gt_t (i := 541) (by decide +kernel) rfl
theorem flX7_40 : Cond.fieldLink RX7 40 (TX7 13).1 (TX7 13).2.1 (TX7 13).2.2.1 ∈ gt := gt_t (i := 543) (by decide +kernel) rfl
theorem flX7_43 : Cond.fieldLink RX7 43 (TX7 14).1 (TX7 14).2.1 (TX7 14).2.2.1 ∈ gt := gt_t (i := 545) (by decide +kernel) rfl
theorem flX7_46 : Cond.fieldLink RX7 46 (TX7 15).1 (TX7 15).2.1 (TX7 15).2.2.1 ∈ gt := gt_t (i := 547) (by decide +kernel) rfl
theorem flX7_49 : Cond.fieldLink RX7 49 (TX7 0).1 (TX7 0).2.1 (TX7 0).2.2.1 ∈ gt := gt_t (i := 516) (by decide +kernel) rfl
theorem flX7_53 : Cond.fieldLink RX7 53 (TX7 1).1 (TX7 1).2.1 (TX7 1).2.2.1 ∈ gt := gt_t (i := 518) (by decide +kernel) rfl
theorem flX7_57 : Cond.fieldLink RX7 57 (TX7 2).1 (TX7 2).2.1 (TX7 2).2.2.1 ∈ gt := gt_t (i := 520) (by decide +kernel) rfl
theorem flX7_61 : Cond.fieldLink RX7 61 (TX7 4).1 (TX7 4).2.1 (TX7 4).2.2.1 ∈ gt := gt_t (i := 525) (by decide +kernel) rfl
theorem flX7_65 : Cond.fieldLink RX7 65 (TX9 0).1 (TX9 0).2.1 (TX9 0).2.2.1 ∈ gt := gt_t (i := 289) (by decide +kernel) rfl
theorem flX7_76 : Cond.fieldLink RX7 76 (TX5 7).1 (TX5 7).2.1 (TX5 7).2.2.1 ∈ gt := gt_t (i := 471) (by decide +kernel) rfl
theorem flX7_94 : Cond.fieldLink RX7 94 (TX5 11).1 (TX5 11).2.1 (TX5 11).2.2.1 ∈ gt := gt_t (i := 483) (by decide +kernel) rfl
theorem flX7_97 : Cond.fieldLink RX7 97 (TX9 1).1 (TX9 1).2.1 (TX9 1).2.2.1 ∈ gt := gt_t (i := 295) (by decide +kernel) rfl
theorem flX7_100 : Cond.fieldLink RX7 100 (TX2 3).1 (TX2 3).2.1 (TX2 3).2.2.1 ∈ gt := gt_t (i := 441) (by decide +kernel) rfl
theorem flX7_105 : Cond.fieldLink RX7 105 (TX5 6).1 (TX5 6).2.1 (TX5 6).2.2.1 ∈ gt := gt_t (i := 469) (by decide +kernel) rfl
theorem flX7_108 : Cond.fieldLink RX7 108 (TX5 5).1 (TX5 5).2.1 (TX5 5).2.2.1 ∈ gt := gt_t (i := 467) (by decide +kernel) rfl
theorem flX7_111 : Cond.fieldLink RX7 111 (TX5 8).1 (TX5 8).2.1 (TX5 8).2.2.1 ∈ gt := gt_t (i := 476) (by decide +kernel) rfl
theorem flX7_142 : Cond.fieldLink RX7 142 (TX9 4).1 (TX9 4).2.1 (TX9 4).2.2.1 ∈ gt := gt_t (i := 307) (by decide +kernel) rfl
theorem flX7_155 : Cond.fieldLink RX7 155 (TX7 16).1 (TX7 16).2.1 (TX7 16).2.2.1 ∈ gt := gt_t (i := 549) (by decide +kernel) rfl
theorem flX7_158 : Cond.fieldLink RX7 158 (TX7 17).1 (TX7 17).2.1 (TX7 17).2.2.1 ∈ gt := gt_t (i := 551) (by decide +kernel) rfl
theorem flX8_9 : Cond.fieldLink RX8 9 (TX8 0).1 (TX8 0).2.1 (TX8 0).2.2.1 ∈ gt := gt_t (i := 89) (by decide +kernel) rfl
theorem flX8_15 : Cond.fieldLink RX8 15 (TX8 1).1 (TX8 1).2.1 (TX8 1).2.2.1 ∈ gt := gt_t (i := 90) (by decide +kernel) rfl
theorem flX8_33 : Cond.fieldLink RX8 33 (TX8 2).1 (TX8 2).2.1 (TX8 2).2.2.1 ∈ gt := gt_t (i := 92) (by decide +kernel) rfl
theorem flX8_36 : Cond.fieldLink RX8 36 (TX8 3).1 (TX8 3).2.1 (TX8 3).2.2.1 ∈ gt := gt_t (i := 93) (by decide +kernel) rfl
theorem flX8_39 : Cond.fieldLink RX8 39 (TX8 5).1 (TX8 5).2.1 (TX8 5).2.2.1 ∈ gt := gt_t (i := 97) (by decide +kernel) rfl
theorem flX8_42 : Cond.fieldLink RX8 42 (TX8 4).1 (TX8 4).2.1 (TX8 4).2.2.1 ∈ gt := gt_t (i := 95) (by decide +kernel) rfl
theorem flX8_51 : Cond.fieldLink RX8 51 (TX8 7).1 (TX8 7).2.1 (TX8 7).2.2.1 ∈ gt := gt_t (i := 100) (by decide +kernel) rfl
theorem flX8_55 : Cond.fieldLink RX8 55 (TX8 6).1 (TX8 6).2.1 (TX8 6).2.2.1 ∈ gt := gt_t (i := 99) (by decide +kernel) rfl
theorem flX9_9 : Cond.fieldLink RX9 9 (TX9 1).1 (TX9 1).2.1 (TX9 1).2.2.1 ∈ gt := gt_t (i := 292) (by decide +kernel) rfl
theorem flX9_15 : Cond.fieldLink RX9 15 (TX9 2).1 (TX9 2).2.1 (TX9 2).2.2.1 ∈ gt := gt_t (i := 298) (by decide +kernel) rfl
theorem flX9_18 : Cond.fieldLink RX9 18 (TX9 3).1 (TX9 3).2.1 (TX9 3).2.2.1 ∈ gt := gt_t (i := 303) (by decide +kernel) rfl
theorem flX9_22 : Cond.fieldLink RX9 22 (TX9 4).1 (TX9 4).2.1 (TX9 4).2.2.1 ∈ gt := gt_t (i := 306) (by decide +kernel) rfl
theorem flX9_25 : Cond.fieldLink RX9 25 (TX9 6).1 (TX9 6).2.1 (TX9 6).2.2.1 ∈ gt := gt_t (i := 314) (by decide +kernel) rfl
theorem flX9_28 : Cond.fieldLink RX9 28 (TX9 7).1 (TX9 7).2.1 (TX9 7).2.2.1 ∈ gt := gt_t (i := 318) (by decide +kernel) rfl
theorem flX9_31 : Cond.fieldLink RX9 31 (TX9 0).1 (TX9 0).2.1 (TX9 0).2.2.1 ∈ gt := gt_t (i := 286) (by decide +kernel) rfl
theorem flX9_35 : Cond.fieldLink RX9 35 (TX9 5).1 (TX9 5).2.1 (TX9 5).2.2.1 ∈ gt := gt_t (i := 310) (by decide +kernel) rfl
theorem flX9_38 : Cond.fieldLink RX9 38 (TX3 10).1 (TX3 10).2.1 (TX3 10).2.2.1 ∈ gt := gt_t (i := 171) (by decide +kernel) rfl
theorem flX9_47 : Cond.fieldLink RX9 47 (TX3 11).1 (TX3 11).2.1 (TX3 11).2.2.1 ∈ gt := gt_t (i := 175) (by decide +kernel) rfl
theorem flX9_50 : Cond.fieldLink RX9 50 (TX3 16).1 (TX3 16).2.1 (TX3 16).2.2.1 ∈ gt := gt_t (i := 191) (by decide +kernel) rfl
theorem flX10_12 : Cond.fieldLink RX10 12 (TX10 0).1 (TX10 0).2.1 (TX10 0).2.2.1 ∈ gt := gt_t (i := 340) (by decide +kernel) rfl
theorem flX10_18 : Cond.fieldLink RX10 18 (TX10 1).1 (TX10 1).2.1 (TX10 1).2.2.1 ∈ gt := gt_t (i := 342) (by decide +kernel) rfl
theorem flX10_24 : Cond.fieldLink RX10 24 (TX10 2).1 (TX10 2).2.1 (TX10 2).2.2.1 ∈ gt := gt_t (i := 343) (by decide +kernel) rfl
theorem flX10_27 : Cond.fieldLink RX10 27 (TX10 3).1 (TX10 3).2.1 (TX10 3).2.2.1 ∈ gt := gt_t (i := 344) (by decide +kernel) rfl
theorem flX10_30 : Cond.fieldLink RX10 30 (TX10 4).1 (TX10 4).2.1 (TX10 4).2.2.1 ∈ gt := gt_t (i := 345) (by decide +kernel) rfl
theorem flX10_33 : Cond.fieldLink RX10 33 (TX10 5).1 (TX10 5).2.1 (TX10 5).2.2.1 ∈ gt := gt_t (i := 346) (by decide +kernel) rfl
theorem flX10_36 : Cond.fieldLink RX10 36 (TX10 6).1 (TX10 6).2.1 (TX10 6).2.2.1 ∈ gt := gt_t (i := 347) (by decide +kernel) rfl
theorem flX10_43 : Cond.fieldLink RX10 43 (TX10 7).1 (TX10 7).2.1 (TX10 7).2.2.1 ∈ gt := gt_t (i := 348) (by decide +kernel) rfl
theorem flX10_47 : Cond.fieldLink RX10 47 (TX10 8).1 (TX10 8).2.1 (TX10 8).2.2.1 ∈ gt := gt_t (i := 349) (by decide +kernel) rfl
theorem flX10_50 : Cond.fieldLink RX10 50 (TX10 9).1 (TX10 9).2.1 (TX10 9).2.2.1 ∈ gt := gt_t (i := 350) (by decide +kernel) rfl
theorem flX10_53 : Cond.fieldLink RX10 53 (TX3 0).1 (TX3 0).2.1 (TX3 0).2.2.1 ∈ gt := gt_t (i := 134) (by decide +kernel) rfl
theorem flX10_66 : Cond.fieldLink RX10 66 (TX3 1).1 (TX3 1).2.1 (TX3 1).2.2.1 ∈ gt := gt_t (i := 138) (by decide +kernel) rfl
theorem flX10_69 : Cond.fieldLink RX10 69 (TX3 2).1 (TX3 2).2.1 (TX3 2).2.2.1 ∈ gt := gt_t (i := 142) (by decide +kernel) rfl
theorem flX10_76 : Cond.fieldLink RX10 76 (TX3 3).1 (TX3 3).2.1 (TX3 3).2.2.1 ∈ gt := gt_t (i := 145) (by decide +kernel) rfl
theorem flX10_79 : Cond.fieldLink RX10 79 (TX3 9).1 (TX3 9).2.1 (TX3 9).2.2.1 ∈ gt := gt_t (i := 166) (by decide +kernel) rfl
theorem flX10_113 : Cond.fieldLink RX10 113 (TX3 4).1 (TX3 4).2.1 (TX3 4).2.2.1 ∈ gt := gt_t (i := 149) (by decide +kernel) rfl
theorem flX10_128 : Cond.fieldLink RX10 128 (TX3 5).1 (TX3 5).2.1 (TX3 5).2.2.1 ∈ gt := gt_t (i := 152) (by decide +kernel) rfl
theorem flX10_135 : Cond.fieldLink RX10 135 (TX9 5).1 (TX9 5).2.1 (TX9 5).2.2.1 ∈ gt := gt_t (i := 312) (by decide +kernel) rfl
theorem flX10_138 : Cond.fieldLink RX10 138 (TX9 6).1 (TX9 6).2.1 (TX9 6).2.2.1 ∈ gt := gt_t (i := 316) (by decide +kernel) rfl
theorem flX10_141 : Cond.fieldLink RX10 141 (TX3 6).1 (TX3 6).2.1 (TX3 6).2.2.1 ∈ gt := gt_t (i := 156) (by decide +kernel) rfl
theorem flX10_147 : Cond.fieldLink RX10 147 (TX3 7).1 (TX3 7).2.1 (TX3 7).2.2.1 ∈ gt := gt_t (i := 159) (by decide +kernel) rfl
theorem flX10_150 : Cond.fieldLink RX10 150 (TX9 4).1 (TX9 4).2.1 (TX9 4).2.2.1 ∈ gt := gt_t (i := 309) (by decide +kernel) rfl
theorem flX10_154 : Cond.fieldLink RX10 154 (TX9 7).1 (TX9 7).2.1 (TX9 7).2.2.1 ∈ gt := gt_t (i := 319) (by decide +kernel) rfl
theorem flX10_157 : Cond.fieldLink RX10 157 (TX3 8).1 (TX3 8).2.1 (TX3 8).2.2.1 ∈ gt := gt_t (i := 164) (by decide +kernel) rfl
theorem flX12_1 : Cond.fieldLink RX12 1 (TX12 0).1 (TX12 0).2.1 (TX12 0).2.2.1 ∈ gt := gt_t (i := 1411) (by decide +kernel) rfl
theorem flX12_11 : Cond.fieldLink RX12 11 (TX12 2).1 (TX12 2).2.1 (TX12 2).2.2.1 ∈ gt := gt_t (i := 1413) (by decide +kernel) rfl
theorem flX12_14 : Cond.fieldLink RX12 14 (TX12 1).1 (TX12 1).2.1 (TX12 1).2.2.1 ∈ gt := gt_t (i := 1412) (by decide +kernel) rfl
theorem flX12_18 : Cond.fieldLink RX12 18 (TX12 3).1 (TX12 3).2.1 (TX12 3).2.2.1 ∈ gt := gt_t (i := 1414) (by decide +kernel) rfl
theorem flX12_36 : Cond.fieldLink RX12 36 (TX12 5).1 (TX12 5).2.1 (TX12 5).2.2.1 ∈ gt := gt_t (i := 1416) (by decide +kernel) rfl
theorem flX12_43 : Cond.fieldLink RX12 43 (TX12 4).1 (TX12 4).2.1 (TX12 4).2.2.1 ∈ gt := gt_t (i := 1415) (by decide +kernel) rfl
theorem flX12_46 : Cond.fieldLink RX12 46 (TX12 6).1 (TX12 6).2.1 (TX12 6).2.2.1 ∈ gt := gt_t (i := 1417) (by decide +kernel) rfl
theorem flX12_54 : Cond.fieldLink RX12 54 (TX12 7).1 (TX12 7).2.1 (TX12 7).2.2.1 ∈ gt := gt_t (i := 1418) (by decide +kernel) rfl
theorem flX12_57 : Cond.fieldLink RX12 57 (TX12 8).1 (TX12 8).2.1 (TX12 8).2.2.1 ∈ gt := gt_t (i := 1419) (by decide +kernel) rfl
theorem flX12_60 : Cond.fieldLink RX12 60 (TX12 9).1 (TX12 9).2.1 (TX12 9).2.2.1 ∈ gt := gt_t (i := 1420) (by decide +kernel) rfl
theorem flX12_126 : Cond.fieldLink RX12 126 (TX12 10).1 (TX12 10).2.1 (TX12 10).2.2.1 ∈ gt := gt_t (i := 1421) (by decide +kernel) rfl
theorem flX12_129 : Cond.fieldLink RX12 129 (TX12 11).1 (TX12 11).2.1 (TX12 11).2.2.1 ∈ gt := gt_t (i := 1422) (by decide +kernel) rfl
theorem flX12_132 : Cond.fieldLink RX12 132 (TX12 12).1 (TX12 12).2.1 (TX12 12).2.2.1 ∈ gt := gt_t (i := 1423) (by decide +kernel) rfl
theorem flX12_135 : Cond.fieldLink RX12 135 (TX12 13).1 (TX12 13).2.1 (TX12 13).2.2.1 ∈ gt := gt_t (i := 1424) (by decide +kernel) rfl
theorem flX12_138 : Cond.fieldLink RX12 138 (TX12 15).1 (TX12 15).2.1 (TX12 15).2.2.1 ∈ gt := gt_t (i := 1426) (by decide +kernel) rfl
theorem flX12_141 : Cond.fieldLink RX12 141 (TX12 16).1 (TX12 16).2.1 (TX12 16).2.2.1 ∈ gt := gt_t (i := 1427) (by decide +kernel) rfl
theorem flX12_144 : Cond.fieldLink RX12 144 (TX12 17).1 (TX12 17).2.1 (TX12 17).2.2.1 ∈ gt := gt_t (i := 1428) (by decide +kernel) rfl
theorem flX12_147 : Cond.fieldLink RX12 147 (TX12 20).1 (TX12 20).2.1 (TX12 20).2.2.1 ∈ gt := gt_t (i := 1431) (by decide +kernel) rfl
theorem flX12_150 : Cond.fieldLink RX12 150 (TX12 21).1 (TX12 21).2.1 (TX12 21).2.2.1 ∈ gt := gt_t (i := 1432) (by decide +kernel) rfl
theorem flX12_153 : Cond.fieldLink RX12 153 (TX12 22).1 (TX12 22).2.1 (TX12 22).2.2.1 ∈ gt := gt_t (i := 1433) (by decide +kernel) rfl
theorem flX12_156 : Cond.fieldLink RX12 156 (TX12 23).1 (TX12 23).2.1 (TX12 23).2.2.1 ∈ gt := gt_t (i := 1434) (by decide +kernel) rfl
theorem flX12_159 : Cond.fieldLink RX12 159 (TX12 24).1 (TX12 24).2.1 (TX12 24).2.2.1 ∈ gt := gt_t (i := 1435) (by decide +kernel) rfl
theorem flX12_162 : Cond.fieldLink RX12 162 (TX12 25).1 (TX12 25).2.1 (TX12 25).2.2.1 ∈ gt := gt_t (i := 1436) (by decide +kernel) rfl
theorem flX12_165 : Cond.fieldLink RX12 165 (TX12 26).1 (TX12 26).2.1 (TX12 26).2.2.1 ∈ gt := gt_t (i := 1437) (by decide +kernel) rfl
theorem flX12_168 : Cond.fieldLink RX12 168 (TX12 27).1 (TX12 27).2.1 (TX12 27).2.2.1 ∈ gt := gt_t (i := 1438) (by decide +kernel) rfl
theorem flX12_171 : Cond.fieldLink RX12 171 (TX12 29).1 (TX12 29).2.1 (TX12 29).2.2.1 ∈ gt := gt_t (i := 1440) (by decide +kernel) rfl
theorem flX12_174 : Cond.fieldLink RX12 174 (TX12 30).1 (TX12 30).2.1 (TX12 30).2.2.1 ∈ gt := gt_t (i := 1441) (by decide +kernel) rfl
theorem flX12_177 : Cond.fieldLink RX12 177 (TX12 31).1 (TX12 31).2.1 (TX12 31).2.2.1 ∈ gt := gt_t (i := 1442) (by decide +kernel) rfl
theorem flX12_181 : Cond.fieldLink RX12 181 (TX12 32).1 (TX12 32).2.1 (TX12 32).2.2.1 ∈ gt := gt_t (i := 1443) (by decide +kernel) rfl
theorem flX12_184 : Cond.fieldLink RX12 184 (TX12 33).1 (TX12 33).2.1 (TX12 33).2.2.1 ∈ gt := gt_t (i := 1444) (by decide +kernel) rfl
theorem flX12_187 : Cond.fieldLink RX12 187 (TX12 34).1 (TX12 34).2.1 (TX12 34).2.2.1 ∈ gt := gt_t (i := 1445) (by decide +kernel) rfl
theorem flX12_190 : Cond.fieldLink RX12 190 (TX12 35).1 (TX12 35).2.1 (TX12 35).2.2.1 ∈ gt := gt_t (i := 1446) (by decide +kernel) rfl
theorem flX12_193 : Cond.fieldLink RX12 193 (TX12 36).1 (TX12 36).2.1 (TX12 36).2.2.1 ∈ gt := gt_t (i := 1447) (by decide +kernel) rfl
theorem flX12_196 : Cond.fieldLink RX12 196 (TX12 37).1 (TX12 37).2.1 (TX12 37).2.2.1 ∈ gt := gt_t (i := 1448) (by decide +kernel) rfl
theorem flX12_199 : Cond.fieldLink RX12 199 (TX12 40).1 (TX12 40).2.1 (TX12 40).2.2.1 ∈ gt := gt_t (i := 1451) (by decide +kernel) rfl
theorem flX12_202 : Cond.fieldLink RX12 202 (TX12 42).1 (TX12 42).2.1 (TX12 42).2.2.1 ∈ gt := gt_t (i := 1453) (by decide +kernel) rfl
theorem flX12_205 : Cond.fieldLink RX12 205 (TX12 43).1 (TX12 43).2.1 (TX12 43).2.2.1 ∈ gt := gt_t (i := 1454) (by decide +kernel) rfl
theorem flX12_208 : Cond.fieldLink RX12 208 (TX12 44).1 (TX12 44).2.1 (TX12 44).2.2.1 ∈ gt := gt_t (i := 1455) (by decide +kernel) rfl
theorem flX12_211 : Cond.fieldLink RX12 211 (TX12 45).1 (TX12 45).2.1 (TX12 45).2.2.1 ∈ gt := gt_t (i := 1456) (by decide +kernel) rfl
theorem flX12_214 : Cond.fieldLink RX12 214 (TX12 46).1 (TX12 46).2.1 (TX12 46).2.2.1 ∈ gt := gt_t (i := 1457) (by decide +kernel) rfl
theorem flX12_217 : Cond.fieldLink RX12 217 (TX12 47).1 (TX12 47).2.1 (TX12 47).2.2.1 ∈ gt := gt_t (i := 1458) (by decide +kernel) rfl
theorem flX12_220 : Cond.fieldLink RX12 220 (TX12 49).1 (TX12 49).2.1 (TX12 49).2.2.1 ∈ gt := gt_t (i := 1460) (by decide +kernel) rfl
theorem flX12_223 : Cond.fieldLink RX12 223 (TX12 51).1 (TX12 51).2.1 (TX12 51).2.2.1 ∈ gt := gt_t (i := 1462) (by decide +kernel) rfl
theorem flX12_226 : Cond.fieldLink RX12 226 (TX12 52).1 (TX12 52).2.1 (TX12 52).2.2.1 ∈ gt := gt_t (i := 1463) (by decide +kernel) rfl
theorem flX12_229 : Cond.fieldLink RX12 229 (TX12 53).1 (TX12 53).2.1 (TX12 53).2.2.1 ∈ gt := gt_t (i := 1464) (by decide +kernel) rfl
theorem flX12_235 : Cond.fieldLink RX12 235 (TX12 14).1 (TX12 14).2.1 (TX12 14).2.2.1 ∈ gt := gt_t (i := 1425) (by decide +kernel) rfl
theorem flX12_238 : Cond.fieldLink RX12 238 (TX12 18).1 (TX12 18).2.1 (TX12 18).2.2.1 ∈ gt := gt_t (i := 1429) (by decide +kernel) rfl
theorem flX12_263 : Cond.fieldLink RX12 263 (TX12 19).1 (TX12 19).2.1 (TX12 19).2.2.1 ∈ gt := gt_t (i := 1430) (by decide +kernel) rfl
theorem flX12_365 : Cond.fieldLink RX12 365 (TX12 28).1 (TX12 28).2.1 (TX12 28).2.2.1 ∈ gt := gt_t (i := 1439) (by decide +kernel) rfl
theorem flX12_460 : Cond.fieldLink RX12 460 (TX12 39).1 (TX12 39).2.1 (TX12 39).2.2.1 ∈ gt := gt_t (i := 1450) (by decide +kernel) rfl
theorem flX12_464 : Cond.fieldLink RX12 464 (TX12 38).1 (TX12 38).2.1 (TX12 38).2.2.1 ∈ gt := gt_t (i := 1449) (by decide +kernel) rfl
theorem flX12_489 : Cond.fieldLink RX12 489 (TX12 41).1 (TX12 41).2.1 (TX12 41).2.2.1 ∈ gt := gt_t (i := 1452) (by decide +kernel) rfl
theorem flX12_511 : Cond.fieldLink RX12 511 (TX12 48).1 (TX12 48).2.1 (TX12 48).2.2.1 ∈ gt := gt_t (i := 1459) (by decide +kernel) rfl
theorem flX12_514 : Cond.fieldLink RX12 514 (TX12 50).1 (TX12 50).2.1 (TX12 50).2.2.1 ∈ gt := gt_t (i := 1461) (by decide +kernel) rfl
theorem lkX11_114 : LkV RX11 114 yX11_feedEight cX11_feedEight 4 none 1 := ⟨(gt_t (i := 676) (by decide +kernel) rfl), (gt_t (i := 678) (by decide +kernel) rfl), (gt_s (i := 0) (by decide +kernel) rfl), (gt_t (i := 1) (by decide +kernel) rfl), cd_yX11_feedEight, by decide, by decide, by decide +kernel⟩
theorem lkX11_121 : LkV RX11 121 yX8_put cX8_put 3 none 1 := ⟨(gt_t (i := 680) (by decide +kernel) rfl), (gt_t (i := 681) (by decide +kernel) rfl), (gt_t (i := 682) (by decide +kernel) rfl), (gt_t (i := 2) (by decide +kernel) rfl), cd_yX8_put, by decide, by decide, by decide +kernel⟩
theorem lkX11_125 : LkV RX11 125 yX6_parse cX6_parse 3 (some .int) 0 := ⟨(gt_t (i := 688) (by decide +kernel) rfl), (gt_t (i := 689) (by decide +kernel) rfl), (gt_t (i := 690) (by decide +kernel) rfl), (gt_t (i := 7) (by decide +kernel) rfl), cd_yX6_parse, by decide, by decide, by decide +kernel⟩
theorem lkX11_129 : LkV RX11 129 yX8_wipe cX8_wipe 1 none 0 := ⟨(gt_t (i := 805) (by decide +kernel) rfl), (gt_t (i := 806) (by decide +kernel) rfl), (gt_t (i := 807) (by decide +kernel) rfl), (gt_t (i := 2) (by decide +kernel) rfl), cd_yX8_wipe, by decide, by decide, by decide +kernel⟩
theorem lkX11_133 : LkV RX11 133 yX10_work cX10_work 4 (some .int) 1 := ⟨(gt_t (i := 809) (by decide +kernel) rfl), (gt_t (i := 810) (by decide +kernel) rfl), (gt_t (i := 811) (by decide +kernel) rfl), (gt_t (i := 9) (by decide +kernel) rfl), cd_yX10_work, by decide, by decide, by decide +kernel⟩
theorem lkX11_138 : LkV RX11 138 yX9_copyFrom cX9_copyFrom 3 none 1 := ⟨(gt_t (i := 891) (by decide +kernel) rfl), (gt_t (i := 892) (by decide +kernel) rfl), (gt_t (i := 893) (by decide +kernel) rfl), (gt_t (i := 10) (by decide +kernel) rfl), cd_yX9_copyFrom, by decide, by decide, by decide +kernel⟩
theorem lkX11_141 : LkV RX11 141 yX0_start cX0_start 4 none 1 := ⟨(gt_t (i := 896) (by decide +kernel) rfl), (gt_t (i := 897) (by decide +kernel) rfl), (gt_t (i := 898) (by decide +kernel) rfl), (gt_t (i := 11) (by decide +kernel) rfl), cd_yX0_start, by decide, by decide, by decide +kernel⟩
theorem lkX11_145 : LkV RX11 145 yX11_refresh cX11_refresh 1 none 0 := ⟨(gt_t (i := 900) (by decide +kernel) rfl), (gt_t (i := 902) (by decide +kernel) rfl), (gt_s (i := 34) (by decide +kernel) rfl), (gt_t (i := 1) (by decide +kernel) rfl), cd_yX11_refresh, by decide, by decide, by decide +kernel⟩
theorem lkX11_155 : LkV RX11 155 yX2_reckon cX2_reckon 6 none 2 := ⟨(gt_t (i := 904) (by decide +kernel) rfl), (gt_t (i := 905) (by decide +kernel) rfl), (gt_t (i := 906) (by decide +kernel) rfl), (gt_t (i := 13) (by decide +kernel) rfl), cd_yX2_reckon, by decide, by decide, by decide +kernel⟩
theorem lkX11_159 : LkV RX11 159 yX5_reckon cX5_reckon 3 none 1 := ⟨(gt_t (i := 953) (by decide +kernel) rfl), (gt_t (i := 954) (by decide +kernel) rfl), (gt_t (i := 955) (by decide +kernel) rfl), (gt_t (i := 14) (by decide +kernel) rfl), cd_yX5_reckon, by decide, by decide, by decide +kernel⟩
theorem lkX11_161 : LkV RX11 161 yX7_arrange cX7_arrange 8 none 1 := ⟨(gt_t (i := 980) (by decide +kernel) rfl), (gt_t (i := 981) (by decide +kernel) rfl), (gt_t (i := 982) (by decide +kernel) rfl), (gt_t (i := 15) (by decide +kernel) rfl), cd_yX7_arrange, by decide, by decide, by decide +kernel⟩
theorem lkX11_170 : LkV RX11 170 yX7_settle cX7_settle 3 none 2 := ⟨(gt_t (i := 1002) (by decide +kernel) rfl), (gt_t (i := 1003) (by decide +kernel) rfl), (gt_t (i := 1004) (by decide +kernel) rfl), (gt_t (i := 15) (by decide +kernel) rfl), cd_yX7_settle, by decide, by decide, by decide +kernel⟩
theorem lkX11_174 : LkV RX11 174 yX11_isInput cX11_isInput 2 (some .boolean) 1 := ⟨(gt_t (i := 1055) (by decide +kernel) rfl), (gt_t (i := 1057) (by decide +kernel) rfl), (gt_s (i := 55) (by decide +kernel) rfl), (gt_t (i := 1) (by decide +kernel) rfl), cd_yX11_isInput, by decide, by decide, by decide +kernel⟩
theorem lkX11_178 : LkS RX11 178 yX11_isLane cX11_isLane 1 (some .boolean) 1 := ⟨(gt_t (i := 1059) (by decide +kernel) rfl), (gt_t (i := 1060) (by decide +kernel) rfl), (gt_t (i := 1) (by decide +kernel) rfl), cd_yX11_isLane, by decide, by decide, by decide +kernel⟩
theorem lkX11_191 : LkS RX11 191 yX11_isRange cX11_isRange 2 (some .boolean) 2 := ⟨(gt_t (i := 1074) (by decide +kernel) rfl), (gt_t (i := 1075) (by decide +kernel) rfl), (gt_t (i := 1) (by decide +kernel) rfl), cd_yX11_isRange, by decide, by decide, by decide +kernel⟩
theorem lkX11_195 : LkV RX11 195 yX0_liesWithin cX0_liesWithin 6 (some .boolean) 3 := ⟨(gt_t (i := 1077) (by decide +kernel) rfl), (gt_t (i := 1078) (by decide +kernel) rfl), (gt_t (i := 1079) (by decide +kernel) rfl), (gt_t (i := 11) (by decide +kernel) rfl), cd_yX0_liesWithin, by decide, by decide, by decide +kernel⟩
theorem lkX11_199 : LkV RX11 199 yX11_isValue cX11_isValue 2 (some .boolean) 1 := ⟨(gt_t (i := 1089) (by decide +kernel) rfl), (gt_t (i := 1091) (by decide +kernel) rfl), (gt_s (i := 56) (by decide +kernel) rfl), (gt_t (i := 1) (by decide +kernel) rfl), cd_yX11_isValue, by decide, by decide, by decide +kernel⟩
theorem lkX11_214 : LkV RX11 214 yX2_isKnown cX2_isKnown 2 (some .boolean) 1 := ⟨(gt_t (i := 1093) (by decide +kernel) rfl), (gt_t (i := 917) (by decide +kernel) rfl), (gt_t (i := 918) (by decide +kernel) rfl), (gt_t (i := 13) (by decide +kernel) rfl), cd_yX2_isKnown, by decide, by decide, by decide +kernel⟩
theorem lkX11_217 : LkV RX11 217 yX5_isNeeded cX5_isNeeded 2 (some .boolean) 1 := ⟨(gt_t (i := 1094) (by decide +kernel) rfl), (gt_t (i := 976) (by decide +kernel) rfl), (gt_t (i := 977) (by decide +kernel) rfl), (gt_t (i := 14) (by decide +kernel) rfl), cd_yX5_isNeeded, by decide, by decide, by decide +kernel⟩
theorem lkX11_236 : LkV RX11 236 yX4_reckonLane cX4_reckonLane 7 (some .int) 3 := ⟨(gt_t (i := 1104) (by decide +kernel) rfl), (gt_t (i := 1105) (by decide +kernel) rfl), (gt_t (i := 1106) (by decide +kernel) rfl), (gt_t (i := 12) (by decide +kernel) rfl), cd_yX4_reckonLane, by decide, by decide, by decide +kernel⟩
theorem lkX11_240 : LkV RX11 240 yX11_isShown cX11_isShown 2 (some .boolean) 1 := ⟨(gt_t (i := 1130) (by decide +kernel) rfl), (gt_t (i := 1132) (by decide +kernel) rfl), (gt_s (i := 58) (by decide +kernel) rfl), (gt_t (i := 1) (by decide +kernel) rfl), cd_yX11_isShown, by decide, by decide, by decide +kernel⟩
theorem lkX11_249 : LkV RX11 249 yX4_walk cX4_walk 7 (some .int) 3 := ⟨(gt_t (i := 1323) (by decide +kernel) rfl), (gt_t (i := 1324) (by decide +kernel) rfl), (gt_t (i := 1325) (by decide +kernel) rfl), (gt_t (i := 12) (by decide +kernel) rfl), cd_yX4_walk, by decide, by decide, by decide +kernel⟩
theorem lkX11_253 : LkV RX11 253 yX4_run cX4_run 7 none 2 := ⟨(gt_t (i := 1355) (by decide +kernel) rfl), (gt_t (i := 1356) (by decide +kernel) rfl), (gt_t (i := 1357) (by decide +kernel) rfl), (gt_t (i := 12) (by decide +kernel) rfl), cd_yX4_run, by decide, by decide, by decide +kernel⟩
theorem lkX11_257 : LkV RX11 257 yX4_heldFor cX4_heldFor 4 (some .int) 2 := ⟨(gt_t (i := 1365) (by decide +kernel) rfl), (gt_t (i := 1360) (by decide +kernel) rfl), (gt_t (i := 1361) (by decide +kernel) rfl), (gt_t (i := 12) (by decide +kernel) rfl), cd_yX4_heldFor, by decide, by decide, by decide +kernel⟩
theorem lkX11_264 : LkV RX11 264 yX11_belongs cX11_belongs 3 (some .boolean) 2 := ⟨(gt_t (i := 1138) (by decide +kernel) rfl), (gt_t (i := 1140) (by decide +kernel) rfl), (gt_s (i := 59) (by decide +kernel) rfl), (gt_t (i := 1) (by decide +kernel) rfl), cd_yX11_belongs, by decide, by decide, by decide +kernel⟩
theorem lkX11_267 : LkV RX11 267 yX2_isLow cX2_isLow 2 (some .boolean) 1 := ⟨(gt_t (i := 1142) (by decide +kernel) rfl), (gt_t (i := 950) (by decide +kernel) rfl), (gt_t (i := 951) (by decide +kernel) rfl), (gt_t (i := 13) (by decide +kernel) rfl), cd_yX2_isLow, by decide, by decide, by decide +kernel⟩
theorem lkX11_270 : LkV RX11 270 yX9_isShown cX9_isShown 3 (some .boolean) 1 := ⟨(gt_t (i := 1143) (by decide +kernel) rfl), (gt_t (i := 1144) (by decide +kernel) rfl), (gt_t (i := 1145) (by decide +kernel) rfl), (gt_t (i := 10) (by decide +kernel) rfl), cd_yX9_isShown, by decide, by decide, by decide +kernel⟩
theorem lkX11_284 : LkV RX11 284 yX11_isPlace cX11_isPlace 2 (some .boolean) 1 := ⟨(gt_t (i := 1155) (by decide +kernel) rfl), (gt_t (i := 1157) (by decide +kernel) rfl), (gt_s (i := 60) (by decide +kernel) rfl), (gt_t (i := 1) (by decide +kernel) rfl), cd_yX11_isPlace, by decide, by decide, by decide +kernel⟩
theorem lkX11_302 : LkS RX11 302 yJ13_bitCount_95d88 cJ13_bitCount_95d88 2 (some .int) 1 := ⟨(gt_t (i := 1163) (by decide +kernel) rfl), (gt_t (i := 1164) (by decide +kernel) rfl), (gt_t (i := 24) (by decide +kernel) rfl), cd_yJ13_bitCount_95d88, by decide, by decide, by decide +kernel⟩
theorem lkX11_332 : LkV RX11 332 yX11_imagine cX11_imagine 3 none 2 := ⟨(gt_t (i := 1189) (by decide +kernel) rfl), (gt_t (i := 1191) (by decide +kernel) rfl), (gt_s (i := 61) (by decide +kernel) rfl), (gt_t (i := 1) (by decide +kernel) rfl), cd_yX11_imagine, by decide, by decide, by decide +kernel⟩
theorem lkX11_335 : LkS RX11 335 yX11_cost cX11_cost 2 (some .int) 2 := ⟨(gt_t (i := 1193) (by decide +kernel) rfl), (gt_t (i := 1194) (by decide +kernel) rfl), (gt_t (i := 1) (by decide +kernel) rfl), cd_yX11_cost, by decide, by decide, by decide +kernel⟩
theorem lkX11_338 : LkV RX11 338 yX2_countLow cX2_countLow 3 (some .int) 0 := ⟨(gt_t (i := 1204) (by decide +kernel) rfl), (gt_t (i := 1205) (by decide +kernel) rfl), (gt_t (i := 1206) (by decide +kernel) rfl), (gt_t (i := 13) (by decide +kernel) rfl), cd_yX2_countLow, by decide, by decide, by decide +kernel⟩
theorem lkX11_341 : LkV RX11 341 yX2_countKnown cX2_countKnown 3 (some .int) 0 := ⟨(gt_t (i := 1208) (by decide +kernel) rfl), (gt_t (i := 1209) (by decide +kernel) rfl), (gt_t (i := 1210) (by decide +kernel) rfl), (gt_t (i := 13) (by decide +kernel) rfl), cd_yX2_countKnown, by decide, by decide, by decide +kernel⟩
theorem lkX11_344 : LkV RX11 344 yX7_putAt cX7_putAt 3 none 2 := ⟨(gt_t (i := 1216) (by decide +kernel) rfl), (gt_t (i := 999) (by decide +kernel) rfl), (gt_t (i := 1000) (by decide +kernel) rfl), (gt_t (i := 15) (by decide +kernel) rfl), cd_yX7_putAt, by decide, by decide, by decide +kernel⟩
theorem lkX11_350 : LkV RX11 350 yX1_reckon cX1_reckon 3 (some .int) 0 := ⟨(gt_t (i := 1221) (by decide +kernel) rfl), (gt_t (i := 1222) (by decide +kernel) rfl), (gt_t (i := 1223) (by decide +kernel) rfl), (gt_t (i := 16) (by decide +kernel) rfl), cd_yX1_reckon, by decide, by decide, by decide +kernel⟩
theorem lkX11_371 : LkS RX11 371 yJ9_min_f86c9 cJ9_min_f86c9 4 (some .long) 2 := ⟨(gt_t (i := 935) (by decide +kernel) rfl), (gt_t (i := 936) (by decide +kernel) rfl), (gt_t (i := 19) (by decide +kernel) rfl), cd_yJ9_min_f86c9, by decide, by decide, by decide +kernel⟩
theorem lkX11_377 : LkS RX11 377 yJ9_max_f86c9 cJ9_max_f86c9 4 (some .long) 2 := ⟨(gt_t (i := 938) (by decide +kernel) rfl), (gt_t (i := 939) (by decide +kernel) rfl), (gt_t (i := 19) (by decide +kernel) rfl), cd_yJ9_max_f86c9, by decide, by decide, by decide +kernel⟩
theorem lkX11_380 : LkS RX11 380 yX11_held cX11_held 2 (some .int) 1 := ⟨(gt_t (i := 1116) (by decide +kernel) rfl), (gt_t (i := 931) (by decide +kernel) rfl), (gt_t (i := 1) (by decide +kernel) rfl), cd_yX11_held, by decide, by decide, by decide +kernel⟩
theorem lkX11_383 : LkS RX11 383 yJ9_min_7cf53 cJ9_min_7cf53 2 (some .int) 2 := ⟨(gt_t (i := 1117) (by decide +kernel) rfl), (gt_t (i := 921) (by decide +kernel) rfl), (gt_t (i := 19) (by decide +kernel) rfl), cd_yJ9_min_7cf53, by decide, by decide, by decide +kernel⟩
theorem lkX11_386 : LkS RX11 386 yJ9_max_7cf53 cJ9_max_7cf53 2 (some .int) 2 := ⟨(gt_t (i := 1118) (by decide +kernel) rfl), (gt_t (i := 924) (by decide +kernel) rfl), (gt_t (i := 19) (by decide +kernel) rfl), cd_yJ9_max_7cf53, by decide, by decide, by decide +kernel⟩
theorem lkX11_388 : LkS RX11 388 yJ9_floorMod_7cf53 cJ9_floorMod_7cf53 3 (some .int) 2 := ⟨(gt_t (i := 1119) (by decide +kernel) rfl), (gt_t (i := 1120) (by decide +kernel) rfl), (gt_t (i := 19) (by decide +kernel) rfl), cd_yJ9_floorMod_7cf53, by decide, by decide, by decide +kernel⟩
theorem lkX1_38 : LkV RX1 38 yX1_gather cX1_gather 2 none 0 := ⟨(gt_t (i := 1225) (by decide +kernel) rfl), (gt_t (i := 1227) (by decide +kernel) rfl), (gt_s (i := 62) (by decide +kernel) rfl), (gt_t (i := 16) (by decide +kernel) rfl), cd_yX1_gather, by decide, by decide, by decide +kernel⟩
theorem lkX1_46 : LkV RX1 46 yX1_living cX1_living 5 (some .int) 1 := ⟨(gt_t (i := 1235) (by decide +kernel) rfl), (gt_t (i := 1237) (by decide +kernel) rfl), (gt_s (i := 64) (by decide +kernel) rfl), (gt_t (i := 16) (by decide +kernel) rfl), cd_yX1_living, by decide, by decide, by decide +kernel⟩
theorem lkX1_50 : LkS RX1 50 yJ9_max_7cf53 cJ9_max_7cf53 2 (some .int) 2 := ⟨(gt_t (i := 1240) (by decide +kernel) rfl), (gt_t (i := 924) (by decide +kernel) rfl), (gt_t (i := 19) (by decide +kernel) rfl), cd_yJ9_max_7cf53, by decide, by decide, by decide +kernel⟩
theorem lkX1_56 : LkV RX1 56 yX1_goOn cX1_goOn 4 none 1 := ⟨(gt_t (i := 1241) (by decide +kernel) rfl), (gt_t (i := 1243) (by decide +kernel) rfl), (gt_s (i := 65) (by decide +kernel) rfl), (gt_t (i := 16) (by decide +kernel) rfl), cd_yX1_goOn, by decide, by decide, by decide +kernel⟩
theorem lkX1_65 : LkV RX1 65 yX5_isNeeded cX5_isNeeded 2 (some .boolean) 1 := ⟨(gt_t (i := 1229) (by decide +kernel) rfl), (gt_t (i := 976) (by decide +kernel) rfl), (gt_t (i := 977) (by decide +kernel) rfl), (gt_t (i := 14) (by decide +kernel) rfl), cd_yX5_isNeeded, by decide, by decide, by decide +kernel⟩
theorem lkX1_75 : LkV RX1 75 yX1_asSet cX1_asSet 5 (some .int) 1 := ⟨(gt_t (i := 1230) (by decide +kernel) rfl), (gt_t (i := 1232) (by decide +kernel) rfl), (gt_s (i := 63) (by decide +kernel) rfl), (gt_t (i := 16) (by decide +kernel) rfl), cd_yX1_asSet, by decide, by decide, by decide +kernel⟩
theorem lkX1_82 : LkV RX1 82 yX5_isKept cX5_isKept 2 (some .boolean) 1 := ⟨(gt_t (i := 1239) (by decide +kernel) rfl), (gt_t (i := 995) (by decide +kernel) rfl), (gt_t (i := 996) (by decide +kernel) rfl), (gt_t (i := 14) (by decide +kernel) rfl), cd_yX5_isKept, by decide, by decide, by decide +kernel⟩
theorem lkX1_90 : LkS RX1 90 yJ9_min_7cf53 cJ9_min_7cf53 2 (some .int) 2 := ⟨(gt_t (i := 1245) (by decide +kernel) rfl), (gt_t (i := 921) (by decide +kernel) rfl), (gt_t (i := 19) (by decide +kernel) rfl), cd_yJ9_min_7cf53, by decide, by decide, by decide +kernel⟩
theorem lkX2_37 : LkV RX2 37 yX2_put cX2_put 4 none 3 := ⟨(gt_t (i := 908) (by decide +kernel) rfl), (gt_t (i := 910) (by decide +kernel) rfl), (gt_s (i := 35) (by decide +kernel) rfl), (gt_t (i := 13) (by decide +kernel) rfl), cd_yX2_put, by decide, by decide, by decide +kernel⟩
theorem lkX2_41 : LkV RX2 41 yX2_putPick cX2_putPick 6 none 4 := ⟨(gt_t (i := 912) (by decide +kernel) rfl), (gt_t (i := 914) (by decide +kernel) rfl), (gt_s (i := 36) (by decide +kernel) rfl), (gt_t (i := 13) (by decide +kernel) rfl), cd_yX2_putPick, by decide, by decide, by decide +kernel⟩
theorem lkX2_45 : LkV RX2 45 yX2_putPair cX2_putPair 9 none 3 := ⟨(gt_t (i := 926) (by decide +kernel) rfl), (gt_t (i := 928) (by decide +kernel) rfl), (gt_s (i := 37) (by decide +kernel) rfl), (gt_t (i := 13) (by decide +kernel) rfl), cd_yX2_putPair, by decide, by decide, by decide +kernel⟩
theorem lkX2_52 : LkV RX2 52 yX2_isLow cX2_isLow 2 (some .boolean) 1 := ⟨(gt_t (i := 949) (by decide +kernel) rfl), (gt_t (i := 950) (by decide +kernel) rfl), (gt_t (i := 951) (by decide +kernel) rfl), (gt_t (i := 13) (by decide +kernel) rfl), cd_yX2_isLow, by decide, by decide, by decide +kernel⟩
theorem lkX2_56 : LkV RX2 56 yX2_isKnown cX2_isKnown 2 (some .boolean) 1 := ⟨(gt_t (i := 916) (by decide +kernel) rfl), (gt_t (i := 917) (by decide +kernel) rfl), (gt_t (i := 918) (by decide +kernel) rfl), (gt_t (i := 13) (by decide +kernel) rfl), cd_yX2_isKnown, by decide, by decide, by decide +kernel⟩
theorem lkX2_59 : LkS RX2 59 yJ9_min_7cf53 cJ9_min_7cf53 2 (some .int) 2 := ⟨(gt_t (i := 920) (by decide +kernel) rfl), (gt_t (i := 921) (by decide +kernel) rfl), (gt_t (i := 19) (by decide +kernel) rfl), cd_yJ9_min_7cf53, by decide, by decide, by decide +kernel⟩
theorem lkX2_65 : LkS RX2 65 yJ9_max_7cf53 cJ9_max_7cf53 2 (some .int) 2 := ⟨(gt_t (i := 923) (by decide +kernel) rfl), (gt_t (i := 924) (by decide +kernel) rfl), (gt_t (i := 19) (by decide +kernel) rfl), cd_yJ9_max_7cf53, by decide, by decide, by decide +kernel⟩
theorem lkX2_68 : LkN RX2 68 yX11_held "ShaderReady" cX11_held 2 (some .int) 1 := ⟨List.mem_filter.mpr ⟨List.mem_of_getElem? (i := 930) (by decide +kernel), rfl⟩, (gt_t (i := 931) (by decide +kernel) rfl), (gt_t (i := 1) (by decide +kernel) rfl), cd_yX11_held, by decide, by decide, by decide +kernel⟩
theorem lkX2_72 : LkV RX2 72 yX2_putProduct cX2_putProduct 9 none 3 := ⟨(gt_t (i := 941) (by decide +kernel) rfl), (gt_t (i := 943) (by decide +kernel) rfl), (gt_s (i := 38) (by decide +kernel) rfl), (gt_t (i := 13) (by decide +kernel) rfl), cd_yX2_putProduct, by decide, by decide, by decide +kernel⟩
theorem lkX2_75 : LkV RX2 75 yX2_putFlag cX2_putFlag 4 none 3 := ⟨(gt_t (i := 945) (by decide +kernel) rfl), (gt_t (i := 947) (by decide +kernel) rfl), (gt_s (i := 39) (by decide +kernel) rfl), (gt_t (i := 13) (by decide +kernel) rfl), cd_yX2_putFlag, by decide, by decide, by decide +kernel⟩
theorem lkX4_36 : LkN RX4 36 yX11_argsOf "ShaderReady" cX11_argsOf 1 (some .int) 1 := ⟨List.mem_filter.mpr ⟨List.mem_of_getElem? (i := 1108) (by decide +kernel), rfl⟩, (gt_t (i := 744) (by decide +kernel) rfl), (gt_t (i := 1) (by decide +kernel) rfl), cd_yX11_argsOf, by decide, by decide, by decide +kernel⟩
theorem lkX4_43 : LkV RX4 43 yX4_reckonOne cX4_reckonOne 5 (some .int) 3 := ⟨(gt_t (i := 1109) (by decide +kernel) rfl), (gt_t (i := 1111) (by decide +kernel) rfl), (gt_s (i := 57) (by decide +kernel) rfl), (gt_t (i := 12) (by decide +kernel) rfl), cd_yX4_reckonOne, by decide, by decide, by decide +kernel⟩
theorem lkX4_55 : LkN RX4 55 yX11_made "ShaderReady" cX11_made 5 (some .int) 5 := ⟨List.mem_filter.mpr ⟨List.mem_of_getElem? (i := 1113) (by decide +kernel), rfl⟩, (gt_t (i := 1114) (by decide +kernel) rfl), (gt_t (i := 1) (by decide +kernel) rfl), cd_yX11_made, by decide, by decide, by decide +kernel⟩
theorem lkX4_70 : LkV RX4 70 yX4_argNumber cX4_argNumber 5 (some .int) 3 := ⟨(gt_t (i := 1327) (by decide +kernel) rfl), (gt_t (i := 1329) (by decide +kernel) rfl), (gt_s (i := 67) (by decide +kernel) rfl), (gt_t (i := 12) (by decide +kernel) rfl), cd_yX4_argNumber, by decide, by decide, by decide +kernel⟩
theorem lkX4_74 : LkV RX4 74 yX4_walkLine cX4_walkLine 4 (some .int) 3 := ⟨(gt_t (i := 1331) (by decide +kernel) rfl), (gt_t (i := 1333) (by decide +kernel) rfl), (gt_s (i := 68) (by decide +kernel) rfl), (gt_t (i := 12) (by decide +kernel) rfl), cd_yX4_walkLine, by decide, by decide, by decide +kernel⟩
theorem lkX4_79 : LkV RX4 79 yX4_walkIs cX4_walkIs 5 none 2 := ⟨(gt_t (i := 1335) (by decide +kernel) rfl), (gt_t (i := 1337) (by decide +kernel) rfl), (gt_s (i := 69) (by decide +kernel) rfl), (gt_t (i := 12) (by decide +kernel) rfl), cd_yX4_walkIs, by decide, by decide, by decide +kernel⟩
theorem lkX4_86 : LkV RX4 86 yX4_walkTimes cX4_walkTimes 2 none 1 := ⟨(gt_t (i := 1339) (by decide +kernel) rfl), (gt_t (i := 1341) (by decide +kernel) rfl), (gt_s (i := 70) (by decide +kernel) rfl), (gt_t (i := 12) (by decide +kernel) rfl), cd_yX4_walkTimes, by decide, by decide, by decide +kernel⟩
theorem lkX4_90 : LkV RX4 90 yX3_endsTimes cX3_endsTimes 2 (some .boolean) 1 := ⟨(gt_t (i := 1343) (by decide +kernel) rfl), (gt_t (i := 876) (by decide +kernel) rfl), (gt_t (i := 877) (by decide +kernel) rfl), (gt_t (i := 8) (by decide +kernel) rfl), cd_yX3_endsTimes, by decide, by decide, by decide +kernel⟩
theorem lkX4_94 : LkV RX4 94 yX4_walkTimesEnd cX4_walkTimesEnd 3 (some .int) 2 := ⟨(gt_t (i := 1344) (by decide +kernel) rfl), (gt_t (i := 1346) (by decide +kernel) rfl), (gt_s (i := 71) (by decide +kernel) rfl), (gt_t (i := 12) (by decide +kernel) rfl), cd_yX4_walkTimesEnd, by decide, by decide, by decide +kernel⟩
theorem lkX4_114 : LkV RX4 114 yX4_heldFor cX4_heldFor 4 (some .int) 2 := ⟨(gt_t (i := 1359) (by decide +kernel) rfl), (gt_t (i := 1360) (by decide +kernel) rfl), (gt_t (i := 1361) (by decide +kernel) rfl), (gt_t (i := 12) (by decide +kernel) rfl), cd_yX4_heldFor, by decide, by decide, by decide +kernel⟩
theorem lkX4_118 : LkV RX4 118 yX7_halfOf cX7_halfOf 2 (some .int) 1 := ⟨(gt_t (i := 1364) (by decide +kernel) rfl), (gt_t (i := 1032) (by decide +kernel) rfl), (gt_t (i := 1033) (by decide +kernel) rfl), (gt_t (i := 15) (by decide +kernel) rfl), cd_yX7_halfOf, by decide, by decide, by decide +kernel⟩
theorem lkX4_134 : LkV RX4 134 yX2_isKnown cX2_isKnown 2 (some .boolean) 1 := ⟨(gt_t (i := 1363) (by decide +kernel) rfl), (gt_t (i := 917) (by decide +kernel) rfl), (gt_t (i := 918) (by decide +kernel) rfl), (gt_t (i := 13) (by decide +kernel) rfl), cd_yX2_isKnown, by decide, by decide, by decide +kernel⟩
theorem lkX5_51 : LkV RX5 51 yX5_findStandsFor cX5_findStandsFor 4 none 1 := ⟨(gt_t (i := 957) (by decide +kernel) rfl), (gt_t (i := 959) (by decide +kernel) rfl), (gt_s (i := 40) (by decide +kernel) rfl), (gt_t (i := 14) (by decide +kernel) rfl), cd_yX5_findStandsFor, by decide, by decide, by decide +kernel⟩
theorem lkX5_55 : LkV RX5 55 yX5_findSources cX5_findSources 5 none 1 := ⟨(gt_t (i := 962) (by decide +kernel) rfl), (gt_t (i := 964) (by decide +kernel) rfl), (gt_s (i := 41) (by decide +kernel) rfl), (gt_t (i := 14) (by decide +kernel) rfl), cd_yX5_findSources, by decide, by decide, by decide +kernel⟩
theorem lkX5_58 : LkV RX5 58 yX5_keepShown cX5_keepShown 4 none 1 := ⟨(gt_t (i := 967) (by decide +kernel) rfl), (gt_t (i := 969) (by decide +kernel) rfl), (gt_s (i := 42) (by decide +kernel) rfl), (gt_t (i := 14) (by decide +kernel) rfl), cd_yX5_keepShown, by decide, by decide, by decide +kernel⟩
theorem lkX5_61 : LkV RX5 61 yX5_findUsers cX5_findUsers 4 none 0 := ⟨(gt_t (i := 971) (by decide +kernel) rfl), (gt_t (i := 973) (by decide +kernel) rfl), (gt_s (i := 43) (by decide +kernel) rfl), (gt_t (i := 14) (by decide +kernel) rfl), cd_yX5_findUsers, by decide, by decide, by decide +kernel⟩
theorem lkX5_77 : LkV RX5 77 yX2_isKnown cX2_isKnown 2 (some .boolean) 1 := ⟨(gt_t (i := 961) (by decide +kernel) rfl), (gt_t (i := 917) (by decide +kernel) rfl), (gt_t (i := 918) (by decide +kernel) rfl), (gt_t (i := 13) (by decide +kernel) rfl), cd_yX2_isKnown, by decide, by decide, by decide +kernel⟩
theorem lkX5_86 : LkN RX5 86 yX11_argsOf "ShaderReady" cX11_argsOf 1 (some .int) 1 := ⟨List.mem_filter.mpr ⟨List.mem_of_getElem? (i := 966) (by decide +kernel), rfl⟩, (gt_t (i := 744) (by decide +kernel) rfl), (gt_t (i := 1) (by decide +kernel) rfl), cd_yX11_argsOf, by decide, by decide, by decide +kernel⟩
theorem lkX5_96 : LkV RX5 96 yX5_isNeeded cX5_isNeeded 2 (some .boolean) 1 := ⟨(gt_t (i := 975) (by decide +kernel) rfl), (gt_t (i := 976) (by decide +kernel) rfl), (gt_t (i := 977) (by decide +kernel) rfl), (gt_t (i := 14) (by decide +kernel) rfl), cd_yX5_isNeeded, by decide, by decide, by decide +kernel⟩
theorem lkX5_99 : LkS RX5 99 yJ9_max_7cf53 cJ9_max_7cf53 2 (some .int) 2 := ⟨(gt_t (i := 979) (by decide +kernel) rfl), (gt_t (i := 924) (by decide +kernel) rfl), (gt_t (i := 19) (by decide +kernel) rfl), cd_yJ9_max_7cf53, by decide, by decide, by decide +kernel⟩
theorem lkX6_37 : LkV RX6 37 yX3_clear cX3_clear 1 none 0 := ⟨(gt_t (i := 692) (by decide +kernel) rfl), (gt_t (i := 693) (by decide +kernel) rfl), (gt_t (i := 694) (by decide +kernel) rfl), (gt_t (i := 8) (by decide +kernel) rfl), cd_yX3_clear, by decide, by decide, by decide +kernel⟩
theorem lkX6_57 : LkV RX6 57 yX8_rewind cX8_rewind 1 none 0 := ⟨(gt_t (i := 696) (by decide +kernel) rfl), (gt_t (i := 697) (by decide +kernel) rfl), (gt_t (i := 698) (by decide +kernel) rfl), (gt_t (i := 2) (by decide +kernel) rfl), cd_yX8_rewind, by decide, by decide, by decide +kernel⟩
theorem lkX6_62 : LkV RX6 62 yX8_advance cX8_advance 2 none 0 := ⟨(gt_t (i := 700) (by decide +kernel) rfl), (gt_t (i := 701) (by decide +kernel) rfl), (gt_t (i := 702) (by decide +kernel) rfl), (gt_t (i := 2) (by decide +kernel) rfl), cd_yX8_advance, by decide, by decide, by decide +kernel⟩
theorem lkX6_68 : LkV RX6 68 yX6_readLine cX6_readLine 1 (some .int) 0 := ⟨(gt_t (i := 712) (by decide +kernel) rfl), (gt_t (i := 714) (by decide +kernel) rfl), (gt_s (i := 3) (by decide +kernel) rfl), (gt_t (i := 7) (by decide +kernel) rfl), cd_yX6_readLine, by decide, by decide, by decide +kernel⟩
theorem lkX6_72 : LkV RX6 72 yX6_faultHere cX6_faultHere 2 (some .int) 1 := ⟨(gt_t (i := 716) (by decide +kernel) rfl), (gt_t (i := 718) (by decide +kernel) rfl), (gt_s (i := 4) (by decide +kernel) rfl), (gt_t (i := 7) (by decide +kernel) rfl), cd_yX6_faultHere, by decide, by decide, by decide +kernel⟩
theorem lkX6_84 : LkV RX6 84 yX6_readIs cX6_readIs 6 (some .int) 0 := ⟨(gt_t (i := 720) (by decide +kernel) rfl), (gt_t (i := 722) (by decide +kernel) rfl), (gt_s (i := 5) (by decide +kernel) rfl), (gt_t (i := 7) (by decide +kernel) rfl), cd_yX6_readIs, by decide, by decide, by decide +kernel⟩
theorem lkX6_90 : LkV RX6 90 yX6_readInput cX6_readInput 4 (some .int) 1 := ⟨(gt_t (i := 765) (by decide +kernel) rfl), (gt_t (i := 767) (by decide +kernel) rfl), (gt_s (i := 12) (by decide +kernel) rfl), (gt_t (i := 7) (by decide +kernel) rfl), cd_yX6_readInput, by decide, by decide, by decide +kernel⟩
theorem lkX6_94 : LkV RX6 94 yX6_readFetch cX6_readFetch 2 (some .int) 0 := ⟨(gt_t (i := 777) (by decide +kernel) rfl), (gt_t (i := 779) (by decide +kernel) rfl), (gt_s (i := 15) (by decide +kernel) rfl), (gt_t (i := 7) (by decide +kernel) rfl), cd_yX6_readFetch, by decide, by decide, by decide +kernel⟩
theorem lkX6_97 : LkV RX6 97 yX6_readAlu cX6_readAlu 2 (some .int) 0 := ⟨(gt_t (i := 781) (by decide +kernel) rfl), (gt_t (i := 783) (by decide +kernel) rfl), (gt_s (i := 16) (by decide +kernel) rfl), (gt_t (i := 7) (by decide +kernel) rfl), cd_yX6_readAlu, by decide, by decide, by decide +kernel⟩
theorem lkX6_100 : LkV RX6 100 yX6_readWhen cX6_readWhen 3 (some .int) 0 := ⟨(gt_t (i := 785) (by decide +kernel) rfl), (gt_t (i := 787) (by decide +kernel) rfl), (gt_s (i := 17) (by decide +kernel) rfl), (gt_t (i := 7) (by decide +kernel) rfl), cd_yX6_readWhen, by decide, by decide, by decide +kernel⟩
theorem lkX6_103 : LkV RX6 103 yX6_readElse cX6_readElse 2 (some .int) 0 := ⟨(gt_t (i := 789) (by decide +kernel) rfl), (gt_t (i := 791) (by decide +kernel) rfl), (gt_s (i := 18) (by decide +kernel) rfl), (gt_t (i := 7) (by decide +kernel) rfl), cd_yX6_readElse, by decide, by decide, by decide +kernel⟩
theorem lkX6_106 : LkV RX6 106 yX6_readTimes cX6_readTimes 3 (some .int) 0 := ⟨(gt_t (i := 793) (by decide +kernel) rfl), (gt_t (i := 795) (by decide +kernel) rfl), (gt_s (i := 19) (by decide +kernel) rfl), (gt_t (i := 7) (by decide +kernel) rfl), cd_yX6_readTimes, by decide, by decide, by decide +kernel⟩
theorem lkX6_109 : LkV RX6 109 yX6_readEnd cX6_readEnd 4 (some .int) 0 := ⟨(gt_t (i := 797) (by decide +kernel) rfl), (gt_t (i := 799) (by decide +kernel) rfl), (gt_s (i := 20) (by decide +kernel) rfl), (gt_t (i := 7) (by decide +kernel) rfl), cd_yX6_readEnd, by decide, by decide, by decide +kernel⟩
theorem lkX6_112 : LkV RX6 112 yX6_readShow cX6_readShow 3 (some .int) 0 := ⟨(gt_t (i := 801) (by decide +kernel) rfl), (gt_t (i := 803) (by decide +kernel) rfl), (gt_s (i := 21) (by decide +kernel) rfl), (gt_t (i := 7) (by decide +kernel) rfl), cd_yX6_readShow, by decide, by decide, by decide +kernel⟩
theorem lkX6_120 : LkV RX6 120 yX6_readInputName cX6_readInputName 3 (some .int) 1 := ⟨(gt_t (i := 769) (by decide +kernel) rfl), (gt_t (i := 771) (by decide +kernel) rfl), (gt_s (i := 13) (by decide +kernel) rfl), (gt_t (i := 7) (by decide +kernel) rfl), cd_yX6_readInputName, by decide, by decide, by decide +kernel⟩
theorem lkX6_123 : LkV RX6 123 yX6_readNumber cX6_readNumber 3 (some .int) 2 := ⟨(gt_t (i := 773) (by decide +kernel) rfl), (gt_t (i := 775) (by decide +kernel) rfl), (gt_s (i := 14) (by decide +kernel) rfl), (gt_t (i := 7) (by decide +kernel) rfl), cd_yX6_readNumber, by decide, by decide, by decide +kernel⟩
theorem lkX6_133 : LkV RX6 133 yX6_readSemicolon cX6_readSemicolon 1 (some .int) 0 := ⟨(gt_t (i := 757) (by decide +kernel) rfl), (gt_t (i := 759) (by decide +kernel) rfl), (gt_s (i := 10) (by decide +kernel) rfl), (gt_t (i := 7) (by decide +kernel) rfl), cd_yX6_readSemicolon, by decide, by decide, by decide +kernel⟩
theorem lkX6_136 : LkV RX6 136 yX3_open cX3_open 4 (some .int) 2 := ⟨(gt_t (i := 728) (by decide +kernel) rfl), (gt_t (i := 729) (by decide +kernel) rfl), (gt_t (i := 730) (by decide +kernel) rfl), (gt_t (i := 8) (by decide +kernel) rfl), cd_yX3_open, by decide, by decide, by decide +kernel⟩
theorem lkX6_143 : LkV RX6 143 yX6_slotOf cX6_slotOf 4 (some .int) 1 := ⟨(gt_t (i := 724) (by decide +kernel) rfl), (gt_t (i := 726) (by decide +kernel) rfl), (gt_s (i := 6) (by decide +kernel) rfl), (gt_t (i := 7) (by decide +kernel) rfl), cd_yX6_slotOf, by decide, by decide, by decide +kernel⟩
theorem lkX6_153 : LkV RX6 153 yX6_tell cX6_tell 6 (some .int) 3 := ⟨(gt_t (i := 761) (by decide +kernel) rfl), (gt_t (i := 763) (by decide +kernel) rfl), (gt_s (i := 11) (by decide +kernel) rfl), (gt_t (i := 7) (by decide +kernel) rfl), cd_yX6_tell, by decide, by decide, by decide +kernel⟩
theorem lkX6_163 : LkV RX6 163 yX6_takeArg cX6_takeArg 5 (some .int) 3 := ⟨(gt_t (i := 753) (by decide +kernel) rfl), (gt_t (i := 755) (by decide +kernel) rfl), (gt_s (i := 9) (by decide +kernel) rfl), (gt_t (i := 7) (by decide +kernel) rfl), cd_yX6_takeArg, by decide, by decide, by decide +kernel⟩
theorem lkX6_176 : LkV RX6 176 yX8_isWord cX8_isWord 2 (some .boolean) 1 := ⟨(gt_t (i := 732) (by decide +kernel) rfl), (gt_t (i := 733) (by decide +kernel) rfl), (gt_t (i := 734) (by decide +kernel) rfl), (gt_t (i := 2) (by decide +kernel) rfl), cd_yX8_isWord, by decide, by decide, by decide +kernel⟩
theorem lkX6_180 : LkV RX6 180 yX6_readOp cX6_readOp 7 (some .int) 2 := ⟨(gt_t (i := 736) (by decide +kernel) rfl), (gt_t (i := 738) (by decide +kernel) rfl), (gt_s (i := 7) (by decide +kernel) rfl), (gt_t (i := 7) (by decide +kernel) rfl), cd_yX6_readOp, by decide, by decide, by decide +kernel⟩
theorem lkX6_186 : LkN RX6 186 yX11_typeMade "ShaderReady" cX11_typeMade 1 (some .int) 1 := ⟨List.mem_filter.mpr ⟨List.mem_of_getElem? (i := 740) (by decide +kernel), rfl⟩, (gt_t (i := 741) (by decide +kernel) rfl), (gt_t (i := 1) (by decide +kernel) rfl), cd_yX11_typeMade, by decide, by decide, by decide +kernel⟩
theorem lkX6_195 : LkN RX6 195 yX11_argsOf "ShaderReady" cX11_argsOf 1 (some .int) 1 := ⟨List.mem_filter.mpr ⟨List.mem_of_getElem? (i := 743) (by decide +kernel), rfl⟩, (gt_t (i := 744) (by decide +kernel) rfl), (gt_t (i := 1) (by decide +kernel) rfl), cd_yX11_argsOf, by decide, by decide, by decide +kernel⟩
theorem lkX6_198 : LkV RX6 198 yX6_typeWanted cX6_typeWanted 4 (some .int) 3 := ⟨(gt_t (i := 746) (by decide +kernel) rfl), (gt_t (i := 748) (by decide +kernel) rfl), (gt_s (i := 8) (by decide +kernel) rfl), (gt_t (i := 7) (by decide +kernel) rfl), cd_yX6_typeWanted, by decide, by decide, by decide +kernel⟩
theorem lkX6_201 : LkN RX6 201 yX11_typeTaken "ShaderReady" cX11_typeTaken 1 (some .int) 1 := ⟨List.mem_filter.mpr ⟨List.mem_of_getElem? (i := 750) (by decide +kernel), rfl⟩, (gt_t (i := 751) (by decide +kernel) rfl), (gt_t (i := 1) (by decide +kernel) rfl), cd_yX11_typeTaken, by decide, by decide, by decide +kernel⟩
theorem lkX7_70 : LkV RX7 70 yX5_isNeeded cX5_isNeeded 2 (some .boolean) 1 := ⟨(gt_t (i := 984) (by decide +kernel) rfl), (gt_t (i := 976) (by decide +kernel) rfl), (gt_t (i := 977) (by decide +kernel) rfl), (gt_t (i := 14) (by decide +kernel) rfl), cd_yX5_isNeeded, by decide, by decide, by decide +kernel⟩
theorem lkX7_82 : LkV RX7 82 yX7_goesAhead cX7_goesAhead 7 (some .boolean) 4 := ⟨(gt_t (i := 986) (by decide +kernel) rfl), (gt_t (i := 988) (by decide +kernel) rfl), (gt_s (i := 44) (by decide +kernel) rfl), (gt_t (i := 15) (by decide +kernel) rfl), cd_yX7_goesAhead, by decide, by decide, by decide +kernel⟩
theorem lkX7_86 : LkV RX7 86 yX7_putAt cX7_putAt 3 none 2 := ⟨(gt_t (i := 998) (by decide +kernel) rfl), (gt_t (i := 999) (by decide +kernel) rfl), (gt_t (i := 1000) (by decide +kernel) rfl), (gt_t (i := 15) (by decide +kernel) rfl), cd_yX7_putAt, by decide, by decide, by decide +kernel⟩
theorem lkX7_90 : LkV RX7 90 yX7_growth cX7_growth 9 (some .int) 2 := ⟨(gt_t (i := 990) (by decide +kernel) rfl), (gt_t (i := 992) (by decide +kernel) rfl), (gt_s (i := 45) (by decide +kernel) rfl), (gt_t (i := 15) (by decide +kernel) rfl), cd_yX7_growth, by decide, by decide, by decide +kernel⟩
theorem lkX7_114 : LkV RX7 114 yX5_isKept cX5_isKept 2 (some .boolean) 1 := ⟨(gt_t (i := 994) (by decide +kernel) rfl), (gt_t (i := 995) (by decide +kernel) rfl), (gt_t (i := 996) (by decide +kernel) rfl), (gt_t (i := 14) (by decide +kernel) rfl), cd_yX5_isKept, by decide, by decide, by decide +kernel⟩
theorem lkX7_117 : LkV RX7 117 yX7_findEnds cX7_findEnds 5 none 0 := ⟨(gt_t (i := 1006) (by decide +kernel) rfl), (gt_t (i := 1008) (by decide +kernel) rfl), (gt_s (i := 46) (by decide +kernel) rfl), (gt_t (i := 15) (by decide +kernel) rfl), cd_yX7_findEnds, by decide, by decide, by decide +kernel⟩
theorem lkX7_120 : LkV RX7 120 yX7_findPressures cX7_findPressures 3 none 0 := ⟨(gt_t (i := 1011) (by decide +kernel) rfl), (gt_t (i := 1013) (by decide +kernel) rfl), (gt_s (i := 47) (by decide +kernel) rfl), (gt_t (i := 15) (by decide +kernel) rfl), cd_yX7_findPressures, by decide, by decide, by decide +kernel⟩
theorem lkX7_123 : LkV RX7 123 yX7_giveRegisters cX7_giveRegisters 4 none 0 := ⟨(gt_t (i := 1023) (by decide +kernel) rfl), (gt_t (i := 1025) (by decide +kernel) rfl), (gt_s (i := 49) (by decide +kernel) rfl), (gt_t (i := 15) (by decide +kernel) rfl), cd_yX7_giveRegisters, by decide, by decide, by decide +kernel⟩
theorem lkX7_126 : LkV RX7 126 yX7_cutClauses cX7_cutClauses 6 none 2 := ⟨(gt_t (i := 1039) (by decide +kernel) rfl), (gt_t (i := 1041) (by decide +kernel) rfl), (gt_s (i := 52) (by decide +kernel) rfl), (gt_t (i := 15) (by decide +kernel) rfl), cd_yX7_cutClauses, by decide, by decide, by decide +kernel⟩
theorem lkX7_129 : LkS RX7 129 yJ9_max_7cf53 cJ9_max_7cf53 2 (some .int) 2 := ⟨(gt_t (i := 1010) (by decide +kernel) rfl), (gt_t (i := 924) (by decide +kernel) rfl), (gt_t (i := 19) (by decide +kernel) rfl), cd_yJ9_max_7cf53, by decide, by decide, by decide +kernel⟩
theorem lkX7_135 : LkV RX7 135 yX7_pressureAt cX7_pressureAt 6 (some .int) 2 := ⟨(gt_t (i := 1015) (by decide +kernel) rfl), (gt_t (i := 1017) (by decide +kernel) rfl), (gt_s (i := 48) (by decide +kernel) rfl), (gt_t (i := 15) (by decide +kernel) rfl), cd_yX7_pressureAt, by decide, by decide, by decide +kernel⟩
theorem lkX7_138 : LkV RX7 138 yX7_fileOf cX7_fileOf 2 (some .int) 1 := ⟨(gt_t (i := 1019) (by decide +kernel) rfl), (gt_t (i := 1020) (by decide +kernel) rfl), (gt_t (i := 1021) (by decide +kernel) rfl), (gt_t (i := 15) (by decide +kernel) rfl), cd_yX7_fileOf, by decide, by decide, by decide +kernel⟩
theorem lkX7_145 : LkV RX7 145 yX7_mark cX7_mark 4 none 2 := ⟨(gt_t (i := 1027) (by decide +kernel) rfl), (gt_t (i := 1029) (by decide +kernel) rfl), (gt_s (i := 50) (by decide +kernel) rfl), (gt_t (i := 15) (by decide +kernel) rfl), cd_yX7_mark, by decide, by decide, by decide +kernel⟩
theorem lkX7_149 : LkV RX7 149 yX7_lowestFree cX7_lowestFree 5 (some .int) 2 := ⟨(gt_t (i := 1035) (by decide +kernel) rfl), (gt_t (i := 1037) (by decide +kernel) rfl), (gt_s (i := 51) (by decide +kernel) rfl), (gt_t (i := 15) (by decide +kernel) rfl), cd_yX7_lowestFree, by decide, by decide, by decide +kernel⟩
theorem lkX7_152 : LkV RX7 152 yX7_halfOf cX7_halfOf 2 (some .int) 1 := ⟨(gt_t (i := 1031) (by decide +kernel) rfl), (gt_t (i := 1032) (by decide +kernel) rfl), (gt_t (i := 1033) (by decide +kernel) rfl), (gt_t (i := 15) (by decide +kernel) rfl), cd_yX7_halfOf, by decide, by decide, by decide +kernel⟩
theorem lkX7_161 : LkV RX7 161 yX7_joins cX7_joins 7 (some .boolean) 3 := ⟨(gt_t (i := 1043) (by decide +kernel) rfl), (gt_t (i := 1045) (by decide +kernel) rfl), (gt_s (i := 53) (by decide +kernel) rfl), (gt_t (i := 15) (by decide +kernel) rfl), cd_yX7_joins, by decide, by decide, by decide +kernel⟩
theorem lkX7_165 : LkV RX7 165 yX7_cyclesOf cX7_cyclesOf 3 (some .int) 1 := ⟨(gt_t (i := 1047) (by decide +kernel) rfl), (gt_t (i := 1049) (by decide +kernel) rfl), (gt_s (i := 54) (by decide +kernel) rfl), (gt_t (i := 15) (by decide +kernel) rfl), cd_yX7_cyclesOf, by decide, by decide, by decide +kernel⟩
theorem lkX8_21 : LkV RX8 21 yJ0_length_8abf5 cJ0_length_8abf5 1 (some .int) 0 := ⟨(gt_t (i := 40) (by decide +kernel) rfl), (gt_t (i := 41) (by decide +kernel) rfl), (gt_t (i := 42) (by decide +kernel) rfl), (gt_t (i := 3) (by decide +kernel) rfl), cd_yJ0_length_8abf5, by decide, by decide, by decide +kernel⟩
theorem lkX8_27 : LkV RX8 27 yJ0_charAt_5068e cJ0_charAt_5068e 2 (some .char) 1 := ⟨(gt_t (i := 50) (by decide +kernel) rfl), (gt_t (i := 51) (by decide +kernel) rfl), (gt_t (i := 52) (by decide +kernel) rfl), (gt_t (i := 3) (by decide +kernel) rfl), cd_yJ0_charAt_5068e, by decide, by decide, by decide +kernel⟩
theorem lkX8_45 : LkV RX8 45 yX8_readWord cX8_readWord 2 none 0 := ⟨(gt_t (i := 704) (by decide +kernel) rfl), (gt_t (i := 706) (by decide +kernel) rfl), (gt_s (i := 1) (by decide +kernel) rfl), (gt_t (i := 2) (by decide +kernel) rfl), cd_yX8_readWord, by decide, by decide, by decide +kernel⟩
theorem lkX8_48 : LkV RX8 48 yX8_readNumeral cX8_readNumeral 1 none 0 := ⟨(gt_t (i := 708) (by decide +kernel) rfl), (gt_t (i := 710) (by decide +kernel) rfl), (gt_s (i := 2) (by decide +kernel) rfl), (gt_t (i := 2) (by decide +kernel) rfl), cd_yX8_readNumeral, by decide, by decide, by decide +kernel⟩
theorem lkX9_43 : LkV RX9 43 yX9_single cX9_single 7 (some .int) 4 := ⟨(gt_t (i := 817) (by decide +kernel) rfl), (gt_t (i := 818) (by decide +kernel) rfl), (gt_t (i := 819) (by decide +kernel) rfl), (gt_t (i := 10) (by decide +kernel) rfl), cd_yX9_single, by decide, by decide, by decide +kernel⟩
theorem lkX9_53 : LkN RX9 53 yX11_goesEitherWay "ShaderReady" cX11_goesEitherWay 1 (some .boolean) 1 := ⟨List.mem_filter.mpr ⟨List.mem_of_getElem? (i := 849) (by decide +kernel), rfl⟩, (gt_t (i := 850) (by decide +kernel) rfl), (gt_t (i := 1) (by decide +kernel) rfl), cd_yX11_goesEitherWay, by decide, by decide, by decide +kernel⟩
theorem lkX9_57 : LkN RX9 57 yX11_typeMade "ShaderReady" cX11_typeMade 1 (some .int) 1 := ⟨List.mem_filter.mpr ⟨List.mem_of_getElem? (i := 821) (by decide +kernel), rfl⟩, (gt_t (i := 741) (by decide +kernel) rfl), (gt_t (i := 1) (by decide +kernel) rfl), cd_yX11_typeMade, by decide, by decide, by decide +kernel⟩
theorem lkX9_61 : LkN RX9 61 yX11_argsOf "ShaderReady" cX11_argsOf 1 (some .int) 1 := ⟨List.mem_filter.mpr ⟨List.mem_of_getElem? (i := 822) (by decide +kernel), rfl⟩, (gt_t (i := 744) (by decide +kernel) rfl), (gt_t (i := 1) (by decide +kernel) rfl), cd_yX11_argsOf, by decide, by decide, by decide +kernel⟩
theorem lkX10_39 : LkV RX10 39 yX9_start cX9_start 4 none 1 := ⟨(gt_t (i := 813) (by decide +kernel) rfl), (gt_t (i := 814) (by decide +kernel) rfl), (gt_t (i := 815) (by decide +kernel) rfl), (gt_t (i := 10) (by decide +kernel) rfl), cd_yX9_start, by decide, by decide, by decide +kernel⟩
theorem lkX10_58 : LkV RX10 58 yX10_countLine cX10_countLine 4 none 2 := ⟨(gt_t (i := 823) (by decide +kernel) rfl), (gt_t (i := 825) (by decide +kernel) rfl), (gt_s (i := 22) (by decide +kernel) rfl), (gt_t (i := 9) (by decide +kernel) rfl), cd_yX10_countLine, by decide, by decide, by decide +kernel⟩
theorem lkX10_62 : LkV RX10 62 yX10_workLine cX10_workLine 3 (some .int) 2 := ⟨(gt_t (i := 831) (by decide +kernel) rfl), (gt_t (i := 833) (by decide +kernel) rfl), (gt_s (i := 24) (by decide +kernel) rfl), (gt_t (i := 9) (by decide +kernel) rfl), cd_yX10_workLine, by decide, by decide, by decide +kernel⟩
theorem lkX10_72 : LkV RX10 72 yX10_tooMany cX10_tooMany 2 none 1 := ⟨(gt_t (i := 827) (by decide +kernel) rfl), (gt_t (i := 829) (by decide +kernel) rfl), (gt_s (i := 23) (by decide +kernel) rfl), (gt_t (i := 9) (by decide +kernel) rfl), cd_yX10_tooMany, by decide, by decide, by decide +kernel⟩
theorem lkX10_82 : LkV RX10 82 yX10_workIs cX10_workIs 5 none 2 := ⟨(gt_t (i := 835) (by decide +kernel) rfl), (gt_t (i := 837) (by decide +kernel) rfl), (gt_s (i := 25) (by decide +kernel) rfl), (gt_t (i := 9) (by decide +kernel) rfl), cd_yX10_workIs, by decide, by decide, by decide +kernel⟩
theorem lkX10_85 : LkV RX10 85 yX10_workShow cX10_workShow 4 none 2 := ⟨(gt_t (i := 856) (by decide +kernel) rfl), (gt_t (i := 858) (by decide +kernel) rfl), (gt_s (i := 28) (by decide +kernel) rfl), (gt_t (i := 9) (by decide +kernel) rfl), cd_yX10_workShow, by decide, by decide, by decide +kernel⟩
theorem lkX10_88 : LkV RX10 88 yX10_beginWhen cX10_beginWhen 4 none 2 := ⟨(gt_t (i := 860) (by decide +kernel) rfl), (gt_t (i := 862) (by decide +kernel) rfl), (gt_s (i := 29) (by decide +kernel) rfl), (gt_t (i := 9) (by decide +kernel) rfl), cd_yX10_beginWhen, by decide, by decide, by decide +kernel⟩
theorem lkX10_91 : LkV RX10 91 yX10_endFirstPart cX10_endFirstPart 2 none 1 := ⟨(gt_t (i := 867) (by decide +kernel) rfl), (gt_t (i := 869) (by decide +kernel) rfl), (gt_s (i := 30) (by decide +kernel) rfl), (gt_t (i := 9) (by decide +kernel) rfl), cd_yX10_endFirstPart, by decide, by decide, by decide +kernel⟩
theorem lkX10_94 : LkV RX10 94 yX10_beginTimes cX10_beginTimes 2 none 1 := ⟨(gt_t (i := 871) (by decide +kernel) rfl), (gt_t (i := 873) (by decide +kernel) rfl), (gt_s (i := 31) (by decide +kernel) rfl), (gt_t (i := 9) (by decide +kernel) rfl), cd_yX10_beginTimes, by decide, by decide, by decide +kernel⟩
theorem lkX10_97 : LkV RX10 97 yX3_endsTimes cX3_endsTimes 2 (some .boolean) 1 := ⟨(gt_t (i := 875) (by decide +kernel) rfl), (gt_t (i := 876) (by decide +kernel) rfl), (gt_t (i := 877) (by decide +kernel) rfl), (gt_t (i := 8) (by decide +kernel) rfl), cd_yX3_endsTimes, by decide, by decide, by decide +kernel⟩
theorem lkX10_101 : LkV RX10 101 yX10_endTimes cX10_endTimes 3 (some .int) 2 := ⟨(gt_t (i := 879) (by decide +kernel) rfl), (gt_t (i := 881) (by decide +kernel) rfl), (gt_s (i := 32) (by decide +kernel) rfl), (gt_t (i := 9) (by decide +kernel) rfl), cd_yX10_endTimes, by decide, by decide, by decide +kernel⟩
theorem lkX10_104 : LkV RX10 104 yX10_endWhen cX10_endWhen 6 (some .int) 2 := ⟨(gt_t (i := 883) (by decide +kernel) rfl), (gt_t (i := 885) (by decide +kernel) rfl), (gt_s (i := 33) (by decide +kernel) rfl), (gt_t (i := 9) (by decide +kernel) rfl), cd_yX10_endWhen, by decide, by decide, by decide +kernel⟩
theorem lkX10_116 : LkN RX10 116 yX11_argsOf "ShaderReady" cX11_argsOf 1 (some .int) 1 := ⟨List.mem_filter.mpr ⟨List.mem_of_getElem? (i := 839) (by decide +kernel), rfl⟩, (gt_t (i := 744) (by decide +kernel) rfl), (gt_t (i := 1) (by decide +kernel) rfl), cd_yX11_argsOf, by decide, by decide, by decide +kernel⟩
theorem lkX10_120 : LkV RX10 120 yX10_argValue cX10_argValue 6 (some .int) 3 := ⟨(gt_t (i := 840) (by decide +kernel) rfl), (gt_t (i := 842) (by decide +kernel) rfl), (gt_s (i := 26) (by decide +kernel) rfl), (gt_t (i := 9) (by decide +kernel) rfl), cd_yX10_argValue, by decide, by decide, by decide +kernel⟩
theorem lkX10_124 : LkV RX10 124 yX9_ofOp cX9_ofOp 5 (some .int) 4 := ⟨(gt_t (i := 845) (by decide +kernel) rfl), (gt_t (i := 846) (by decide +kernel) rfl), (gt_t (i := 847) (by decide +kernel) rfl), (gt_t (i := 10) (by decide +kernel) rfl), cd_yX9_ofOp, by decide, by decide, by decide +kernel⟩
theorem lkX10_131 : LkV RX10 131 yX10_keep cX10_keep 4 none 3 := ⟨(gt_t (i := 852) (by decide +kernel) rfl), (gt_t (i := 854) (by decide +kernel) rfl), (gt_s (i := 27) (by decide +kernel) rfl), (gt_t (i := 9) (by decide +kernel) rfl), cd_yX10_keep, by decide, by decide, by decide +kernel⟩
theorem lkX10_144 : LkV RX10 144 yX9_single cX9_single 7 (some .int) 4 := ⟨(gt_t (i := 844) (by decide +kernel) rfl), (gt_t (i := 818) (by decide +kernel) rfl), (gt_t (i := 819) (by decide +kernel) rfl), (gt_t (i := 10) (by decide +kernel) rfl), cd_yX9_single, by decide, by decide, by decide +kernel⟩
theorem lkX10_160 : LkV RX10 160 yX3_hasElse cX3_hasElse 2 (some .boolean) 1 := ⟨(gt_t (i := 887) (by decide +kernel) rfl), (gt_t (i := 888) (by decide +kernel) rfl), (gt_t (i := 889) (by decide +kernel) rfl), (gt_t (i := 8) (by decide +kernel) rfl), cd_yX3_hasElse, by decide, by decide, by decide +kernel⟩
theorem lkL_7 : LkV RL 7 yX11_walked cX11_walked 3 (some .int) 2 := ⟨(gt_t (i := 1258) (by decide +kernel) rfl), (gt_t (i := 1259) (by decide +kernel) rfl), (gt_t (i := 1260) (by decide +kernel) rfl), (gt_t (i := 1) (by decide +kernel) rfl), cd_yX11_walked, by decide, by decide, by decide +kernel⟩
theorem lkL_15 : LkV RL 15 yX11_ran cX11_ran 3 (some .int) 2 := ⟨(gt_t (i := 1351) (by decide +kernel) rfl), (gt_t (i := 1352) (by decide +kernel) rfl), (gt_t (i := 1353) (by decide +kernel) rfl), (gt_t (i := 1) (by decide +kernel) rfl), cd_yX11_ran, by decide, by decide, by decide +kernel⟩
theorem lkL_24 : LkV RL 24 yX11_feed cX11_feed 7 (some .int) 3 := ⟨(gt_t (i := 672) (by decide +kernel) rfl), (gt_t (i := 673) (by decide +kernel) rfl), (gt_t (i := 674) (by decide +kernel) rfl), (gt_t (i := 1) (by decide +kernel) rfl), cd_yX11_feed, by decide, by decide, by decide +kernel⟩
theorem lkL_28 : LkV RL 28 yX12_feed cX12_feed 7 (some .int) 3 := ⟨(gt_t (i := 1370) (by decide +kernel) rfl), (gt_t (i := 1371) (by decide +kernel) rfl), (gt_t (i := 1372) (by decide +kernel) rfl), (gt_t (i := 17) (by decide +kernel) rfl), cd_yX12_feed, by decide, by decide, by decide +kernel⟩
theorem lkL_29 : LkV RL 29 yX11_shader cX11_shader 3 (some .int) 0 := ⟨(gt_t (i := 684) (by decide +kernel) rfl), (gt_t (i := 685) (by decide +kernel) rfl), (gt_t (i := 686) (by decide +kernel) rfl), (gt_t (i := 1) (by decide +kernel) rfl), cd_yX11_shader, by decide, by decide, by decide +kernel⟩
theorem lkL_33 : LkV RL 33 yX12_shader cX12_shader 3 (some .int) 0 := ⟨(gt_t (i := 1574) (by decide +kernel) rfl), (gt_t (i := 1575) (by decide +kernel) rfl), (gt_t (i := 1576) (by decide +kernel) rfl), (gt_t (i := 17) (by decide +kernel) rfl), cd_yX12_shader, by decide, by decide, by decide +kernel⟩
theorem lkL_34 : LkV RL 34 yX11_set cX11_set 6 (some .int) 3 := ⟨(gt_t (i := 1051) (by decide +kernel) rfl), (gt_t (i := 1052) (by decide +kernel) rfl), (gt_t (i := 1053) (by decide +kernel) rfl), (gt_t (i := 1) (by decide +kernel) rfl), cd_yX11_set, by decide, by decide, by decide +kernel⟩
theorem lkL_38 : LkV RL 38 yX12_set cX12_set 7 (some .int) 3 := ⟨(gt_t (i := 1735) (by decide +kernel) rfl), (gt_t (i := 1736) (by decide +kernel) rfl), (gt_t (i := 1737) (by decide +kernel) rfl), (gt_t (i := 17) (by decide +kernel) rfl), cd_yX12_set, by decide, by decide, by decide +kernel⟩
theorem lkL_39 : LkV RL 39 yX11_cell cX11_cell 4 (some .int) 2 := ⟨(gt_t (i := 1062) (by decide +kernel) rfl), (gt_t (i := 1063) (by decide +kernel) rfl), (gt_t (i := 1064) (by decide +kernel) rfl), (gt_t (i := 1) (by decide +kernel) rfl), cd_yX11_cell, by decide, by decide, by decide +kernel⟩
theorem lkL_42 : LkV RL 42 yX12_cell cX12_cell 4 (some .int) 2 := ⟨(gt_t (i := 1749) (by decide +kernel) rfl), (gt_t (i := 1750) (by decide +kernel) rfl), (gt_t (i := 1751) (by decide +kernel) rfl), (gt_t (i := 17) (by decide +kernel) rfl), cd_yX12_cell, by decide, by decide, by decide +kernel⟩
theorem lkL_43 : LkV RL 43 yX11_rule cX11_rule 3 (some .int) 1 := ⟨(gt_t (i := 1066) (by decide +kernel) rfl), (gt_t (i := 1067) (by decide +kernel) rfl), (gt_t (i := 1068) (by decide +kernel) rfl), (gt_t (i := 1) (by decide +kernel) rfl), cd_yX11_rule, by decide, by decide, by decide +kernel⟩
theorem lkL_47 : LkV RL 47 yX12_rule cX12_rule 3 (some .int) 1 := ⟨(gt_t (i := 1753) (by decide +kernel) rfl), (gt_t (i := 1754) (by decide +kernel) rfl), (gt_t (i := 1755) (by decide +kernel) rfl), (gt_t (i := 17) (by decide +kernel) rfl), cd_yX12_rule, by decide, by decide, by decide +kernel⟩
theorem lkL_48 : LkV RL 48 yX11_narrow cX11_narrow 4 (some .boolean) 3 := ⟨(gt_t (i := 1070) (by decide +kernel) rfl), (gt_t (i := 1071) (by decide +kernel) rfl), (gt_t (i := 1072) (by decide +kernel) rfl), (gt_t (i := 1) (by decide +kernel) rfl), cd_yX11_narrow, by decide, by decide, by decide +kernel⟩
theorem lkL_52 : LkV RL 52 yX12_narrow cX12_narrow 6 (some .boolean) 3 := ⟨(gt_t (i := 1757) (by decide +kernel) rfl), (gt_t (i := 1758) (by decide +kernel) rfl), (gt_t (i := 1759) (by decide +kernel) rfl), (gt_t (i := 17) (by decide +kernel) rfl), cd_yX12_narrow, by decide, by decide, by decide +kernel⟩
theorem lkL_53 : LkV RL 53 yX11_input cX11_input 3 (some .int) 2 := ⟨(gt_t (i := 1081) (by decide +kernel) rfl), (gt_t (i := 1082) (by decide +kernel) rfl), (gt_t (i := 1083) (by decide +kernel) rfl), (gt_t (i := 1) (by decide +kernel) rfl), cd_yX11_input, by decide, by decide, by decide +kernel⟩
theorem lkL_56 : LkV RL 56 yX12_input cX12_input 3 (some .int) 2 := ⟨(gt_t (i := 1764) (by decide +kernel) rfl), (gt_t (i := 1765) (by decide +kernel) rfl), (gt_t (i := 1766) (by decide +kernel) rfl), (gt_t (i := 17) (by decide +kernel) rfl), cd_yX12_input, by decide, by decide, by decide +kernel⟩
theorem lkL_57 : LkV RL 57 yX11_value cX11_value 3 (some .int) 2 := ⟨(gt_t (i := 1085) (by decide +kernel) rfl), (gt_t (i := 1086) (by decide +kernel) rfl), (gt_t (i := 1087) (by decide +kernel) rfl), (gt_t (i := 1) (by decide +kernel) rfl), cd_yX11_value, by decide, by decide, by decide +kernel⟩
theorem lkL_60 : LkV RL 60 yX12_value cX12_value 3 (some .int) 2 := ⟨(gt_t (i := 1878) (by decide +kernel) rfl), (gt_t (i := 1879) (by decide +kernel) rfl), (gt_t (i := 1880) (by decide +kernel) rfl), (gt_t (i := 17) (by decide +kernel) rfl), cd_yX12_value, by decide, by decide, by decide +kernel⟩
theorem lkL_61 : LkV RL 61 yX11_range cX11_range 3 (some .int) 2 := ⟨(gt_t (i := 1095) (by decide +kernel) rfl), (gt_t (i := 1096) (by decide +kernel) rfl), (gt_t (i := 1097) (by decide +kernel) rfl), (gt_t (i := 1) (by decide +kernel) rfl), cd_yX11_range, by decide, by decide, by decide +kernel⟩
theorem lkL_64 : LkV RL 64 yX12_range cX12_range 3 (some .int) 2 := ⟨(gt_t (i := 1768) (by decide +kernel) rfl), (gt_t (i := 1769) (by decide +kernel) rfl), (gt_t (i := 1770) (by decide +kernel) rfl), (gt_t (i := 17) (by decide +kernel) rfl), cd_yX12_range, by decide, by decide, by decide +kernel⟩
theorem lkL_65 : LkV RL 65 yX11_is cX11_is 3 (some .int) 2 := ⟨(gt_t (i := 1100) (by decide +kernel) rfl), (gt_t (i := 1101) (by decide +kernel) rfl), (gt_t (i := 1102) (by decide +kernel) rfl), (gt_t (i := 1) (by decide +kernel) rfl), cd_yX11_is, by decide, by decide, by decide +kernel⟩
theorem lkL_68 : LkV RL 68 yX12_is cX12_is 3 (some .int) 2 := ⟨(gt_t (i := 1830) (by decide +kernel) rfl), (gt_t (i := 1831) (by decide +kernel) rfl), (gt_t (i := 1832) (by decide +kernel) rfl), (gt_t (i := 17) (by decide +kernel) rfl), cd_yX12_is, by decide, by decide, by decide +kernel⟩
theorem lkL_69 : LkV RL 69 yX11_differs cX11_differs 5 (some .int) 1 := ⟨(gt_t (i := 1122) (by decide +kernel) rfl), (gt_t (i := 1123) (by decide +kernel) rfl), (gt_t (i := 1124) (by decide +kernel) rfl), (gt_t (i := 1) (by decide +kernel) rfl), cd_yX11_differs, by decide, by decide, by decide +kernel⟩
theorem lkL_72 : LkV RL 72 yX12_differs cX12_differs 5 (some .int) 1 := ⟨(gt_t (i := 1846) (by decide +kernel) rfl), (gt_t (i := 1847) (by decide +kernel) rfl), (gt_t (i := 1848) (by decide +kernel) rfl), (gt_t (i := 17) (by decide +kernel) rfl), cd_yX12_differs, by decide, by decide, by decide +kernel⟩
theorem lkL_73 : LkV RL 73 yX11_shown cX11_shown 2 (some .int) 1 := ⟨(gt_t (i := 1126) (by decide +kernel) rfl), (gt_t (i := 1127) (by decide +kernel) rfl), (gt_t (i := 1128) (by decide +kernel) rfl), (gt_t (i := 1) (by decide +kernel) rfl), cd_yX11_shown, by decide, by decide, by decide +kernel⟩
theorem lkL_76 : LkV RL 76 yX12_shown cX12_shown 2 (some .int) 1 := ⟨(gt_t (i := 1850) (by decide +kernel) rfl), (gt_t (i := 1851) (by decide +kernel) rfl), (gt_t (i := 1852) (by decide +kernel) rfl), (gt_t (i := 17) (by decide +kernel) rfl), cd_yX12_shown, by decide, by decide, by decide +kernel⟩
theorem lkL_82 : LkV RL 82 yX12_walked cX12_walked 3 (some .int) 2 := ⟨(gt_t (i := 1854) (by decide +kernel) rfl), (gt_t (i := 1855) (by decide +kernel) rfl), (gt_t (i := 1856) (by decide +kernel) rfl), (gt_t (i := 17) (by decide +kernel) rfl), cd_yX12_walked, by decide, by decide, by decide +kernel⟩
theorem lkL_83 : LkV RL 83 yX12_thrown cX12_thrown 1 (some .int) 0 := ⟨(gt_t (i := 1366) (by decide +kernel) rfl), (gt_t (i := 1367) (by decide +kernel) rfl), (gt_t (i := 1368) (by decide +kernel) rfl), (gt_t (i := 17) (by decide +kernel) rfl), cd_yX12_thrown, by decide, by decide, by decide +kernel⟩
theorem lkL_88 : LkV RL 88 yX12_ran cX12_ran 7 (some .int) 2 := ⟨(gt_t (i := 2025) (by decide +kernel) rfl), (gt_t (i := 2026) (by decide +kernel) rfl), (gt_t (i := 2027) (by decide +kernel) rfl), (gt_t (i := 17) (by decide +kernel) rfl), cd_yX12_ran, by decide, by decide, by decide +kernel⟩
theorem lkL_89 : LkV RL 89 yX11_all cX11_all 5 (some .long) 1 := ⟨(gt_t (i := 1134) (by decide +kernel) rfl), (gt_t (i := 1135) (by decide +kernel) rfl), (gt_t (i := 1136) (by decide +kernel) rfl), (gt_t (i := 1) (by decide +kernel) rfl), cd_yX11_all, by decide, by decide, by decide +kernel⟩
theorem lkL_93 : LkV RL 93 yX12_all cX12_all 6 (some .long) 1 := ⟨(gt_t (i := 1909) (by decide +kernel) rfl), (gt_t (i := 1910) (by decide +kernel) rfl), (gt_t (i := 1911) (by decide +kernel) rfl), (gt_t (i := 17) (by decide +kernel) rfl), cd_yX12_all, by decide, by decide, by decide +kernel⟩
theorem lkL_94 : LkV RL 94 yX11_kin cX11_kin 3 (some .long) 2 := ⟨(gt_t (i := 1147) (by decide +kernel) rfl), (gt_t (i := 1148) (by decide +kernel) rfl), (gt_t (i := 1149) (by decide +kernel) rfl), (gt_t (i := 1) (by decide +kernel) rfl), cd_yX11_kin, by decide, by decide, by decide +kernel⟩
theorem lkL_98 : LkV RL 98 yX12_kin cX12_kin 3 (some .long) 2 := ⟨(gt_t (i := 1913) (by decide +kernel) rfl), (gt_t (i := 1914) (by decide +kernel) rfl), (gt_t (i := 1915) (by decide +kernel) rfl), (gt_t (i := 17) (by decide +kernel) rfl), cd_yX12_kin, by decide, by decide, by decide +kernel⟩
theorem lkL_99 : LkV RL 99 yX11_order cX11_order 2 (some .int) 1 := ⟨(gt_t (i := 1151) (by decide +kernel) rfl), (gt_t (i := 1152) (by decide +kernel) rfl), (gt_t (i := 1153) (by decide +kernel) rfl), (gt_t (i := 1) (by decide +kernel) rfl), cd_yX11_order, by decide, by decide, by decide +kernel⟩
theorem lkL_102 : LkV RL 102 yX12_order cX12_order 2 (some .int) 1 := ⟨(gt_t (i := 1925) (by decide +kernel) rfl), (gt_t (i := 1926) (by decide +kernel) rfl), (gt_t (i := 1927) (by decide +kernel) rfl), (gt_t (i := 17) (by decide +kernel) rfl), cd_yX12_order, by decide, by decide, by decide +kernel⟩
theorem lkL_103 : LkV RL 103 yX11_place cX11_place 3 (some .int) 2 := ⟨(gt_t (i := 1159) (by decide +kernel) rfl), (gt_t (i := 1160) (by decide +kernel) rfl), (gt_t (i := 1161) (by decide +kernel) rfl), (gt_t (i := 1) (by decide +kernel) rfl), cd_yX11_place, by decide, by decide, by decide +kernel⟩
theorem lkL_106 : LkV RL 106 yX12_place cX12_place 3 (some .int) 2 := ⟨(gt_t (i := 1970) (by decide +kernel) rfl), (gt_t (i := 1971) (by decide +kernel) rfl), (gt_t (i := 1972) (by decide +kernel) rfl), (gt_t (i := 17) (by decide +kernel) rfl), cd_yX12_place, by decide, by decide, by decide +kernel⟩
theorem lkL_107 : LkV RL 107 yX11_pressure cX11_pressure 2 (some .int) 1 := ⟨(gt_t (i := 1169) (by decide +kernel) rfl), (gt_t (i := 1170) (by decide +kernel) rfl), (gt_t (i := 1171) (by decide +kernel) rfl), (gt_t (i := 1) (by decide +kernel) rfl), cd_yX11_pressure, by decide, by decide, by decide +kernel⟩
theorem lkL_110 : LkV RL 110 yX12_pressure cX12_pressure 2 (some .int) 1 := ⟨(gt_t (i := 1977) (by decide +kernel) rfl), (gt_t (i := 1978) (by decide +kernel) rfl), (gt_t (i := 1979) (by decide +kernel) rfl), (gt_t (i := 17) (by decide +kernel) rfl), cd_yX12_pressure, by decide, by decide, by decide +kernel⟩
theorem lkL_111 : LkV RL 111 yX11_at cX11_at 4 (some .int) 2 := ⟨(gt_t (i := 1173) (by decide +kernel) rfl), (gt_t (i := 1174) (by decide +kernel) rfl), (gt_t (i := 1175) (by decide +kernel) rfl), (gt_t (i := 1) (by decide +kernel) rfl), cd_yX11_at, by decide, by decide, by decide +kernel⟩
theorem lkL_114 : LkV RL 114 yX12_at cX12_at 3 (some .int) 2 := ⟨(gt_t (i := 1989) (by decide +kernel) rfl), (gt_t (i := 1990) (by decide +kernel) rfl), (gt_t (i := 1991) (by decide +kernel) rfl), (gt_t (i := 17) (by decide +kernel) rfl), cd_yX12_at, by decide, by decide, by decide +kernel⟩
theorem lkL_115 : LkV RL 115 yX11_used cX11_used 2 (some .int) 1 := ⟨(gt_t (i := 1177) (by decide +kernel) rfl), (gt_t (i := 1178) (by decide +kernel) rfl), (gt_t (i := 1179) (by decide +kernel) rfl), (gt_t (i := 1) (by decide +kernel) rfl), cd_yX11_used, by decide, by decide, by decide +kernel⟩
theorem lkL_118 : LkV RL 118 yX12_used cX12_used 2 (some .int) 1 := ⟨(gt_t (i := 1993) (by decide +kernel) rfl), (gt_t (i := 1994) (by decide +kernel) rfl), (gt_t (i := 1995) (by decide +kernel) rfl), (gt_t (i := 17) (by decide +kernel) rfl), cd_yX12_used, by decide, by decide, by decide +kernel⟩
theorem lkL_119 : LkV RL 119 yX11_clause cX11_clause 3 (some .int) 2 := ⟨(gt_t (i := 1181) (by decide +kernel) rfl), (gt_t (i := 1182) (by decide +kernel) rfl), (gt_t (i := 1183) (by decide +kernel) rfl), (gt_t (i := 1) (by decide +kernel) rfl), cd_yX11_clause, by decide, by decide, by decide +kernel⟩
theorem lkL_122 : LkV RL 122 yX12_clause cX12_clause 3 (some .int) 2 := ⟨(gt_t (i := 1997) (by decide +kernel) rfl), (gt_t (i := 1998) (by decide +kernel) rfl), (gt_t (i := 1999) (by decide +kernel) rfl), (gt_t (i := 17) (by decide +kernel) rfl), cd_yX12_clause, by decide, by decide, by decide +kernel⟩
theorem lkL_123 : LkV RL 123 yX11_by cX11_by 3 (some .int) 2 := ⟨(gt_t (i := 1185) (by decide +kernel) rfl), (gt_t (i := 1186) (by decide +kernel) rfl), (gt_t (i := 1187) (by decide +kernel) rfl), (gt_t (i := 1) (by decide +kernel) rfl), cd_yX11_by, by decide, by decide, by decide +kernel⟩
theorem lkL_126 : LkV RL 126 yX12_by cX12_by 3 (some .int) 2 := ⟨(gt_t (i := 2001) (by decide +kernel) rfl), (gt_t (i := 2002) (by decide +kernel) rfl), (gt_t (i := 2003) (by decide +kernel) rfl), (gt_t (i := 17) (by decide +kernel) rfl), cd_yX12_by, by decide, by decide, by decide +kernel⟩
theorem lkL_127 : LkV RL 127 yX11_alone cX11_alone 3 (some .int) 2 := ⟨(gt_t (i := 1196) (by decide +kernel) rfl), (gt_t (i := 1197) (by decide +kernel) rfl), (gt_t (i := 1198) (by decide +kernel) rfl), (gt_t (i := 1) (by decide +kernel) rfl), cd_yX11_alone, by decide, by decide, by decide +kernel⟩
theorem lkL_130 : LkV RL 130 yX12_alone cX12_alone 3 (some .int) 2 := ⟨(gt_t (i := 2009) (by decide +kernel) rfl), (gt_t (i := 2010) (by decide +kernel) rfl), (gt_t (i := 2011) (by decide +kernel) rfl), (gt_t (i := 17) (by decide +kernel) rfl), cd_yX12_alone, by decide, by decide, by decide +kernel⟩
theorem lkL_131 : LkV RL 131 yX11_narrowed cX11_narrowed 7 (some .int) 4 := ⟨(gt_t (i := 1200) (by decide +kernel) rfl), (gt_t (i := 1201) (by decide +kernel) rfl), (gt_t (i := 1202) (by decide +kernel) rfl), (gt_t (i := 1) (by decide +kernel) rfl), cd_yX11_narrowed, by decide, by decide, by decide +kernel⟩
theorem lkL_135 : LkV RL 135 yX12_narrowed cX12_narrowed 5 (some .int) 4 := ⟨(gt_t (i := 2013) (by decide +kernel) rfl), (gt_t (i := 2014) (by decide +kernel) rfl), (gt_t (i := 2015) (by decide +kernel) rfl), (gt_t (i := 17) (by decide +kernel) rfl), cd_yX12_narrowed, by decide, by decide, by decide +kernel⟩
theorem lkL_136 : LkV RL 136 yX11_swapped cX11_swapped 5 (some .int) 2 := ⟨(gt_t (i := 1212) (by decide +kernel) rfl), (gt_t (i := 1213) (by decide +kernel) rfl), (gt_t (i := 1214) (by decide +kernel) rfl), (gt_t (i := 1) (by decide +kernel) rfl), cd_yX11_swapped, by decide, by decide, by decide +kernel⟩
theorem lkL_139 : LkV RL 139 yX12_swapped cX12_swapped 4 (some .int) 2 := ⟨(gt_t (i := 2021) (by decide +kernel) rfl), (gt_t (i := 2022) (by decide +kernel) rfl), (gt_t (i := 2023) (by decide +kernel) rfl), (gt_t (i := 17) (by decide +kernel) rfl), cd_yX12_swapped, by decide, by decide, by decide +kernel⟩
theorem lkL_140 : LkV RL 140 yX11_best cX11_best 1 (some .int) 0 := ⟨(gt_t (i := 1217) (by decide +kernel) rfl), (gt_t (i := 1218) (by decide +kernel) rfl), (gt_t (i := 1219) (by decide +kernel) rfl), (gt_t (i := 1) (by decide +kernel) rfl), cd_yX11_best, by decide, by decide, by decide +kernel⟩
theorem lkL_143 : LkV RL 143 yX12_best cX12_best 4 (some .int) 0 := ⟨(gt_t (i := 2033) (by decide +kernel) rfl), (gt_t (i := 2034) (by decide +kernel) rfl), (gt_t (i := 2035) (by decide +kernel) rfl), (gt_t (i := 17) (by decide +kernel) rfl), cd_yX12_best, by decide, by decide, by decide +kernel⟩
theorem lkL_144 : LkV RL 144 yX11_parts cX11_parts 2 (some .int) 1 := ⟨(gt_t (i := 1246) (by decide +kernel) rfl), (gt_t (i := 1247) (by decide +kernel) rfl), (gt_t (i := 1248) (by decide +kernel) rfl), (gt_t (i := 1) (by decide +kernel) rfl), cd_yX11_parts, by decide, by decide, by decide +kernel⟩
theorem lkL_147 : LkV RL 147 yX12_parts cX12_parts 2 (some .int) 1 := ⟨(gt_t (i := 2049) (by decide +kernel) rfl), (gt_t (i := 2050) (by decide +kernel) rfl), (gt_t (i := 2051) (by decide +kernel) rfl), (gt_t (i := 17) (by decide +kernel) rfl), cd_yX12_parts, by decide, by decide, by decide +kernel⟩
theorem lkL_148 : LkV RL 148 yX11_count cX11_count 2 (some .int) 1 := ⟨(gt_t (i := 1250) (by decide +kernel) rfl), (gt_t (i := 1251) (by decide +kernel) rfl), (gt_t (i := 1252) (by decide +kernel) rfl), (gt_t (i := 1) (by decide +kernel) rfl), cd_yX11_count, by decide, by decide, by decide +kernel⟩
theorem lkL_151 : LkV RL 151 yX12_count cX12_count 2 (some .int) 1 := ⟨(gt_t (i := 2053) (by decide +kernel) rfl), (gt_t (i := 2054) (by decide +kernel) rfl), (gt_t (i := 2055) (by decide +kernel) rfl), (gt_t (i := 17) (by decide +kernel) rfl), cd_yX12_count, by decide, by decide, by decide +kernel⟩
theorem lkX12_7 : LkV RX12 7 yX12_lay cX12_lay 5 none 1 := ⟨(gt_t (i := 1374) (by decide +kernel) rfl), (gt_t (i := 1376) (by decide +kernel) rfl), (gt_s (i := 72) (by decide +kernel) rfl), (gt_t (i := 17) (by decide +kernel) rfl), cd_yX12_lay, by decide, by decide, by decide +kernel⟩
theorem lkX12_21 : LkS RX12 21 yX12_isLetter cX12_isLetter 1 (some .boolean) 1 := ⟨(gt_t (i := 1582) (by decide +kernel) rfl), (gt_t (i := 1583) (by decide +kernel) rfl), (gt_t (i := 17) (by decide +kernel) rfl), cd_yX12_isLetter, by decide, by decide, by decide +kernel⟩
theorem lkX12_25 : LkS RX12 25 yX12_isDigit cX12_isDigit 1 (some .boolean) 1 := ⟨(gt_t (i := 1585) (by decide +kernel) rfl), (gt_t (i := 1586) (by decide +kernel) rfl), (gt_t (i := 17) (by decide +kernel) rfl), cd_yX12_isDigit, by decide, by decide, by decide +kernel⟩
theorem lkX12_39 : LkV RX12 39 yX12_behindRun cX12_behindRun 4 (some .int) 2 := ⟨(gt_t (i := 1588) (by decide +kernel) rfl), (gt_t (i := 1590) (by decide +kernel) rfl), (gt_s (i := 75) (by decide +kernel) rfl), (gt_t (i := 17) (by decide +kernel) rfl), cd_yX12_behindRun, by decide, by decide, by decide +kernel⟩
theorem lkX12_50 : LkV RX12 50 yX12_worthOf cX12_worthOf 7 (some .long) 3 := ⟨(gt_t (i := 1592) (by decide +kernel) rfl), (gt_t (i := 1594) (by decide +kernel) rfl), (gt_s (i := 76) (by decide +kernel) rfl), (gt_t (i := 17) (by decide +kernel) rfl), cd_yX12_worthOf, by decide, by decide, by decide +kernel⟩
theorem lkX12_63 : LkV RX12 63 yX12_isWord cX12_isWord 2 (some .boolean) 1 := ⟨(gt_t (i := 1608) (by decide +kernel) rfl), (gt_t (i := 1610) (by decide +kernel) rfl), (gt_s (i := 79) (by decide +kernel) rfl), (gt_t (i := 17) (by decide +kernel) rfl), cd_yX12_isWord, by decide, by decide, by decide +kernel⟩
theorem lkX12_66 : LkV RX12 66 yX12_wrong cX12_wrong 2 none 1 := ⟨(gt_t (i := 1616) (by decide +kernel) rfl), (gt_t (i := 1618) (by decide +kernel) rfl), (gt_s (i := 81) (by decide +kernel) rfl), (gt_t (i := 17) (by decide +kernel) rfl), cd_yX12_wrong, by decide, by decide, by decide +kernel⟩
theorem lkX12_70 : LkV RX12 70 yX12_wordHere cX12_wordHere 5 (some .int) 2 := ⟨(gt_t (i := 1604) (by decide +kernel) rfl), (gt_t (i := 1606) (by decide +kernel) rfl), (gt_s (i := 78) (by decide +kernel) rfl), (gt_t (i := 17) (by decide +kernel) rfl), cd_yX12_wordHere, by decide, by decide, by decide +kernel⟩
theorem lkX12_232 : LkV RX12 232 yX12_clears cX12_clears 3 none 1 := ⟨(gt_t (i := 1407) (by decide +kernel) rfl), (gt_t (i := 1409) (by decide +kernel) rfl), (gt_s (i := 73) (by decide +kernel) rfl), (gt_t (i := 17) (by decide +kernel) rfl), cd_yX12_clears, by decide, by decide, by decide +kernel⟩
theorem lkX12_241 : LkV RX12 241 yX12_newLine cX12_newLine 4 (some .int) 1 := ⟨(gt_t (i := 1620) (by decide +kernel) rfl), (gt_t (i := 1622) (by decide +kernel) rfl), (gt_s (i := 82) (by decide +kernel) rfl), (gt_t (i := 17) (by decide +kernel) rfl), cd_yX12_newLine, by decide, by decide, by decide +kernel⟩
theorem lkX12_245 : LkV RX12 245 yX12_isName cX12_isName 1 (some .boolean) 0 := ⟨(gt_t (i := 1624) (by decide +kernel) rfl), (gt_t (i := 1626) (by decide +kernel) rfl), (gt_s (i := 83) (by decide +kernel) rfl), (gt_t (i := 17) (by decide +kernel) rfl), cd_yX12_isName, by decide, by decide, by decide +kernel⟩
theorem lkX12_249 : LkV RX12 249 yX12_nameAt cX12_nameAt 3 (some .int) 0 := ⟨(gt_t (i := 1628) (by decide +kernel) rfl), (gt_t (i := 1630) (by decide +kernel) rfl), (gt_s (i := 84) (by decide +kernel) rfl), (gt_t (i := 17) (by decide +kernel) rfl), cd_yX12_nameAt, by decide, by decide, by decide +kernel⟩
theorem lkX12_253 : LkV RX12 253 yX12_takeNumber cX12_takeNumber 3 (some .int) 2 := ⟨(gt_t (i := 1632) (by decide +kernel) rfl), (gt_t (i := 1634) (by decide +kernel) rfl), (gt_s (i := 85) (by decide +kernel) rfl), (gt_t (i := 17) (by decide +kernel) rfl), cd_yX12_takeNumber, by decide, by decide, by decide +kernel⟩
theorem lkX12_256 : LkV RX12 256 yX12_tells cX12_tells 4 none 2 := ⟨(gt_t (i := 1636) (by decide +kernel) rfl), (gt_t (i := 1638) (by decide +kernel) rfl), (gt_s (i := 86) (by decide +kernel) rfl), (gt_t (i := 17) (by decide +kernel) rfl), cd_yX12_tells, by decide, by decide, by decide +kernel⟩
theorem lkX12_260 : LkS RX12 260 yX12_typeOf cX12_typeOf 1 (some .int) 1 := ⟨(gt_t (i := 1652) (by decide +kernel) rfl), (gt_t (i := 1653) (by decide +kernel) rfl), (gt_t (i := 17) (by decide +kernel) rfl), cd_yX12_typeOf, by decide, by decide, by decide +kernel⟩
theorem lkX12_266 : LkV RX12 266 yX12_takeWord cX12_takeWord 3 none 1 := ⟨(gt_t (i := 1679) (by decide +kernel) rfl), (gt_t (i := 1681) (by decide +kernel) rfl), (gt_s (i := 96) (by decide +kernel) rfl), (gt_t (i := 17) (by decide +kernel) rfl), cd_yX12_takeWord, by decide, by decide, by decide +kernel⟩
theorem lkX12_269 : LkS RX12 269 yX12_makesFlag cX12_makesFlag 1 (some .boolean) 1 := ⟨(gt_t (i := 1683) (by decide +kernel) rfl), (gt_t (i := 1684) (by decide +kernel) rfl), (gt_t (i := 17) (by decide +kernel) rfl), cd_yX12_makesFlag, by decide, by decide, by decide +kernel⟩
theorem lkX12_272 : LkV RX12 272 yX12_takeArg cX12_takeArg 5 none 2 := ⟨(gt_t (i := 1648) (by decide +kernel) rfl), (gt_t (i := 1650) (by decide +kernel) rfl), (gt_s (i := 89) (by decide +kernel) rfl), (gt_t (i := 17) (by decide +kernel) rfl), cd_yX12_takeArg, by decide, by decide, by decide +kernel⟩
theorem lkX12_276 : LkS RX12 276 yX12_argsOf cX12_argsOf 1 (some .int) 1 := ⟨(gt_t (i := 1686) (by decide +kernel) rfl), (gt_t (i := 1687) (by decide +kernel) rfl), (gt_t (i := 17) (by decide +kernel) rfl), cd_yX12_argsOf, by decide, by decide, by decide +kernel⟩
theorem lkX12_279 : LkV RX12 279 yX12_opens cX12_opens 3 none 2 := ⟨(gt_t (i := 1655) (by decide +kernel) rfl), (gt_t (i := 1657) (by decide +kernel) rfl), (gt_s (i := 90) (by decide +kernel) rfl), (gt_t (i := 17) (by decide +kernel) rfl), cd_yX12_opens, by decide, by decide, by decide +kernel⟩
theorem lkX12_282 : LkV RX12 282 yX12_isWithinWhen cX12_isWithinWhen 3 (some .boolean) 0 := ⟨(gt_t (i := 1671) (by decide +kernel) rfl), (gt_t (i := 1673) (by decide +kernel) rfl), (gt_s (i := 94) (by decide +kernel) rfl), (gt_t (i := 17) (by decide +kernel) rfl), cd_yX12_isWithinWhen, by decide, by decide, by decide +kernel⟩
theorem lkX12_285 : LkV RX12 285 yX12_readInput cX12_readInput 9 none 1 := ⟨(gt_t (i := 1612) (by decide +kernel) rfl), (gt_t (i := 1614) (by decide +kernel) rfl), (gt_s (i := 80) (by decide +kernel) rfl), (gt_t (i := 17) (by decide +kernel) rfl), cd_yX12_readInput, by decide, by decide, by decide +kernel⟩
theorem lkX12_289 : LkV RX12 289 yX12_readLimit cX12_readLimit 5 none 3 := ⟨(gt_t (i := 1640) (by decide +kernel) rfl), (gt_t (i := 1642) (by decide +kernel) rfl), (gt_s (i := 87) (by decide +kernel) rfl), (gt_t (i := 17) (by decide +kernel) rfl), cd_yX12_readLimit, by decide, by decide, by decide +kernel⟩
theorem lkX12_293 : LkV RX12 293 yX12_readBlock cX12_readBlock 3 none 1 := ⟨(gt_t (i := 1644) (by decide +kernel) rfl), (gt_t (i := 1646) (by decide +kernel) rfl), (gt_s (i := 88) (by decide +kernel) rfl), (gt_t (i := 17) (by decide +kernel) rfl), cd_yX12_readBlock, by decide, by decide, by decide +kernel⟩
theorem lkX12_296 : LkV RX12 296 yX12_readElse cX12_readElse 2 none 0 := ⟨(gt_t (i := 1659) (by decide +kernel) rfl), (gt_t (i := 1661) (by decide +kernel) rfl), (gt_s (i := 91) (by decide +kernel) rfl), (gt_t (i := 17) (by decide +kernel) rfl), cd_yX12_readElse, by decide, by decide, by decide +kernel⟩
theorem lkX12_299 : LkV RX12 299 yX12_readEnd cX12_readEnd 4 none 0 := ⟨(gt_t (i := 1663) (by decide +kernel) rfl), (gt_t (i := 1665) (by decide +kernel) rfl), (gt_s (i := 92) (by decide +kernel) rfl), (gt_t (i := 17) (by decide +kernel) rfl), cd_yX12_readEnd, by decide, by decide, by decide +kernel⟩
theorem lkX12_302 : LkV RX12 302 yX12_readShow cX12_readShow 2 none 0 := ⟨(gt_t (i := 1667) (by decide +kernel) rfl), (gt_t (i := 1669) (by decide +kernel) rfl), (gt_s (i := 93) (by decide +kernel) rfl), (gt_t (i := 17) (by decide +kernel) rfl), cd_yX12_readShow, by decide, by decide, by decide +kernel⟩
theorem lkX12_305 : LkV RX12 305 yX12_readIs cX12_readIs 9 none 0 := ⟨(gt_t (i := 1675) (by decide +kernel) rfl), (gt_t (i := 1677) (by decide +kernel) rfl), (gt_s (i := 95) (by decide +kernel) rfl), (gt_t (i := 17) (by decide +kernel) rfl), cd_yX12_readIs, by decide, by decide, by decide +kernel⟩
theorem lkX12_308 : LkV RX12 308 yX12_cutAll cX12_cutAll 7 none 0 := ⟨(gt_t (i := 1578) (by decide +kernel) rfl), (gt_t (i := 1580) (by decide +kernel) rfl), (gt_s (i := 74) (by decide +kernel) rfl), (gt_t (i := 17) (by decide +kernel) rfl), cd_yX12_cutAll, by decide, by decide, by decide +kernel⟩
theorem lkX12_311 : LkV RX12 311 yX12_readLine cX12_readLine 2 none 0 := ⟨(gt_t (i := 1600) (by decide +kernel) rfl), (gt_t (i := 1602) (by decide +kernel) rfl), (gt_s (i := 77) (by decide +kernel) rfl), (gt_t (i := 17) (by decide +kernel) rfl), cd_yX12_readLine, by decide, by decide, by decide +kernel⟩
theorem lkX12_314 : LkV RX12 314 yX12_takeEnd cX12_takeEnd 1 none 0 := ⟨(gt_t (i := 1689) (by decide +kernel) rfl), (gt_t (i := 1691) (by decide +kernel) rfl), (gt_s (i := 97) (by decide +kernel) rfl), (gt_t (i := 17) (by decide +kernel) rfl), cd_yX12_takeEnd, by decide, by decide, by decide +kernel⟩
theorem lkX12_317 : LkV RX12 317 yX12_works cX12_works 7 none 0 := ⟨(gt_t (i := 1693) (by decide +kernel) rfl), (gt_t (i := 1695) (by decide +kernel) rfl), (gt_s (i := 98) (by decide +kernel) rfl), (gt_t (i := 17) (by decide +kernel) rfl), cd_yX12_works, by decide, by decide, by decide +kernel⟩
theorem lkX12_320 : LkV RX12 320 yX12_inputs cX12_inputs 1 (some .int) 0 := ⟨(gt_t (i := 1731) (by decide +kernel) rfl), (gt_t (i := 1733) (by decide +kernel) rfl), (gt_s (i := 106) (by decide +kernel) rfl), (gt_t (i := 17) (by decide +kernel) rfl), cd_yX12_inputs, by decide, by decide, by decide +kernel⟩
theorem lkX12_323 : LkV RX12 323 yX12_new1 cX12_new1 2 (some .int) 1 := ⟨(gt_t (i := 1701) (by decide +kernel) rfl), (gt_t (i := 1703) (by decide +kernel) rfl), (gt_s (i := 100) (by decide +kernel) rfl), (gt_t (i := 17) (by decide +kernel) rfl), cd_yX12_new1, by decide, by decide, by decide +kernel⟩
theorem lkX12_326 : LkV RX12 326 yX12_bad cX12_bad 2 none 1 := ⟨(gt_t (i := 1705) (by decide +kernel) rfl), (gt_t (i := 1707) (by decide +kernel) rfl), (gt_s (i := 101) (by decide +kernel) rfl), (gt_t (i := 17) (by decide +kernel) rfl), cd_yX12_bad, by decide, by decide, by decide +kernel⟩
theorem lkX12_329 : LkV RX12 329 yX12_made cX12_made 9 (some .int) 5 := ⟨(gt_t (i := 1697) (by decide +kernel) rfl), (gt_t (i := 1699) (by decide +kernel) rfl), (gt_s (i := 99) (by decide +kernel) rfl), (gt_t (i := 17) (by decide +kernel) rfl), cd_yX12_made, by decide, by decide, by decide +kernel⟩
theorem lkX12_333 : LkV RX12 333 yX12_argValue cX12_argValue 2 (some .int) 1 := ⟨(gt_t (i := 1713) (by decide +kernel) rfl), (gt_t (i := 1715) (by decide +kernel) rfl), (gt_s (i := 103) (by decide +kernel) rfl), (gt_t (i := 17) (by decide +kernel) rfl), cd_yX12_argValue, by decide, by decide, by decide +kernel⟩
theorem lkX12_336 : LkS RX12 336 yX12_goesEitherWay cX12_goesEitherWay 1 (some .boolean) 1 := ⟨(gt_t (i := 1717) (by decide +kernel) rfl), (gt_t (i := 1718) (by decide +kernel) rfl), (gt_t (i := 17) (by decide +kernel) rfl), cd_yX12_goesEitherWay, by decide, by decide, by decide +kernel⟩
theorem lkX12_339 : LkV RX12 339 yX12_opValue cX12_opValue 8 (some .int) 1 := ⟨(gt_t (i := 1709) (by decide +kernel) rfl), (gt_t (i := 1711) (by decide +kernel) rfl), (gt_s (i := 102) (by decide +kernel) rfl), (gt_t (i := 17) (by decide +kernel) rfl), cd_yX12_opValue, by decide, by decide, by decide +kernel⟩
theorem lkX12_342 : LkV RX12 342 yX12_isUniformRead cX12_isUniformRead 6 (some .boolean) 1 := ⟨(gt_t (i := 1720) (by decide +kernel) rfl), (gt_t (i := 1722) (by decide +kernel) rfl), (gt_s (i := 104) (by decide +kernel) rfl), (gt_t (i := 17) (by decide +kernel) rfl), cd_yX12_isUniformRead, by decide, by decide, by decide +kernel⟩
theorem lkX12_345 : LkS RX12 345 yX12_moves cX12_moves 5 none 4 := ⟨(gt_t (i := 1724) (by decide +kernel) rfl), (gt_t (i := 1725) (by decide +kernel) rfl), (gt_t (i := 17) (by decide +kernel) rfl), cd_yX12_moves, by decide, by decide, by decide +kernel⟩
theorem lkX12_349 : LkV RX12 349 yX12_closes cX12_closes 8 none 1 := ⟨(gt_t (i := 1727) (by decide +kernel) rfl), (gt_t (i := 1729) (by decide +kernel) rfl), (gt_s (i := 105) (by decide +kernel) rfl), (gt_t (i := 17) (by decide +kernel) rfl), cd_yX12_closes, by decide, by decide, by decide +kernel⟩
theorem lkX12_352 : LkV RX12 352 yX12_values cX12_values 1 (some .int) 0 := ⟨(gt_t (i := 1776) (by decide +kernel) rfl), (gt_t (i := 1778) (by decide +kernel) rfl), (gt_s (i := 109) (by decide +kernel) rfl), (gt_t (i := 17) (by decide +kernel) rfl), cd_yX12_values, by decide, by decide, by decide +kernel⟩
theorem lkX12_355 : LkS RX12 355 yX12_within cX12_within 3 (some .boolean) 3 := ⟨(gt_t (i := 1746) (by decide +kernel) rfl), (gt_t (i := 1747) (by decide +kernel) rfl), (gt_t (i := 17) (by decide +kernel) rfl), cd_yX12_within, by decide, by decide, by decide +kernel⟩
theorem lkX12_359 : LkV RX12 359 yX12_isInput cX12_isInput 2 (some .boolean) 1 := ⟨(gt_t (i := 1739) (by decide +kernel) rfl), (gt_t (i := 1741) (by decide +kernel) rfl), (gt_s (i := 107) (by decide +kernel) rfl), (gt_t (i := 17) (by decide +kernel) rfl), cd_yX12_isInput, by decide, by decide, by decide +kernel⟩
theorem lkX12_362 : LkS RX12 362 yX12_isLane cX12_isLane 1 (some .boolean) 1 := ⟨(gt_t (i := 1743) (by decide +kernel) rfl), (gt_t (i := 1744) (by decide +kernel) rfl), (gt_t (i := 17) (by decide +kernel) rfl), cd_yX12_isLane, by decide, by decide, by decide +kernel⟩
theorem lkX12_368 : LkS RX12 368 yX12_isRange cX12_isRange 2 (some .boolean) 2 := ⟨(gt_t (i := 1761) (by decide +kernel) rfl), (gt_t (i := 1762) (by decide +kernel) rfl), (gt_t (i := 17) (by decide +kernel) rfl), cd_yX12_isRange, by decide, by decide, by decide +kernel⟩
theorem lkX12_378 : LkS RX12 378 yX12_held cX12_held 2 (some .int) 1 := ⟨(gt_t (i := 1809) (by decide +kernel) rfl), (gt_t (i := 1810) (by decide +kernel) rfl), (gt_t (i := 17) (by decide +kernel) rfl), cd_yX12_held, by decide, by decide, by decide +kernel⟩
theorem lkX12_382 : LkS RX12 382 yX12_lesser cX12_lesser 2 (some .int) 2 := ⟨(gt_t (i := 1820) (by decide +kernel) rfl), (gt_t (i := 1821) (by decide +kernel) rfl), (gt_t (i := 17) (by decide +kernel) rfl), cd_yX12_lesser, by decide, by decide, by decide +kernel⟩
theorem lkX12_385 : LkS RX12 385 yX12_greater cX12_greater 2 (some .int) 2 := ⟨(gt_t (i := 1823) (by decide +kernel) rfl), (gt_t (i := 1824) (by decide +kernel) rfl), (gt_t (i := 17) (by decide +kernel) rfl), cd_yX12_greater, by decide, by decide, by decide +kernel⟩
theorem lkX12_388 : LkV RX12 388 yX12_argOf cX12_argOf 3 (some .int) 2 := ⟨(gt_t (i := 1789) (by decide +kernel) rfl), (gt_t (i := 1791) (by decide +kernel) rfl), (gt_s (i := 112) (by decide +kernel) rfl), (gt_t (i := 17) (by decide +kernel) rfl), cd_yX12_argOf, by decide, by decide, by decide +kernel⟩
theorem lkX12_391 : LkV RX12 391 yX12_howOf cX12_howOf 2 (some .int) 1 := ⟨(gt_t (i := 1785) (by decide +kernel) rfl), (gt_t (i := 1787) (by decide +kernel) rfl), (gt_s (i := 111) (by decide +kernel) rfl), (gt_t (i := 17) (by decide +kernel) rfl), cd_yX12_howOf, by decide, by decide, by decide +kernel⟩
theorem lkX12_394 : LkV RX12 394 yX12_numberOf cX12_numberOf 3 (some .int) 2 := ⟨(gt_t (i := 1838) (by decide +kernel) rfl), (gt_t (i := 1840) (by decide +kernel) rfl), (gt_s (i := 120) (by decide +kernel) rfl), (gt_t (i := 17) (by decide +kernel) rfl), cd_yX12_numberOf, by decide, by decide, by decide +kernel⟩
theorem lkX12_397 : LkV RX12 397 yX12_worked cX12_worked 5 (some .int) 4 := ⟨(gt_t (i := 1842) (by decide +kernel) rfl), (gt_t (i := 1844) (by decide +kernel) rfl), (gt_s (i := 121) (by decide +kernel) rfl), (gt_t (i := 17) (by decide +kernel) rfl), cd_yX12_worked, by decide, by decide, by decide +kernel⟩
theorem lkX12_401 : LkV RX12 401 yX12_lowOf cX12_lowOf 3 (some .int) 2 := ⟨(gt_t (i := 1801) (by decide +kernel) rfl), (gt_t (i := 1803) (by decide +kernel) rfl), (gt_s (i := 115) (by decide +kernel) rfl), (gt_t (i := 17) (by decide +kernel) rfl), cd_yX12_lowOf, by decide, by decide, by decide +kernel⟩
theorem lkX12_404 : LkV RX12 404 yX12_highOf cX12_highOf 3 (some .int) 2 := ⟨(gt_t (i := 1805) (by decide +kernel) rfl), (gt_t (i := 1807) (by decide +kernel) rfl), (gt_s (i := 116) (by decide +kernel) rfl), (gt_t (i := 17) (by decide +kernel) rfl), cd_yX12_highOf, by decide, by decide, by decide +kernel⟩
theorem lkX12_407 : LkV RX12 407 yX12_rangeIs cX12_rangeIs 4 none 3 := ⟨(gt_t (i := 1793) (by decide +kernel) rfl), (gt_t (i := 1795) (by decide +kernel) rfl), (gt_s (i := 113) (by decide +kernel) rfl), (gt_t (i := 17) (by decide +kernel) rfl), cd_yX12_rangeIs, by decide, by decide, by decide +kernel⟩
theorem lkX12_410 : LkV RX12 410 yX12_timesRange cX12_timesRange 8 none 1 := ⟨(gt_t (i := 1816) (by decide +kernel) rfl), (gt_t (i := 1818) (by decide +kernel) rfl), (gt_s (i := 117) (by decide +kernel) rfl), (gt_t (i := 17) (by decide +kernel) rfl), cd_yX12_timesRange, by decide, by decide, by decide +kernel⟩
theorem lkX12_413 : LkV RX12 413 yX12_pickRange cX12_pickRange 6 none 1 := ⟨(gt_t (i := 1826) (by decide +kernel) rfl), (gt_t (i := 1828) (by decide +kernel) rfl), (gt_s (i := 118) (by decide +kernel) rfl), (gt_t (i := 17) (by decide +kernel) rfl), cd_yX12_pickRange, by decide, by decide, by decide +kernel⟩
theorem lkX12_416 : LkV RX12 416 yX12_rangeOf cX12_rangeOf 7 none 1 := ⟨(gt_t (i := 1797) (by decide +kernel) rfl), (gt_t (i := 1799) (by decide +kernel) rfl), (gt_s (i := 114) (by decide +kernel) rfl), (gt_t (i := 17) (by decide +kernel) rfl), cd_yX12_rangeOf, by decide, by decide, by decide +kernel⟩
theorem lkX12_419 : LkV RX12 419 yX12_isLow cX12_isLow 2 (some .boolean) 1 := ⟨(gt_t (i := 1905) (by decide +kernel) rfl), (gt_t (i := 1907) (by decide +kernel) rfl), (gt_s (i := 132) (by decide +kernel) rfl), (gt_t (i := 17) (by decide +kernel) rfl), cd_yX12_isLow, by decide, by decide, by decide +kernel⟩
theorem lkX12_422 : LkV RX12 422 yX12_isValue cX12_isValue 2 (some .boolean) 1 := ⟨(gt_t (i := 1772) (by decide +kernel) rfl), (gt_t (i := 1774) (by decide +kernel) rfl), (gt_s (i := 108) (by decide +kernel) rfl), (gt_t (i := 17) (by decide +kernel) rfl), cd_yX12_isValue, by decide, by decide, by decide +kernel⟩
theorem lkX12_428 : LkV RX12 428 yX12_rangesWith cX12_rangesWith 9 none 3 := ⟨(gt_t (i := 1781) (by decide +kernel) rfl), (gt_t (i := 1783) (by decide +kernel) rfl), (gt_s (i := 110) (by decide +kernel) rfl), (gt_t (i := 17) (by decide +kernel) rfl), cd_yX12_rangesWith, by decide, by decide, by decide +kernel⟩
theorem lkX12_431 : LkV RX12 431 yX12_numbersIn cX12_numbersIn 4 none 1 := ⟨(gt_t (i := 1834) (by decide +kernel) rfl), (gt_t (i := 1836) (by decide +kernel) rfl), (gt_s (i := 119) (by decide +kernel) rfl), (gt_t (i := 17) (by decide +kernel) rfl), cd_yX12_numbersIn, by decide, by decide, by decide +kernel⟩
theorem lkX12_434 : LkV RX12 434 yX12_argNumber cX12_argNumber 2 (some .int) 1 := ⟨(gt_t (i := 1870) (by decide +kernel) rfl), (gt_t (i := 1872) (by decide +kernel) rfl), (gt_s (i := 125) (by decide +kernel) rfl), (gt_t (i := 17) (by decide +kernel) rfl), cd_yX12_argNumber, by decide, by decide, by decide +kernel⟩
theorem lkX12_437 : LkV RX12 437 yX12_opNumber cX12_opNumber 7 (some .int) 1 := ⟨(gt_t (i := 1866) (by decide +kernel) rfl), (gt_t (i := 1868) (by decide +kernel) rfl), (gt_s (i := 124) (by decide +kernel) rfl), (gt_t (i := 17) (by decide +kernel) rfl), cd_yX12_opNumber, by decide, by decide, by decide +kernel⟩
theorem lkX12_440 : LkV RX12 440 yX12_nextLine cX12_nextLine 4 (some .int) 1 := ⟨(gt_t (i := 1874) (by decide +kernel) rfl), (gt_t (i := 1876) (by decide +kernel) rfl), (gt_s (i := 126) (by decide +kernel) rfl), (gt_t (i := 17) (by decide +kernel) rfl), cd_yX12_nextLine, by decide, by decide, by decide +kernel⟩
theorem lkX12_443 : LkV RX12 443 yX12_isShown cX12_isShown 3 (some .boolean) 2 := ⟨(gt_t (i := 1858) (by decide +kernel) rfl), (gt_t (i := 1860) (by decide +kernel) rfl), (gt_s (i := 122) (by decide +kernel) rfl), (gt_t (i := 17) (by decide +kernel) rfl), cd_yX12_isShown, by decide, by decide, by decide +kernel⟩
theorem lkX12_446 : LkV RX12 446 yX12_walk cX12_walk 8 (some .int) 2 := ⟨(gt_t (i := 1862) (by decide +kernel) rfl), (gt_t (i := 1864) (by decide +kernel) rfl), (gt_s (i := 123) (by decide +kernel) rfl), (gt_t (i := 17) (by decide +kernel) rfl), cd_yX12_walk, by decide, by decide, by decide +kernel⟩
theorem lkX12_449 : LkS RX12 449 yX12_has cX12_has 3 (some .boolean) 2 := ⟨(gt_t (i := 1898) (by decide +kernel) rfl), (gt_t (i := 1899) (by decide +kernel) rfl), (gt_t (i := 17) (by decide +kernel) rfl), cd_yX12_has, by decide, by decide, by decide +kernel⟩
theorem lkX12_453 : LkV RX12 453 yX12_isKnown cX12_isKnown 2 (some .boolean) 1 := ⟨(gt_t (i := 1890) (by decide +kernel) rfl), (gt_t (i := 1892) (by decide +kernel) rfl), (gt_s (i := 129) (by decide +kernel) rfl), (gt_t (i := 17) (by decide +kernel) rfl), cd_yX12_isKnown, by decide, by decide, by decide +kernel⟩
theorem lkX12_456 : LkV RX12 456 yX12_shownSet cX12_shownSet 5 (some .long) 1 := ⟨(gt_t (i := 1894) (by decide +kernel) rfl), (gt_t (i := 1896) (by decide +kernel) rfl), (gt_s (i := 130) (by decide +kernel) rfl), (gt_t (i := 17) (by decide +kernel) rfl), cd_yX12_shownSet, by decide, by decide, by decide +kernel⟩
theorem lkX12_467 : LkV RX12 467 yX12_needs cX12_needs 6 none 1 := ⟨(gt_t (i := 1886) (by decide +kernel) rfl), (gt_t (i := 1888) (by decide +kernel) rfl), (gt_s (i := 128) (by decide +kernel) rfl), (gt_t (i := 17) (by decide +kernel) rfl), cd_yX12_needs, by decide, by decide, by decide +kernel⟩
theorem lkX12_470 : LkV RX12 470 yX12_all0 cX12_all0 1 none 0 := ⟨(gt_t (i := 1882) (by decide +kernel) rfl), (gt_t (i := 1884) (by decide +kernel) rfl), (gt_s (i := 127) (by decide +kernel) rfl), (gt_t (i := 17) (by decide +kernel) rfl), cd_yX12_all0, by decide, by decide, by decide +kernel⟩
theorem lkX12_473 : LkV RX12 473 yX12_widthOf cX12_widthOf 2 (some .int) 1 := ⟨(gt_t (i := 1901) (by decide +kernel) rfl), (gt_t (i := 1903) (by decide +kernel) rfl), (gt_s (i := 131) (by decide +kernel) rfl), (gt_t (i := 17) (by decide +kernel) rfl), cd_yX12_widthOf, by decide, by decide, by decide +kernel⟩
theorem lkX12_476 : LkV RX12 476 yX12_isNeeded cX12_isNeeded 2 (some .boolean) 1 := ⟨(gt_t (i := 1917) (by decide +kernel) rfl), (gt_t (i := 1919) (by decide +kernel) rfl), (gt_s (i := 133) (by decide +kernel) rfl), (gt_t (i := 17) (by decide +kernel) rfl), cd_yX12_isNeeded, by decide, by decide, by decide +kernel⟩
theorem lkX12_479 : LkV RX12 479 yX12_farKin cX12_farKin 7 (some .long) 2 := ⟨(gt_t (i := 1921) (by decide +kernel) rfl), (gt_t (i := 1923) (by decide +kernel) rfl), (gt_s (i := 134) (by decide +kernel) rfl), (gt_t (i := 17) (by decide +kernel) rfl), cd_yX12_farKin, by decide, by decide, by decide +kernel⟩
theorem lkX12_485 : LkV RX12 485 yX12_growth cX12_growth 7 (some .int) 2 := ⟨(gt_t (i := 1942) (by decide +kernel) rfl), (gt_t (i := 1944) (by decide +kernel) rfl), (gt_s (i := 138) (by decide +kernel) rfl), (gt_t (i := 17) (by decide +kernel) rfl), cd_yX12_growth, by decide, by decide, by decide +kernel⟩
theorem lkX12_492 : LkV RX12 492 yX12_goesAhead cX12_goesAhead 6 (some .boolean) 4 := ⟨(gt_t (i := 1938) (by decide +kernel) rfl), (gt_t (i := 1940) (by decide +kernel) rfl), (gt_s (i := 137) (by decide +kernel) rfl), (gt_t (i := 17) (by decide +kernel) rfl), cd_yX12_goesAhead, by decide, by decide, by decide +kernel⟩
theorem lkX12_496 : LkV RX12 496 yX12_lives cX12_lives 4 none 0 := ⟨(gt_t (i := 1946) (by decide +kernel) rfl), (gt_t (i := 1948) (by decide +kernel) rfl), (gt_s (i := 139) (by decide +kernel) rfl), (gt_t (i := 17) (by decide +kernel) rfl), cd_yX12_lives, by decide, by decide, by decide +kernel⟩
theorem lkX12_499 : LkV RX12 499 yX12_cuts cX12_cuts 9 none 0 := ⟨(gt_t (i := 1950) (by decide +kernel) rfl), (gt_t (i := 1952) (by decide +kernel) rfl), (gt_s (i := 140) (by decide +kernel) rfl), (gt_t (i := 17) (by decide +kernel) rfl), cd_yX12_cuts, by decide, by decide, by decide +kernel⟩
theorem lkX12_502 : LkV RX12 502 yX12_fileOf cX12_fileOf 2 (some .int) 1 := ⟨(gt_t (i := 1962) (by decide +kernel) rfl), (gt_t (i := 1964) (by decide +kernel) rfl), (gt_s (i := 143) (by decide +kernel) rfl), (gt_t (i := 17) (by decide +kernel) rfl), cd_yX12_fileOf, by decide, by decide, by decide +kernel⟩
theorem lkX12_505 : LkV RX12 505 yX12_livesAt cX12_livesAt 6 (some .int) 2 := ⟨(gt_t (i := 1985) (by decide +kernel) rfl), (gt_t (i := 1987) (by decide +kernel) rfl), (gt_s (i := 146) (by decide +kernel) rfl), (gt_t (i := 17) (by decide +kernel) rfl), cd_yX12_livesAt, by decide, by decide, by decide +kernel⟩
theorem lkX12_508 : LkV RX12 508 yX12_isFree cX12_isFree 4 (some .boolean) 3 := ⟨(gt_t (i := 1966) (by decide +kernel) rfl), (gt_t (i := 1968) (by decide +kernel) rfl), (gt_s (i := 144) (by decide +kernel) rfl), (gt_t (i := 17) (by decide +kernel) rfl), cd_yX12_isFree, by decide, by decide, by decide +kernel⟩
theorem lkX12_517 : LkV RX12 517 yX12_costOf cX12_costOf 3 (some .int) 1 := ⟨(gt_t (i := 1954) (by decide +kernel) rfl), (gt_t (i := 1956) (by decide +kernel) rfl), (gt_s (i := 141) (by decide +kernel) rfl), (gt_t (i := 17) (by decide +kernel) rfl), cd_yX12_costOf, by decide, by decide, by decide +kernel⟩
theorem lkX12_520 : LkV RX12 520 yX12_orders cX12_orders 7 none 1 := ⟨(gt_t (i := 1933) (by decide +kernel) rfl), (gt_t (i := 1935) (by decide +kernel) rfl), (gt_s (i := 136) (by decide +kernel) rfl), (gt_t (i := 17) (by decide +kernel) rfl), cd_yX12_orders, by decide, by decide, by decide +kernel⟩
theorem lkX12_523 : LkV RX12 523 yX12_registers cX12_registers 7 none 0 := ⟨(gt_t (i := 1958) (by decide +kernel) rfl), (gt_t (i := 1960) (by decide +kernel) rfl), (gt_s (i := 142) (by decide +kernel) rfl), (gt_t (i := 17) (by decide +kernel) rfl), cd_yX12_registers, by decide, by decide, by decide +kernel⟩
theorem lkX12_526 : LkV RX12 526 yX12_plans cX12_plans 1 none 0 := ⟨(gt_t (i := 1929) (by decide +kernel) rfl), (gt_t (i := 1931) (by decide +kernel) rfl), (gt_s (i := 135) (by decide +kernel) rfl), (gt_t (i := 17) (by decide +kernel) rfl), cd_yX12_plans, by decide, by decide, by decide +kernel⟩
theorem lkX12_529 : LkS RX12 529 yX12_manyOf cX12_manyOf 4 (some .int) 1 := ⟨(gt_t (i := 1974) (by decide +kernel) rfl), (gt_t (i := 1975) (by decide +kernel) rfl), (gt_t (i := 17) (by decide +kernel) rfl), cd_yX12_manyOf, by decide, by decide, by decide +kernel⟩
theorem lkX12_532 : LkV RX12 532 yX12_most cX12_most 4 (some .int) 1 := ⟨(gt_t (i := 1981) (by decide +kernel) rfl), (gt_t (i := 1983) (by decide +kernel) rfl), (gt_s (i := 145) (by decide +kernel) rfl), (gt_t (i := 17) (by decide +kernel) rfl), cd_yX12_most, by decide, by decide, by decide +kernel⟩
theorem lkX12_535 : LkV RX12 535 yX12_tell cX12_tell 2 (some .int) 1 := ⟨(gt_t (i := 2005) (by decide +kernel) rfl), (gt_t (i := 2007) (by decide +kernel) rfl), (gt_s (i := 147) (by decide +kernel) rfl), (gt_t (i := 17) (by decide +kernel) rfl), cd_yX12_tell, by decide, by decide, by decide +kernel⟩
theorem lkX12_538 : LkV RX12 538 yX12_howMany cX12_howMany 4 (some .int) 1 := ⟨(gt_t (i := 2017) (by decide +kernel) rfl), (gt_t (i := 2019) (by decide +kernel) rfl), (gt_s (i := 148) (by decide +kernel) rfl), (gt_t (i := 17) (by decide +kernel) rfl), cd_yX12_howMany, by decide, by decide, by decide +kernel⟩
theorem lkX12_542 : LkV RX12 542 yX12_argRun cX12_argRun 4 (some .int) 2 := ⟨(gt_t (i := 2029) (by decide +kernel) rfl), (gt_t (i := 2031) (by decide +kernel) rfl), (gt_s (i := 149) (by decide +kernel) rfl), (gt_t (i := 17) (by decide +kernel) rfl), cd_yX12_argRun, by decide, by decide, by decide +kernel⟩
theorem lkX12_545 : LkV RX12 545 yX12_comesBehind cX12_comesBehind 7 (some .boolean) 3 := ⟨(gt_t (i := 2041) (by decide +kernel) rfl), (gt_t (i := 2043) (by decide +kernel) rfl), (gt_s (i := 151) (by decide +kernel) rfl), (gt_t (i := 17) (by decide +kernel) rfl), cd_yX12_comesBehind, by decide, by decide, by decide +kernel⟩
theorem lkX12_548 : LkV RX12 548 yX12_livesIn cX12_livesIn 8 (some .int) 2 := ⟨(gt_t (i := 2045) (by decide +kernel) rfl), (gt_t (i := 2047) (by decide +kernel) rfl), (gt_s (i := 152) (by decide +kernel) rfl), (gt_t (i := 17) (by decide +kernel) rfl), cd_yX12_livesIn, by decide, by decide, by decide +kernel⟩
theorem lkX12_551 : LkV RX12 551 yX12_canBe cX12_canBe 6 (some .boolean) 2 := ⟨(gt_t (i := 2037) (by decide +kernel) rfl), (gt_t (i := 2039) (by decide +kernel) rfl), (gt_s (i := 150) (by decide +kernel) rfl), (gt_t (i := 17) (by decide +kernel) rfl), cd_yX12_canBe, by decide, by decide, by decide +kernel⟩
theorem klX8_31 : Jvm.Cond.constantLong RX8 31 (32) ∈ gt := gt_t (i := 88) (by decide +kernel) rfl
theorem klX11_367 : Jvm.Cond.constantLong RX11 367 (-99999) ∈ gt := gt_t (i := 933) (by decide +kernel) rfl
theorem klX11_369 : Jvm.Cond.constantLong RX11 369 (99999) ∈ gt := gt_t (i := 934) (by decide +kernel) rfl
theorem klX7_80 : Jvm.Cond.constantLong RX7 80 (-1) ∈ gt := gt_t (i := 985) (by decide +kernel) rfl
theorem kiX11_229 : Jvm.Cond.constant RX11 229 (-2147483648) ∈ gt := gt_t (i := 1099) (by decide +kernel) rfl
theorem klJ13_314 : Jvm.Cond.constantLong RJ13 314 (6148914691236517205) ∈ gt := gt_t (i := 1166) (by decide +kernel) rfl
theorem klJ13_316 : Jvm.Cond.constantLong RJ13 316 (3689348814741910323) ∈ gt := gt_t (i := 1167) (by decide +kernel) rfl
theorem klJ13_318 : Jvm.Cond.constantLong RJ13 318 (1085102592571150095) ∈ gt := gt_t (i := 1168) (by decide +kernel) rfl
theorem kiX1_45 : Jvm.Cond.constant RX1 45 (2147483647) ∈ gt := gt_t (i := 1234) (by decide +kernel) rfl
theorem klX12_80 : Jvm.Cond.constantLong RX12 80 (3913421) ∈ gt := gt_t (i := 1384) (by decide +kernel) rfl
theorem klX12_82 : Jvm.Cond.constantLong RX12 82 (237308) ∈ gt := gt_t (i := 1385) (by decide +kernel) rfl
theorem klX12_84 : Jvm.Cond.constantLong RX12 84 (3301730) ∈ gt := gt_t (i := 1386) (by decide +kernel) rfl
theorem klX12_86 : Jvm.Cond.constantLong RX12 86 (1074) ∈ gt := gt_t (i := 1387) (by decide +kernel) rfl
theorem klX12_88 : Jvm.Cond.constantLong RX12 88 (262) ∈ gt := gt_t (i := 1388) (by decide +kernel) rfl
theorem klX12_90 : Jvm.Cond.constantLong RX12 90 (458690) ∈ gt := gt_t (i := 1389) (by decide +kernel) rfl
theorem klX12_92 : Jvm.Cond.constantLong RX12 92 (107681) ∈ gt := gt_t (i := 1390) (by decide +kernel) rfl
theorem klX12_94 : Jvm.Cond.constantLong RX12 94 (10815598) ∈ gt := gt_t (i := 1391) (by decide +kernel) rfl
theorem klX12_96 : Jvm.Cond.constantLong RX12 96 (4027) ∈ gt := gt_t (i := 1392) (by decide +kernel) rfl
theorem klX12_98 : Jvm.Cond.constantLong RX12 98 (380237) ∈ gt := gt_t (i := 1393) (by decide +kernel) rfl
theorem klX12_100 : Jvm.Cond.constantLong RX12 100 (841) ∈ gt := gt_t (i := 1394) (by decide +kernel) rfl
theorem klX12_102 : Jvm.Cond.constantLong RX12 102 (14420) ∈ gt := gt_t (i := 1395) (by decide +kernel) rfl
theorem klX12_104 : Jvm.Cond.constantLong RX12 104 (10056) ∈ gt := gt_t (i := 1396) (by decide +kernel) rfl
theorem klX12_106 : Jvm.Cond.constantLong RX12 106 (9734) ∈ gt := gt_t (i := 1397) (by decide +kernel) rfl
theorem klX12_108 : Jvm.Cond.constantLong RX12 108 (9528) ∈ gt := gt_t (i := 1398) (by decide +kernel) rfl
theorem klX12_110 : Jvm.Cond.constantLong RX12 110 (14739) ∈ gt := gt_t (i := 1399) (by decide +kernel) rfl
theorem klX12_112 : Jvm.Cond.constantLong RX12 112 (240373) ∈ gt := gt_t (i := 1400) (by decide +kernel) rfl
theorem klX12_114 : Jvm.Cond.constantLong RX12 114 (375062) ∈ gt := gt_t (i := 1401) (by decide +kernel) rfl
theorem klX12_116 : Jvm.Cond.constantLong RX12 116 (50849) ∈ gt := gt_t (i := 1402) (by decide +kernel) rfl
theorem klX12_118 : Jvm.Cond.constantLong RX12 118 (76927149) ∈ gt := gt_t (i := 1403) (by decide +kernel) rfl
theorem klX12_120 : Jvm.Cond.constantLong RX12 120 (127105) ∈ gt := gt_t (i := 1404) (by decide +kernel) rfl
theorem klX12_122 : Jvm.Cond.constantLong RX12 122 (321581) ∈ gt := gt_t (i := 1405) (by decide +kernel) rfl
theorem klX12_124 : Jvm.Cond.constantLong RX12 124 (70441) ∈ gt := gt_t (i := 1406) (by decide +kernel) rfl
theorem klX12_28 : Jvm.Cond.constantLong RX12 28 (27) ∈ gt := gt_t (i := 1596) (by decide +kernel) rfl
theorem klX12_30 : Jvm.Cond.constantLong RX12 30 (96) ∈ gt := gt_t (i := 1597) (by decide +kernel) rfl
theorem klX12_32 : Jvm.Cond.constantLong RX12 32 (10) ∈ gt := gt_t (i := 1598) (by decide +kernel) rfl
theorem klX12_34 : Jvm.Cond.constantLong RX12 34 (48) ∈ gt := gt_t (i := 1599) (by decide +kernel) rfl
theorem kiX12_427 : Jvm.Cond.constant RX12 427 (-2147483648) ∈ gt := gt_t (i := 1780) (by decide +kernel) rfl
theorem klX12_372 : Jvm.Cond.constantLong RX12 372 (-99999) ∈ gt := gt_t (i := 1812) (by decide +kernel) rfl
theorem kiX12_374 : Jvm.Cond.constant RX12 374 (-99999) ∈ gt := gt_t (i := 1813) (by decide +kernel) rfl
theorem klX12_375 : Jvm.Cond.constantLong RX12 375 (99999) ∈ gt := gt_t (i := 1814) (by decide +kernel) rfl
theorem kiX12_377 : Jvm.Cond.constant RX12 377 (99999) ∈ gt := gt_t (i := 1815) (by decide +kernel) rfl
theorem klX12_483 : Jvm.Cond.constantLong RX12 483 (-1) ∈ gt := gt_t (i := 1937) (by decide +kernel) rfl
theorem klL_22 : Jvm.Cond.constantLong RL 22 (4294967295) ∈ gt := gt_t (i := 2057) (by decide +kernel) rfl
