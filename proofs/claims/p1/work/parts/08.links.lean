/-! LINKS: printed by wip/whole/gen_links.py -/
theorem a_subWS {ws : List Cond} (ps : List Nat) (h : ws = ps.filterMap (fun i => tables_1[i]?)) (hg : ws.all goodWord = true) : ∀ w ∈ ws, w ∈ WS := by
  intro w hw
  have h1 := List.all_eq_true.mp hg w hw
  rw [h] at hw
  obtain ⟨i, -, hi⟩ := List.mem_filterMap.mp hw
  exact ws_t i hi h1
theorem ly_0 : ∀ w ∈ u_ws RX0 TX0 18, w ∈ WS := a_subWS [279, 281, 283, 285, 287, 289, 291, 293, 295, 297, 299, 301, 303, 305, 307, 309, 311, 313] (by decide +kernel) (by decide +kernel)
theorem ly_1 : ∀ w ∈ u_ws RX1 TX1 7, w ∈ WS := a_subWS [432, 434, 436, 438, 440, 442, 444] (by decide +kernel) (by decide +kernel)
theorem ly_2 : ∀ w ∈ u_ws RX2 TX2 11, w ∈ WS := a_subWS [132, 134, 136, 138, 140, 142, 144, 146, 148, 150, 152] (by decide +kernel) (by decide +kernel)
theorem ly_3 : ∀ w ∈ u_ws RX3 TX3 7, w ∈ WS := a_subWS [394, 396, 398, 400, 402, 404, 406] (by decide +kernel) (by decide +kernel)
theorem ly_4 : ∀ w ∈ u_ws RX4 TX4 2, w ∈ WS := a_subWS [39, 41] (by decide +kernel) (by decide +kernel)
theorem ly_5 : ∀ w ∈ u_ws RX5 TX5 4, w ∈ WS := a_subWS [338, 340, 342, 344] (by decide +kernel) (by decide +kernel)
theorem ly_6 : ∀ w ∈ u_ws RX6 TX6 16, w ∈ WS := a_subWS [478, 480, 482, 484, 486, 488, 490, 492, 494, 496, 498, 500, 502, 504, 506, 508] (by decide +kernel) (by decide +kernel)
theorem ly_7 : ∀ w ∈ u_ws RX7 TX7 3, w ∈ WS := a_subWS [380, 382, 384] (by decide +kernel) (by decide +kernel)
theorem ly_8 : ∀ w ∈ u_ws RX8 TX8 5, w ∈ WS := a_subWS [212, 214, 216, 218, 220] (by decide +kernel) (by decide +kernel)
theorem ly_9 : ∀ w ∈ u_ws RX9 TX9 5, w ∈ WS := a_subWS [360, 362, 364, 366, 368] (by decide +kernel) (by decide +kernel)
theorem ly_10 : ∀ w ∈ u_ws RX10 TX10 8, w ∈ WS := a_subWS [182, 184, 186, 188, 190, 192, 194, 196] (by decide +kernel) (by decide +kernel)
theorem ly_11 : ∀ w ∈ u_ws RX11 TX11 8, w ∈ WS := a_subWS [519, 521, 523, 525, 527, 529, 531, 533] (by decide +kernel) (by decide +kernel)
theorem ly_12 : ∀ w ∈ u_ws RX12 TX12 81, w ∈ WS := a_subWS [1387, 1389, 1391, 1393, 1395, 1397, 1399, 1401, 1403, 1405, 1407, 1409, 1411, 1413, 1415, 1417, 1419, 1421, 1423, 1425, 1427, 1429, 1431, 1433, 1435, 1437, 1439, 1441, 1443, 1445, 1447, 1449, 1451, 1453, 1455, 1457, 1459, 1461, 1463, 1465, 1467, 1469, 1471, 1473, 1475, 1477, 1479, 1481, 1483, 1485, 1487, 1489, 1491, 1493, 1495, 1497, 1499, 1501, 1503, 1505, 1507, 1509, 1511, 1513, 1515, 1517, 1519, 1521, 1523, 1525, 1527, 1529, 1531, 1533, 1535, 1537, 1539, 1541, 1543, 1545, 1547] (by decide +kernel) (by decide +kernel)
theorem lays_ok : a_lays := a_all13 ly_0 ly_1 ly_2 ly_3 ly_4 ly_5 ly_6 ly_7 ly_8 ly_9 ly_10 ly_11 ly_12
theorem in_RL : Cond.initialized RL ∈ WS := ws_t 0 (by decide +kernel) rfl
theorem in_RX11 : Cond.initialized RX11 ∈ WS := ws_t 1 (by decide +kernel) rfl
theorem in_RX4 : Cond.initialized RX4 ∈ WS := ws_t 2 (by decide +kernel) rfl
theorem in_RJ9 : Cond.initialized RJ9 ∈ WS := ws_t 3 (by decide +kernel) rfl
theorem in_RX2 : Cond.initialized RX2 ∈ WS := ws_t 4 (by decide +kernel) rfl
theorem in_RJ0 : Cond.initialized RJ0 ∈ WS := ws_t 5 (by decide +kernel) rfl
theorem in_RJ1 : Cond.initialized RJ1 ∈ WS := ws_t 6 (by decide +kernel) rfl
theorem in_RJ3 : Cond.initialized RJ3 ∈ WS := ws_t 7 (by decide +kernel) rfl
theorem in_RJ2 : Cond.initialized RJ2 ∈ WS := ws_t 8 (by decide +kernel) rfl
theorem in_RX0 : Cond.initialized RX0 ∈ WS := ws_t 9 (by decide +kernel) rfl
theorem in_RX10 : Cond.initialized RX10 ∈ WS := ws_t 10 (by decide +kernel) rfl
theorem in_RX8 : Cond.initialized RX8 ∈ WS := ws_t 11 (by decide +kernel) rfl
theorem in_RX3 : Cond.initialized RX3 ∈ WS := ws_t 12 (by decide +kernel) rfl
theorem in_RX5 : Cond.initialized RX5 ∈ WS := ws_t 13 (by decide +kernel) rfl
theorem in_RX9 : Cond.initialized RX9 ∈ WS := ws_t 14 (by decide +kernel) rfl
theorem in_RX7 : Cond.initialized RX7 ∈ WS := ws_t 15 (by decide +kernel) rfl
theorem in_RX6 : Cond.initialized RX6 ∈ WS := ws_t 16 (by decide +kernel) rfl
theorem in_RX1 : Cond.initialized RX1 ∈ WS := ws_t 17 (by decide +kernel) rfl
theorem in_RX12 : Cond.initialized RX12 ∈ WS := ws_t 18 (by decide +kernel) rfl
theorem in_RJ11 : Cond.initialized RJ11 ∈ WS := ws_t 19 (by decide +kernel) rfl
set_option maxRecDepth 100000 in
theorem co_yX11_init : Cond.code yX11_init cX11_init 1 none ∈ WS := ws_t 24 rfl rfl
theorem im_yX11_init : Cond.instanceMethod yX11_init ∈ WS := ws_t 23 (by decide +kernel) rfl
set_option maxRecDepth 100000 in
theorem co_yX4_init : Cond.code yX4_init cX4_init 2 none ∈ WS := ws_t 32 rfl rfl
theorem im_yX4_init : Cond.instanceMethod yX4_init ∈ WS := ws_t 31 (by decide +kernel) rfl
set_option maxRecDepth 100000 in
theorem co_yJ9_max_7cf53 : Cond.code yJ9_max_7cf53 cJ9_max_7cf53 2 (some .int) ∈ WS := ws_t 36 rfl rfl
theorem sm_yJ9_max_7cf53 : Cond.static yJ9_max_7cf53 ∈ WS := ws_t 35 (by decide +kernel) rfl
set_option maxRecDepth 100000 in
theorem co_yX2_init : Cond.code yX2_init cX2_init 4 none ∈ WS := ws_t 49 rfl rfl
theorem im_yX2_init : Cond.instanceMethod yX2_init ∈ WS := ws_t 48 (by decide +kernel) rfl
set_option maxRecDepth 100000 in
theorem co_yJ0_length_8abf5 : Cond.code yJ0_length_8abf5 cJ0_length_8abf5 1 (some .int) ∈ WS := ws_t 57 rfl rfl
theorem im_yJ0_length_8abf5 : Cond.instanceMethod yJ0_length_8abf5 ∈ WS := ws_t 55 (by decide +kernel) rfl
theorem se_yJ0_length_8abf5 : Cond.selects RJ0 yJ0_length_8abf5 yJ0_length_8abf5 ∈ WS := ws_t 56 (by decide +kernel) rfl
set_option maxRecDepth 100000 in
theorem co_yJ0_coder_7d493 : Cond.code yJ0_coder_7d493 cJ0_coder_7d493 1 (some .byte) ∈ WS := ws_t 61 rfl rfl
theorem im_yJ0_coder_7d493 : Cond.instanceMethod yJ0_coder_7d493 ∈ WS := ws_t 59 (by decide +kernel) rfl
theorem se_yJ0_coder_7d493 : Cond.selects RJ0 yJ0_coder_7d493 yJ0_coder_7d493 ∈ WS := ws_t 60 (by decide +kernel) rfl
set_option maxRecDepth 100000 in
theorem co_yJ0_charAt_5068e : Cond.code yJ0_charAt_5068e cJ0_charAt_5068e 2 (some .char) ∈ WS := ws_t 67 rfl rfl
theorem im_yJ0_charAt_5068e : Cond.instanceMethod yJ0_charAt_5068e ∈ WS := ws_t 65 (by decide +kernel) rfl
theorem se_yJ0_charAt_5068e : Cond.selects RJ0 yJ0_charAt_5068e yJ0_charAt_5068e ∈ WS := ws_t 66 (by decide +kernel) rfl
set_option maxRecDepth 100000 in
theorem co_yJ0_isLatin1_aae02 : Cond.code yJ0_isLatin1_aae02 cJ0_isLatin1_aae02 1 (some .boolean) ∈ WS := ws_t 71 rfl rfl
theorem im_yJ0_isLatin1_aae02 : Cond.instanceMethod yJ0_isLatin1_aae02 ∈ WS := ws_t 69 (by decide +kernel) rfl
theorem se_yJ0_isLatin1_aae02 : Cond.selects RJ0 yJ0_isLatin1_aae02 yJ0_isLatin1_aae02 ∈ WS := ws_t 70 (by decide +kernel) rfl
set_option maxRecDepth 100000 in
theorem co_yJ1_charAt_3b067 : Cond.code yJ1_charAt_3b067 cJ1_charAt_3b067 2 (some .char) ∈ WS := ws_t 74 rfl rfl
theorem sm_yJ1_charAt_3b067 : Cond.static yJ1_charAt_3b067 ∈ WS := ws_t 73 (by decide +kernel) rfl
set_option maxRecDepth 100000 in
theorem co_yJ0_checkIndex_df160 : Cond.code yJ0_checkIndex_df160 cJ0_checkIndex_df160 2 none ∈ WS := ws_t 77 rfl rfl
theorem sm_yJ0_checkIndex_df160 : Cond.static yJ0_checkIndex_df160 ∈ WS := ws_t 76 (by decide +kernel) rfl
set_option maxRecDepth 100000 in
theorem co_yJ3_checkIndex_8e157 : Cond.code yJ3_checkIndex_8e157 cJ3_checkIndex_8e157 3 (some .int) ∈ WS := ws_t 82 rfl rfl
theorem sm_yJ3_checkIndex_8e157 : Cond.static yJ3_checkIndex_8e157 ∈ WS := ws_t 81 (by decide +kernel) rfl
set_option maxRecDepth 100000 in
theorem co_yJ2_charAt_3b067 : Cond.code yJ2_charAt_3b067 cJ2_charAt_3b067 2 (some .char) ∈ WS := ws_t 85 rfl rfl
theorem sm_yJ2_charAt_3b067 : Cond.static yJ2_charAt_3b067 ∈ WS := ws_t 84 (by decide +kernel) rfl
set_option maxRecDepth 100000 in
theorem co_yJ2_checkIndex_2214a : Cond.code yJ2_checkIndex_2214a cJ2_checkIndex_2214a 2 none ∈ WS := ws_t 88 rfl rfl
theorem sm_yJ2_checkIndex_2214a : Cond.static yJ2_checkIndex_2214a ∈ WS := ws_t 87 (by decide +kernel) rfl
set_option maxRecDepth 100000 in
theorem co_yJ2_length_9d52b : Cond.code yJ2_length_9d52b cJ2_length_9d52b 1 (some .int) ∈ WS := ws_t 91 rfl rfl
theorem sm_yJ2_length_9d52b : Cond.static yJ2_length_9d52b ∈ WS := ws_t 90 (by decide +kernel) rfl
set_option maxRecDepth 100000 in
theorem co_yJ2_getChar_3b067 : Cond.code yJ2_getChar_3b067 cJ2_getChar_3b067 2 (some .char) ∈ WS := ws_t 95 rfl rfl
theorem sm_yJ2_getChar_3b067 : Cond.static yJ2_getChar_3b067 ∈ WS := ws_t 94 (by decide +kernel) rfl
set_option maxRecDepth 100000 in
theorem co_yX4_add : Cond.code yX4_add cX4_add 2 (some .int) ∈ WS := ws_t 105 rfl rfl
theorem im_yX4_add : Cond.instanceMethod yX4_add ∈ WS := ws_t 103 (by decide +kernel) rfl
theorem se_yX4_add : Cond.selects RX4 yX4_add yX4_add ∈ WS := ws_t 104 (by decide +kernel) rfl
set_option maxRecDepth 100000 in
theorem co_yX11_withLetter : Cond.code yX11_withLetter cX11_withLetter 3 (some .int) ∈ WS := ws_t 108 rfl rfl
theorem sm_yX11_withLetter : Cond.static yX11_withLetter ∈ WS := ws_t 107 (by decide +kernel) rfl
set_option maxRecDepth 100000 in
theorem co_yX11_shiftOf : Cond.code yX11_shiftOf cX11_shiftOf 1 (some .int) ∈ WS := ws_t 111 rfl rfl
theorem sm_yX11_shiftOf : Cond.static yX11_shiftOf ∈ WS := ws_t 110 (by decide +kernel) rfl
set_option maxRecDepth 100000 in
theorem co_yX0_init : Cond.code yX0_init cX0_init 1 none ∈ WS := ws_t 160 rfl rfl
theorem im_yX0_init : Cond.instanceMethod yX0_init ∈ WS := ws_t 159 (by decide +kernel) rfl
set_option maxRecDepth 100000 in
theorem co_yX10_init : Cond.code yX10_init cX10_init 1 none ∈ WS := ws_t 166 rfl rfl
theorem im_yX10_init : Cond.instanceMethod yX10_init ∈ WS := ws_t 165 (by decide +kernel) rfl
set_option maxRecDepth 100000 in
theorem co_yX8_init : Cond.code yX8_init cX8_init 1 none ∈ WS := ws_t 203 rfl rfl
theorem im_yX8_init : Cond.instanceMethod yX8_init ∈ WS := ws_t 202 (by decide +kernel) rfl
set_option maxRecDepth 100000 in
theorem co_yX3_init : Cond.code yX3_init cX3_init 3 none ∈ WS := ws_t 320 rfl rfl
theorem im_yX3_init : Cond.instanceMethod yX3_init ∈ WS := ws_t 319 (by decide +kernel) rfl
set_option maxRecDepth 100000 in
theorem co_yX5_init : Cond.code yX5_init cX5_init 1 none ∈ WS := ws_t 326 rfl rfl
theorem im_yX5_init : Cond.instanceMethod yX5_init ∈ WS := ws_t 325 (by decide +kernel) rfl
set_option maxRecDepth 100000 in
theorem co_yX4_fill : Cond.code yX4_fill cX4_fill 3 none ∈ WS := ws_t 333 rfl rfl
theorem im_yX4_fill : Cond.instanceMethod yX4_fill ∈ WS := ws_t 331 (by decide +kernel) rfl
theorem se_yX4_fill : Cond.selects RX4 yX4_fill yX4_fill ∈ WS := ws_t 332 (by decide +kernel) rfl
set_option maxRecDepth 100000 in
theorem co_yX9_init : Cond.code yX9_init cX9_init 3 none ∈ WS := ws_t 351 rfl rfl
theorem im_yX9_init : Cond.instanceMethod yX9_init ∈ WS := ws_t 350 (by decide +kernel) rfl
set_option maxRecDepth 100000 in
theorem co_yX7_init : Cond.code yX7_init cX7_init 4 none ∈ WS := ws_t 375 rfl rfl
theorem im_yX7_init : Cond.instanceMethod yX7_init ∈ WS := ws_t 374 (by decide +kernel) rfl
set_option maxRecDepth 100000 in
theorem co_yX6_init : Cond.code yX6_init cX6_init 2 none ∈ WS := ws_t 413 rfl rfl
theorem im_yX6_init : Cond.instanceMethod yX6_init ∈ WS := ws_t 412 (by decide +kernel) rfl
set_option maxRecDepth 100000 in
theorem co_yX1_init : Cond.code yX1_init cX1_init 1 none ∈ WS := ws_t 419 rfl rfl
theorem im_yX1_init : Cond.instanceMethod yX1_init ∈ WS := ws_t 418 (by decide +kernel) rfl
set_option maxRecDepth 100000 in
theorem co_yX11_feed : Cond.code yX11_feed cX11_feed 6 (some .int) ∈ WS := ws_t 539 rfl rfl
theorem im_yX11_feed : Cond.instanceMethod yX11_feed ∈ WS := ws_t 537 (by decide +kernel) rfl
theorem se_yX11_feed : Cond.selects RX11 yX11_feed yX11_feed ∈ WS := ws_t 538 (by decide +kernel) rfl
set_option maxRecDepth 100000 in
theorem co_yX4_size : Cond.code yX4_size cX4_size 1 (some .int) ∈ WS := ws_t 543 rfl rfl
theorem im_yX4_size : Cond.instanceMethod yX4_size ∈ WS := ws_t 541 (by decide +kernel) rfl
theorem se_yX4_size : Cond.selects RX4 yX4_size yX4_size ∈ WS := ws_t 542 (by decide +kernel) rfl
set_option maxRecDepth 100000 in
theorem co_yX4_addBytes : Cond.code yX4_addBytes cX4_addBytes 3 none ∈ WS := ws_t 547 rfl rfl
theorem im_yX4_addBytes : Cond.instanceMethod yX4_addBytes ∈ WS := ws_t 545 (by decide +kernel) rfl
theorem se_yX4_addBytes : Cond.selects RX4 yX4_addBytes yX4_addBytes ∈ WS := ws_t 546 (by decide +kernel) rfl
set_option maxRecDepth 100000 in
theorem co_yX11_end : Cond.code yX11_end cX11_end 2 (some .boolean) ∈ WS := ws_t 552 rfl rfl
theorem im_yX11_end : Cond.instanceMethod yX11_end ∈ WS := ws_t 550 (by decide +kernel) rfl
theorem se_yX11_end : Cond.selects RX11 yX11_end yX11_end ∈ WS := ws_t 551 (by decide +kernel) rfl
set_option maxRecDepth 100000 in
theorem co_yX4_cut : Cond.code yX4_cut cX4_cut 2 none ∈ WS := ws_t 556 rfl rfl
theorem im_yX4_cut : Cond.instanceMethod yX4_cut ∈ WS := ws_t 554 (by decide +kernel) rfl
theorem se_yX4_cut : Cond.selects RX4 yX4_cut yX4_cut ∈ WS := ws_t 555 (by decide +kernel) rfl
set_option maxRecDepth 100000 in
theorem co_yX11_load : Cond.code yX11_load cX11_load 2 (some .int) ∈ WS := ws_t 560 rfl rfl
theorem im_yX11_load : Cond.instanceMethod yX11_load ∈ WS := ws_t 558 (by decide +kernel) rfl
theorem se_yX11_load : Cond.selects RX11 yX11_load yX11_load ∈ WS := ws_t 559 (by decide +kernel) rfl
set_option maxRecDepth 100000 in
theorem co_yX2_start : Cond.code yX2_start cX2_start 4 none ∈ WS := ws_t 564 rfl rfl
theorem im_yX2_start : Cond.instanceMethod yX2_start ∈ WS := ws_t 562 (by decide +kernel) rfl
theorem se_yX2_start : Cond.selects RX2 yX2_start yX2_start ∈ WS := ws_t 563 (by decide +kernel) rfl
set_option maxRecDepth 100000 in
theorem co_yX2_cutToken : Cond.code yX2_cutToken cX2_cutToken 4 (some .int) ∈ WS := ws_t 569 rfl rfl
theorem im_yX2_cutToken : Cond.instanceMethod yX2_cutToken ∈ WS := ws_t 568 (by decide +kernel) rfl
theorem se_yX2_cutToken : Cond.selects RX2 yX2_cutToken yX2_cutToken ∈ WS := ws_s (q := (yX2_cutToken, _)) 0 rfl
set_option maxRecDepth 100000 in
theorem co_yX4_at : Cond.code yX4_at cX4_at 2 (some .int) ∈ WS := ws_t 573 rfl rfl
theorem im_yX4_at : Cond.instanceMethod yX4_at ∈ WS := ws_t 571 (by decide +kernel) rfl
theorem se_yX4_at : Cond.selects RX4 yX4_at yX4_at ∈ WS := ws_t 572 (by decide +kernel) rfl
set_option maxRecDepth 100000 in
theorem co_yX11_isSmallLetter : Cond.code yX11_isSmallLetter cX11_isSmallLetter 1 (some .boolean) ∈ WS := ws_t 576 rfl rfl
theorem sm_yX11_isSmallLetter : Cond.static yX11_isSmallLetter ∈ WS := ws_t 575 (by decide +kernel) rfl
set_option maxRecDepth 100000 in
theorem co_yX2_cutLetters : Cond.code yX2_cutLetters cX2_cutLetters 6 (some .int) ∈ WS := ws_t 580 rfl rfl
theorem im_yX2_cutLetters : Cond.instanceMethod yX2_cutLetters ∈ WS := ws_t 579 (by decide +kernel) rfl
theorem se_yX2_cutLetters : Cond.selects RX2 yX2_cutLetters yX2_cutLetters ∈ WS := ws_s (q := (yX2_cutLetters, _)) 1 rfl
set_option maxRecDepth 100000 in
theorem co_yX4_find : Cond.code yX4_find cX4_find 3 (some .int) ∈ WS := ws_t 584 rfl rfl
theorem im_yX4_find : Cond.instanceMethod yX4_find ∈ WS := ws_t 582 (by decide +kernel) rfl
theorem se_yX4_find : Cond.selects RX4 yX4_find yX4_find ∈ WS := ws_t 583 (by decide +kernel) rfl
set_option maxRecDepth 100000 in
theorem co_yX2_note : Cond.code yX2_note cX2_note 4 none ∈ WS := ws_t 588 rfl rfl
theorem im_yX2_note : Cond.instanceMethod yX2_note ∈ WS := ws_t 587 (by decide +kernel) rfl
theorem se_yX2_note : Cond.selects RX2 yX2_note yX2_note ∈ WS := ws_s (q := (yX2_note, _)) 2 rfl
set_option maxRecDepth 100000 in
theorem co_yX11_isDigit : Cond.code yX11_isDigit cX11_isDigit 1 (some .boolean) ∈ WS := ws_t 591 rfl rfl
theorem sm_yX11_isDigit : Cond.static yX11_isDigit ∈ WS := ws_t 590 (by decide +kernel) rfl
set_option maxRecDepth 100000 in
theorem co_yX2_cutDigits : Cond.code yX2_cutDigits cX2_cutDigits 6 (some .int) ∈ WS := ws_t 595 rfl rfl
theorem im_yX2_cutDigits : Cond.instanceMethod yX2_cutDigits ∈ WS := ws_t 594 (by decide +kernel) rfl
theorem se_yX2_cutDigits : Cond.selects RX2 yX2_cutDigits yX2_cutDigits ∈ WS := ws_s (q := (yX2_cutDigits, _)) 3 rfl
set_option maxRecDepth 100000 in
theorem co_yX11_isLetter : Cond.code yX11_isLetter cX11_isLetter 1 (some .boolean) ∈ WS := ws_t 598 rfl rfl
theorem sm_yX11_isLetter : Cond.static yX11_isLetter ∈ WS := ws_t 597 (by decide +kernel) rfl
set_option maxRecDepth 100000 in
theorem co_yJ0_indexOf_0f7a4 : Cond.code yJ0_indexOf_0f7a4 cJ0_indexOf_0f7a4 2 (some .int) ∈ WS := ws_t 604 rfl rfl
theorem im_yJ0_indexOf_0f7a4 : Cond.instanceMethod yJ0_indexOf_0f7a4 ∈ WS := ws_t 602 (by decide +kernel) rfl
theorem se_yJ0_indexOf_0f7a4 : Cond.selects RJ0 yJ0_indexOf_0f7a4 yJ0_indexOf_0f7a4 ∈ WS := ws_t 603 (by decide +kernel) rfl
set_option maxRecDepth 100000 in
theorem co_yJ0_indexOf_7cf53 : Cond.code yJ0_indexOf_7cf53 cJ0_indexOf_7cf53 3 (some .int) ∈ WS := ws_t 608 rfl rfl
theorem im_yJ0_indexOf_7cf53 : Cond.instanceMethod yJ0_indexOf_7cf53 ∈ WS := ws_t 606 (by decide +kernel) rfl
theorem se_yJ0_indexOf_7cf53 : Cond.selects RJ0 yJ0_indexOf_7cf53 yJ0_indexOf_7cf53 ∈ WS := ws_t 607 (by decide +kernel) rfl
set_option maxRecDepth 100000 in
theorem co_yJ1_indexOf_4cfef : Cond.code yJ1_indexOf_4cfef cJ1_indexOf_4cfef 4 (some .int) ∈ WS := ws_t 612 rfl rfl
theorem sm_yJ1_indexOf_4cfef : Cond.static yJ1_indexOf_4cfef ∈ WS := ws_t 611 (by decide +kernel) rfl
set_option maxRecDepth 100000 in
theorem co_yJ1_canEncode_9a6ad : Cond.code yJ1_canEncode_9a6ad cJ1_canEncode_9a6ad 1 (some .boolean) ∈ WS := ws_t 615 rfl rfl
theorem sm_yJ1_canEncode_9a6ad : Cond.static yJ1_canEncode_9a6ad ∈ WS := ws_t 614 (by decide +kernel) rfl
set_option maxRecDepth 100000 in
theorem co_yJ9_min_7cf53 : Cond.code yJ9_min_7cf53 cJ9_min_7cf53 2 (some .int) ∈ WS := ws_t 619 rfl rfl
theorem sm_yJ9_min_7cf53 : Cond.static yJ9_min_7cf53 ∈ WS := ws_t 618 (by decide +kernel) rfl
set_option maxRecDepth 100000 in
theorem co_yJ1_indexOfChar_4cfef : Cond.code yJ1_indexOfChar_4cfef cJ1_indexOfChar_4cfef 6 (some .int) ∈ WS := ws_t 622 rfl rfl
theorem sm_yJ1_indexOfChar_4cfef : Cond.static yJ1_indexOfChar_4cfef ∈ WS := ws_t 621 (by decide +kernel) rfl
set_option maxRecDepth 100000 in
theorem co_yJ2_indexOf_4cfef : Cond.code yJ2_indexOf_4cfef cJ2_indexOf_4cfef 4 (some .int) ∈ WS := ws_t 625 rfl rfl
theorem sm_yJ2_indexOf_4cfef : Cond.static yJ2_indexOf_4cfef ∈ WS := ws_t 624 (by decide +kernel) rfl
set_option maxRecDepth 100000 in
theorem co_yJ2_indexOfChar_4cfef : Cond.code yJ2_indexOfChar_4cfef cJ2_indexOfChar_4cfef 4 (some .int) ∈ WS := ws_t 631 rfl rfl
theorem sm_yJ2_indexOfChar_4cfef : Cond.static yJ2_indexOfChar_4cfef ∈ WS := ws_t 630 (by decide +kernel) rfl
set_option maxRecDepth 100000 in
theorem co_yJ2_checkBoundsBeginEnd_d044e : Cond.code yJ2_checkBoundsBeginEnd_d044e cJ2_checkBoundsBeginEnd_d044e 3 none ∈ WS := ws_t 634 rfl rfl
theorem sm_yJ2_checkBoundsBeginEnd_d044e : Cond.static yJ2_checkBoundsBeginEnd_d044e ∈ WS := ws_t 633 (by decide +kernel) rfl
set_option maxRecDepth 100000 in
theorem co_yJ0_checkBoundsBeginEnd_23922 : Cond.code yJ0_checkBoundsBeginEnd_23922 cJ0_checkBoundsBeginEnd_23922 3 none ∈ WS := ws_t 637 rfl rfl
theorem sm_yJ0_checkBoundsBeginEnd_23922 : Cond.static yJ0_checkBoundsBeginEnd_23922 ∈ WS := ws_t 636 (by decide +kernel) rfl
set_option maxRecDepth 100000 in
theorem co_yJ3_checkFromToIndex_8c36e : Cond.code yJ3_checkFromToIndex_8c36e cJ3_checkFromToIndex_8c36e 4 (some .int) ∈ WS := ws_t 640 rfl rfl
theorem sm_yJ3_checkFromToIndex_8c36e : Cond.static yJ3_checkFromToIndex_8c36e ∈ WS := ws_t 639 (by decide +kernel) rfl
set_option maxRecDepth 100000 in
theorem co_yJ2_indexOfCharUnsafe_4cfef : Cond.code yJ2_indexOfCharUnsafe_4cfef cJ2_indexOfCharUnsafe_4cfef 5 (some .int) ∈ WS := ws_t 643 rfl rfl
theorem sm_yJ2_indexOfCharUnsafe_4cfef : Cond.static yJ2_indexOfCharUnsafe_4cfef ∈ WS := ws_t 642 (by decide +kernel) rfl
set_option maxRecDepth 100000 in
theorem co_yJ2_indexOfSupplementary_4cfef : Cond.code yJ2_indexOfSupplementary_4cfef cJ2_indexOfSupplementary_4cfef 7 (some .int) ∈ WS := ws_t 646 rfl rfl
theorem sm_yJ2_indexOfSupplementary_4cfef : Cond.static yJ2_indexOfSupplementary_4cfef ∈ WS := ws_t 645 (by decide +kernel) rfl
set_option maxRecDepth 100000 in
theorem co_yJ11_isValidCodePoint_9a6ad : Cond.code yJ11_isValidCodePoint_9a6ad cJ11_isValidCodePoint_9a6ad 2 (some .boolean) ∈ WS := ws_t 649 rfl rfl
theorem sm_yJ11_isValidCodePoint_9a6ad : Cond.static yJ11_isValidCodePoint_9a6ad ∈ WS := ws_t 648 (by decide +kernel) rfl
set_option maxRecDepth 100000 in
theorem co_yJ11_highSurrogate_5068e : Cond.code yJ11_highSurrogate_5068e cJ11_highSurrogate_5068e 1 (some .char) ∈ WS := ws_t 652 rfl rfl
theorem sm_yJ11_highSurrogate_5068e : Cond.static yJ11_highSurrogate_5068e ∈ WS := ws_t 651 (by decide +kernel) rfl
set_option maxRecDepth 100000 in
theorem co_yJ11_lowSurrogate_5068e : Cond.code yJ11_lowSurrogate_5068e cJ11_lowSurrogate_5068e 1 (some .char) ∈ WS := ws_t 656 rfl rfl
theorem sm_yJ11_lowSurrogate_5068e : Cond.static yJ11_lowSurrogate_5068e ∈ WS := ws_t 655 (by decide +kernel) rfl
set_option maxRecDepth 100000 in
theorem co_yX2_advance : Cond.code yX2_advance cX2_advance 1 none ∈ WS := ws_t 661 rfl rfl
theorem im_yX2_advance : Cond.instanceMethod yX2_advance ∈ WS := ws_t 659 (by decide +kernel) rfl
theorem se_yX2_advance : Cond.selects RX2 yX2_advance yX2_advance ∈ WS := ws_t 660 (by decide +kernel) rfl
set_option maxRecDepth 100000 in
theorem co_yX4_clear : Cond.code yX4_clear cX4_clear 1 none ∈ WS := ws_t 665 rfl rfl
theorem im_yX4_clear : Cond.instanceMethod yX4_clear ∈ WS := ws_t 663 (by decide +kernel) rfl
theorem se_yX4_clear : Cond.selects RX4 yX4_clear yX4_clear ∈ WS := ws_t 664 (by decide +kernel) rfl
set_option maxRecDepth 100000 in
theorem co_yX3_use : Cond.code yX3_use cX3_use 2 none ∈ WS := ws_t 669 rfl rfl
theorem im_yX3_use : Cond.instanceMethod yX3_use ∈ WS := ws_t 667 (by decide +kernel) rfl
theorem se_yX3_use : Cond.selects RX3 yX3_use yX3_use ∈ WS := ws_t 668 (by decide +kernel) rfl
set_option maxRecDepth 100000 in
theorem co_yX0_clear : Cond.code yX0_clear cX0_clear 1 none ∈ WS := ws_t 673 rfl rfl
theorem im_yX0_clear : Cond.instanceMethod yX0_clear ∈ WS := ws_t 671 (by decide +kernel) rfl
theorem se_yX0_clear : Cond.selects RX0 yX0_clear yX0_clear ∈ WS := ws_t 672 (by decide +kernel) rfl
set_option maxRecDepth 100000 in
theorem co_yX10_clear : Cond.code yX10_clear cX10_clear 1 none ∈ WS := ws_t 677 rfl rfl
theorem im_yX10_clear : Cond.instanceMethod yX10_clear ∈ WS := ws_t 675 (by decide +kernel) rfl
theorem se_yX10_clear : Cond.selects RX10 yX10_clear yX10_clear ∈ WS := ws_t 676 (by decide +kernel) rfl
set_option maxRecDepth 100000 in
theorem co_yX8_clear : Cond.code yX8_clear cX8_clear 1 none ∈ WS := ws_t 682 rfl rfl
theorem im_yX8_clear : Cond.instanceMethod yX8_clear ∈ WS := ws_t 680 (by decide +kernel) rfl
theorem se_yX8_clear : Cond.selects RX8 yX8_clear yX8_clear ∈ WS := ws_t 681 (by decide +kernel) rfl
set_option maxRecDepth 100000 in
theorem co_yX9_use : Cond.code yX9_use cX9_use 2 none ∈ WS := ws_t 688 rfl rfl
theorem im_yX9_use : Cond.instanceMethod yX9_use ∈ WS := ws_t 686 (by decide +kernel) rfl
theorem se_yX9_use : Cond.selects RX9 yX9_use yX9_use ∈ WS := ws_t 687 (by decide +kernel) rfl
set_option maxRecDepth 100000 in
theorem co_yX7_use : Cond.code yX7_use cX7_use 2 none ∈ WS := ws_t 693 rfl rfl
theorem im_yX7_use : Cond.instanceMethod yX7_use ∈ WS := ws_t 691 (by decide +kernel) rfl
theorem se_yX7_use : Cond.selects RX7 yX7_use yX7_use ∈ WS := ws_t 692 (by decide +kernel) rfl
set_option maxRecDepth 100000 in
theorem co_yX3_readTypes : Cond.code yX3_readTypes cX3_readTypes 4 none ∈ WS := ws_t 697 rfl rfl
theorem im_yX3_readTypes : Cond.instanceMethod yX3_readTypes ∈ WS := ws_t 695 (by decide +kernel) rfl
theorem se_yX3_readTypes : Cond.selects RX3 yX3_readTypes yX3_readTypes ∈ WS := ws_t 696 (by decide +kernel) rfl
set_option maxRecDepth 100000 in
theorem co_yX2_skip : Cond.code yX2_skip cX2_skip 2 (some .boolean) ∈ WS := ws_t 701 rfl rfl
theorem im_yX2_skip : Cond.instanceMethod yX2_skip ∈ WS := ws_t 699 (by decide +kernel) rfl
theorem se_yX2_skip : Cond.selects RX2 yX2_skip yX2_skip ∈ WS := ws_t 700 (by decide +kernel) rfl
set_option maxRecDepth 100000 in
theorem co_yX3_readFresh : Cond.code yX3_readFresh cX3_readFresh 5 (some .int) ∈ WS := ws_t 705 rfl rfl
theorem im_yX3_readFresh : Cond.instanceMethod yX3_readFresh ∈ WS := ws_t 704 (by decide +kernel) rfl
theorem se_yX3_readFresh : Cond.selects RX3 yX3_readFresh yX3_readFresh ∈ WS := ws_s (q := (yX3_readFresh, _)) 4 rfl
set_option maxRecDepth 100000 in
theorem co_yX2_takeName : Cond.code yX2_takeName cX2_takeName 2 (some .int) ∈ WS := ws_t 709 rfl rfl
theorem im_yX2_takeName : Cond.instanceMethod yX2_takeName ∈ WS := ws_t 707 (by decide +kernel) rfl
theorem se_yX2_takeName : Cond.selects RX2 yX2_takeName yX2_takeName ∈ WS := ws_t 708 (by decide +kernel) rfl
set_option maxRecDepth 100000 in
theorem co_yX2_refuse : Cond.code yX2_refuse cX2_refuse 3 none ∈ WS := ws_t 713 rfl rfl
theorem im_yX2_refuse : Cond.instanceMethod yX2_refuse ∈ WS := ws_t 711 (by decide +kernel) rfl
theorem se_yX2_refuse : Cond.selects RX2 yX2_refuse yX2_refuse ∈ WS := ws_t 712 (by decide +kernel) rfl
set_option maxRecDepth 100000 in
theorem co_yX2_want : Cond.code yX2_want cX2_want 2 none ∈ WS := ws_t 720 rfl rfl
theorem im_yX2_want : Cond.instanceMethod yX2_want ∈ WS := ws_t 718 (by decide +kernel) rfl
theorem se_yX2_want : Cond.selects RX2 yX2_want yX2_want ∈ WS := ws_t 719 (by decide +kernel) rfl
set_option maxRecDepth 100000 in
theorem co_yX9_readWhole : Cond.code yX9_readWhole cX9_readWhole 1 (some .int) ∈ WS := ws_t 724 rfl rfl
theorem im_yX9_readWhole : Cond.instanceMethod yX9_readWhole ∈ WS := ws_t 722 (by decide +kernel) rfl
theorem se_yX9_readWhole : Cond.selects RX9 yX9_readWhole yX9_readWhole ∈ WS := ws_t 723 (by decide +kernel) rfl
set_option maxRecDepth 100000 in
theorem co_yX9_readType : Cond.code yX9_readType cX9_readType 3 (some .int) ∈ WS := ws_t 728 rfl rfl
theorem im_yX9_readType : Cond.instanceMethod yX9_readType ∈ WS := ws_t 727 (by decide +kernel) rfl
theorem se_yX9_readType : Cond.selects RX9 yX9_readType yX9_readType ∈ WS := ws_s (q := (yX9_readType, _)) 5 rfl
set_option maxRecDepth 100000 in
theorem co_yX9_readKnown : Cond.code yX9_readKnown cX9_readKnown 4 (some .int) ∈ WS := ws_t 732 rfl rfl
theorem im_yX9_readKnown : Cond.instanceMethod yX9_readKnown ∈ WS := ws_t 731 (by decide +kernel) rfl
theorem se_yX9_readKnown : Cond.selects RX9 yX9_readKnown yX9_readKnown ∈ WS := ws_s (q := (yX9_readKnown, _)) 6 rfl
set_option maxRecDepth 100000 in
theorem co_yX9_countParts : Cond.code yX9_countParts cX9_countParts 3 none ∈ WS := ws_t 740 rfl rfl
theorem im_yX9_countParts : Cond.instanceMethod yX9_countParts ∈ WS := ws_t 739 (by decide +kernel) rfl
theorem se_yX9_countParts : Cond.selects RX9 yX9_countParts yX9_countParts ∈ WS := ws_s (q := (yX9_countParts, _)) 7 rfl
set_option maxRecDepth 100000 in
theorem co_yX9_isTalkSign : Cond.code yX9_isTalkSign cX9_isTalkSign 1 (some .boolean) ∈ WS := ws_t 743 rfl rfl
theorem sm_yX9_isTalkSign : Cond.static yX9_isTalkSign ∈ WS := ws_t 742 (by decide +kernel) rfl
set_option maxRecDepth 100000 in
theorem co_yX10_isChoice : Cond.code yX10_isChoice cX10_isChoice 1 (some .boolean) ∈ WS := ws_t 746 rfl rfl
theorem sm_yX10_isChoice : Cond.static yX10_isChoice ∈ WS := ws_t 745 (by decide +kernel) rfl
set_option maxRecDepth 100000 in
theorem co_yX2_failed : Cond.code yX2_failed cX2_failed 1 (some .boolean) ∈ WS := ws_t 751 rfl rfl
theorem im_yX2_failed : Cond.instanceMethod yX2_failed ∈ WS := ws_t 749 (by decide +kernel) rfl
theorem se_yX2_failed : Cond.selects RX2 yX2_failed yX2_failed ∈ WS := ws_t 750 (by decide +kernel) rfl
set_option maxRecDepth 100000 in
theorem co_yX10_make : Cond.code yX10_make cX10_make 5 (some .int) ∈ WS := ws_t 755 rfl rfl
theorem im_yX10_make : Cond.instanceMethod yX10_make ∈ WS := ws_t 753 (by decide +kernel) rfl
theorem se_yX10_make : Cond.selects RX10 yX10_make yX10_make ∈ WS := ws_t 754 (by decide +kernel) rfl
set_option maxRecDepth 100000 in
theorem co_yX10_addT : Cond.code yX10_addT cX10_addT 5 (some .int) ∈ WS := ws_t 761 rfl rfl
theorem im_yX10_addT : Cond.instanceMethod yX10_addT ∈ WS := ws_t 760 (by decide +kernel) rfl
theorem se_yX10_addT : Cond.selects RX10 yX10_addT yX10_addT ∈ WS := ws_s (q := (yX10_addT, _)) 8 rfl
set_option maxRecDepth 100000 in
theorem co_yX9_readChoice : Cond.code yX9_readChoice cX9_readChoice 6 (some .int) ∈ WS := ws_t 766 rfl rfl
theorem im_yX9_readChoice : Cond.instanceMethod yX9_readChoice ∈ WS := ws_t 765 (by decide +kernel) rfl
theorem se_yX9_readChoice : Cond.selects RX9 yX9_readChoice yX9_readChoice ∈ WS := ws_s (q := (yX9_readChoice, _)) 9 rfl
set_option maxRecDepth 100000 in
theorem co_yX9_readBranchName : Cond.code yX9_readBranchName cX9_readBranchName 5 (some .int) ∈ WS := ws_t 772 rfl rfl
theorem im_yX9_readBranchName : Cond.instanceMethod yX9_readBranchName ∈ WS := ws_t 771 (by decide +kernel) rfl
theorem se_yX9_readBranchName : Cond.selects RX9 yX9_readBranchName yX9_readBranchName ∈ WS := ws_s (q := (yX9_readBranchName, _)) 10 rfl
set_option maxRecDepth 100000 in
theorem co_yX4_put : Cond.code yX4_put cX4_put 3 none ∈ WS := ws_t 777 rfl rfl
theorem im_yX4_put : Cond.instanceMethod yX4_put ∈ WS := ws_t 775 (by decide +kernel) rfl
theorem se_yX4_put : Cond.selects RX4 yX4_put yX4_put ∈ WS := ws_t 776 (by decide +kernel) rfl
set_option maxRecDepth 100000 in
theorem co_yX9_sortLast : Cond.code yX9_sortLast cX9_sortLast 5 none ∈ WS := ws_t 781 rfl rfl
theorem im_yX9_sortLast : Cond.instanceMethod yX9_sortLast ∈ WS := ws_t 780 (by decide +kernel) rfl
theorem se_yX9_sortLast : Cond.selects RX9 yX9_sortLast yX9_sortLast ∈ WS := ws_s (q := (yX9_sortLast, _)) 11 rfl
set_option maxRecDepth 100000 in
theorem co_yX10_makeChoice : Cond.code yX10_makeChoice cX10_makeChoice 9 (some .int) ∈ WS := ws_t 786 rfl rfl
theorem im_yX10_makeChoice : Cond.instanceMethod yX10_makeChoice ∈ WS := ws_t 784 (by decide +kernel) rfl
theorem se_yX10_makeChoice : Cond.selects RX10 yX10_makeChoice yX10_makeChoice ∈ WS := ws_t 785 (by decide +kernel) rfl
set_option maxRecDepth 100000 in
theorem co_yX10_isLike : Cond.code yX10_isLike cX10_isLike 7 (some .boolean) ∈ WS := ws_t 790 rfl rfl
theorem im_yX10_isLike : Cond.instanceMethod yX10_isLike ∈ WS := ws_t 789 (by decide +kernel) rfl
theorem se_yX10_isLike : Cond.selects RX10 yX10_isLike yX10_isLike ∈ WS := ws_s (q := (yX10_isLike, _)) 12 rfl
set_option maxRecDepth 100000 in
theorem co_yX9_readTalk : Cond.code yX9_readTalk cX9_readTalk 5 (some .int) ∈ WS := ws_t 795 rfl rfl
theorem im_yX9_readTalk : Cond.instanceMethod yX9_readTalk ∈ WS := ws_t 794 (by decide +kernel) rfl
theorem se_yX9_readTalk : Cond.selects RX9 yX9_readTalk yX9_readTalk ∈ WS := ws_s (q := (yX9_readTalk, _)) 13 rfl
set_option maxRecDepth 100000 in
theorem co_yX3_readDef : Cond.code yX3_readDef cX3_readDef 4 none ∈ WS := ws_t 801 rfl rfl
theorem im_yX3_readDef : Cond.instanceMethod yX3_readDef ∈ WS := ws_t 799 (by decide +kernel) rfl
theorem se_yX3_readDef : Cond.selects RX3 yX3_readDef yX3_readDef ∈ WS := ws_t 800 (by decide +kernel) rfl
set_option maxRecDepth 100000 in
theorem co_yX5_start : Cond.code yX5_start cX5_start 1 none ∈ WS := ws_t 805 rfl rfl
theorem im_yX5_start : Cond.instanceMethod yX5_start ∈ WS := ws_t 803 (by decide +kernel) rfl
theorem se_yX5_start : Cond.selects RX5 yX5_start yX5_start ∈ WS := ws_t 804 (by decide +kernel) rfl
set_option maxRecDepth 100000 in
theorem co_yX5_add : Cond.code yX5_add cX5_add 4 (some .int) ∈ WS := ws_t 810 rfl rfl
theorem im_yX5_add : Cond.instanceMethod yX5_add ∈ WS := ws_t 808 (by decide +kernel) rfl
theorem se_yX5_add : Cond.selects RX5 yX5_add yX5_add ∈ WS := ws_t 809 (by decide +kernel) rfl
set_option maxRecDepth 100000 in
theorem co_yX5_set : Cond.code yX5_set cX5_set 4 none ∈ WS := ws_t 815 rfl rfl
theorem im_yX5_set : Cond.instanceMethod yX5_set ∈ WS := ws_t 813 (by decide +kernel) rfl
theorem se_yX5_set : Cond.selects RX5 yX5_set yX5_set ∈ WS := ws_t 814 (by decide +kernel) rfl
set_option maxRecDepth 100000 in
theorem co_yX5_index : Cond.code yX5_index cX5_index 2 (some .int) ∈ WS := ws_t 819 rfl rfl
theorem im_yX5_index : Cond.instanceMethod yX5_index ∈ WS := ws_t 818 (by decide +kernel) rfl
theorem se_yX5_index : Cond.selects RX5 yX5_index yX5_index ∈ WS := ws_s (q := (yX5_index, _)) 14 rfl
set_option maxRecDepth 100000 in
theorem co_yX4_bump : Cond.code yX4_bump cX4_bump 3 none ∈ WS := ws_t 823 rfl rfl
theorem im_yX4_bump : Cond.instanceMethod yX4_bump ∈ WS := ws_t 821 (by decide +kernel) rfl
theorem se_yX4_bump : Cond.selects RX4 yX4_bump yX4_bump ∈ WS := ws_t 822 (by decide +kernel) rfl
set_option maxRecDepth 100000 in
theorem co_yX3_readParams : Cond.code yX3_readParams cX3_readParams 7 none ∈ WS := ws_t 827 rfl rfl
theorem im_yX3_readParams : Cond.instanceMethod yX3_readParams ∈ WS := ws_t 826 (by decide +kernel) rfl
theorem se_yX3_readParams : Cond.selects RX3 yX3_readParams yX3_readParams ∈ WS := ws_s (q := (yX3_readParams, _)) 15 rfl
set_option maxRecDepth 100000 in
theorem co_yX2_is : Cond.code yX2_is cX2_is 2 (some .boolean) ∈ WS := ws_t 831 rfl rfl
theorem im_yX2_is : Cond.instanceMethod yX2_is ∈ WS := ws_t 829 (by decide +kernel) rfl
theorem se_yX2_is : Cond.selects RX2 yX2_is yX2_is ∈ WS := ws_t 830 (by decide +kernel) rfl
set_option maxRecDepth 100000 in
theorem co_yX3_readFreshThing : Cond.code yX3_readFreshThing cX3_readFreshThing 3 (some .int) ∈ WS := ws_t 835 rfl rfl
theorem im_yX3_readFreshThing : Cond.instanceMethod yX3_readFreshThing ∈ WS := ws_t 834 (by decide +kernel) rfl
theorem se_yX3_readFreshThing : Cond.selects RX3 yX3_readFreshThing yX3_readFreshThing ∈ WS := ws_s (q := (yX3_readFreshThing, _)) 16 rfl
set_option maxRecDepth 100000 in
theorem co_yX5_find : Cond.code yX5_find cX5_find 3 (some .int) ∈ WS := ws_t 839 rfl rfl
theorem im_yX5_find : Cond.instanceMethod yX5_find ∈ WS := ws_t 837 (by decide +kernel) rfl
theorem se_yX5_find : Cond.selects RX5 yX5_find yX5_find ∈ WS := ws_t 838 (by decide +kernel) rfl
set_option maxRecDepth 100000 in
theorem co_yX3_readSteps : Cond.code yX3_readSteps cX3_readSteps 4 (some .int) ∈ WS := ws_t 846 rfl rfl
theorem im_yX3_readSteps : Cond.instanceMethod yX3_readSteps ∈ WS := ws_t 845 (by decide +kernel) rfl
theorem se_yX3_readSteps : Cond.selects RX3 yX3_readSteps yX3_readSteps ∈ WS := ws_s (q := (yX3_readSteps, _)) 17 rfl
set_option maxRecDepth 100000 in
theorem co_yX3_countWord : Cond.code yX3_countWord cX3_countWord 2 none ∈ WS := ws_t 851 rfl rfl
theorem im_yX3_countWord : Cond.instanceMethod yX3_countWord ∈ WS := ws_t 850 (by decide +kernel) rfl
theorem se_yX3_countWord : Cond.selects RX3 yX3_countWord yX3_countWord ∈ WS := ws_s (q := (yX3_countWord, _)) 18 rfl
set_option maxRecDepth 100000 in
theorem co_yX5_hasChannels : Cond.code yX5_hasChannels cX5_hasChannels 2 (some .boolean) ∈ WS := ws_t 855 rfl rfl
theorem im_yX5_hasChannels : Cond.instanceMethod yX5_hasChannels ∈ WS := ws_t 853 (by decide +kernel) rfl
theorem se_yX5_hasChannels : Cond.selects RX5 yX5_hasChannels yX5_hasChannels ∈ WS := ws_t 854 (by decide +kernel) rfl
set_option maxRecDepth 100000 in
theorem co_yX3_readIf : Cond.code yX3_readIf cX3_readIf 4 (some .int) ∈ WS := ws_t 859 rfl rfl
theorem im_yX3_readIf : Cond.instanceMethod yX3_readIf ∈ WS := ws_t 858 (by decide +kernel) rfl
theorem se_yX3_readIf : Cond.selects RX3 yX3_readIf yX3_readIf ∈ WS := ws_s (q := (yX3_readIf, _)) 19 rfl
set_option maxRecDepth 100000 in
theorem co_yX0_addNode : Cond.code yX0_addNode cX0_addNode 2 (some .int) ∈ WS := ws_t 863 rfl rfl
theorem im_yX0_addNode : Cond.instanceMethod yX0_addNode ∈ WS := ws_t 861 (by decide +kernel) rfl
theorem se_yX0_addNode : Cond.selects RX0 yX0_addNode yX0_addNode ∈ WS := ws_t 862 (by decide +kernel) rfl
set_option maxRecDepth 100000 in
theorem co_yX3_refuseOpen : Cond.code yX3_refuseOpen cX3_refuseOpen 2 none ∈ WS := ws_t 868 rfl rfl
theorem im_yX3_refuseOpen : Cond.instanceMethod yX3_refuseOpen ∈ WS := ws_t 867 (by decide +kernel) rfl
theorem se_yX3_refuseOpen : Cond.selects RX3 yX3_refuseOpen yX3_refuseOpen ∈ WS := ws_s (q := (yX3_refuseOpen, _)) 20 rfl
set_option maxRecDepth 100000 in
theorem co_yX7_readSum : Cond.code yX7_readSum cX7_readSum 8 (some .int) ∈ WS := ws_t 873 rfl rfl
theorem im_yX7_readSum : Cond.instanceMethod yX7_readSum ∈ WS := ws_t 872 (by decide +kernel) rfl
theorem se_yX7_readSum : Cond.selects RX7 yX7_readSum yX7_readSum ∈ WS := ws_s (q := (yX7_readSum, _)) 21 rfl
set_option maxRecDepth 100000 in
theorem co_yX7_readUnit : Cond.code yX7_readUnit cX7_readUnit 4 (some .int) ∈ WS := ws_t 877 rfl rfl
theorem im_yX7_readUnit : Cond.instanceMethod yX7_readUnit ∈ WS := ws_t 876 (by decide +kernel) rfl
theorem se_yX7_readUnit : Cond.selects RX7 yX7_readUnit yX7_readUnit ∈ WS := ws_s (q := (yX7_readUnit, _)) 22 rfl
set_option maxRecDepth 100000 in
theorem co_yX5_talkAt : Cond.code yX5_talkAt cX5_talkAt 2 (some .int) ∈ WS := ws_t 882 rfl rfl
theorem im_yX5_talkAt : Cond.instanceMethod yX5_talkAt ∈ WS := ws_t 880 (by decide +kernel) rfl
theorem se_yX5_talkAt : Cond.selects RX5 yX5_talkAt yX5_talkAt ∈ WS := ws_t 881 (by decide +kernel) rfl
set_option maxRecDepth 100000 in
theorem co_yX8_addLeaf : Cond.code yX8_addLeaf cX8_addLeaf 3 (some .int) ∈ WS := ws_t 888 rfl rfl
theorem im_yX8_addLeaf : Cond.instanceMethod yX8_addLeaf ∈ WS := ws_t 886 (by decide +kernel) rfl
theorem se_yX8_addLeaf : Cond.selects RX8 yX8_addLeaf yX8_addLeaf ∈ WS := ws_t 887 (by decide +kernel) rfl
set_option maxRecDepth 100000 in
theorem co_yX8_addNode : Cond.code yX8_addNode cX8_addNode 4 (some .int) ∈ WS := ws_t 895 rfl rfl
theorem im_yX8_addNode : Cond.instanceMethod yX8_addNode ∈ WS := ws_t 893 (by decide +kernel) rfl
theorem se_yX8_addNode : Cond.selects RX8 yX8_addNode yX8_addNode ∈ WS := ws_t 894 (by decide +kernel) rfl
set_option maxRecDepth 100000 in
theorem co_yX7_joins : Cond.code yX7_joins cX7_joins 2 (some .boolean) ∈ WS := ws_t 901 rfl rfl
theorem sm_yX7_joins : Cond.static yX7_joins ∈ WS := ws_t 900 (by decide +kernel) rfl
set_option maxRecDepth 100000 in
theorem co_yX3_readBraced : Cond.code yX3_readBraced cX3_readBraced 3 (some .int) ∈ WS := ws_t 905 rfl rfl
theorem im_yX3_readBraced : Cond.instanceMethod yX3_readBraced ∈ WS := ws_t 904 (by decide +kernel) rfl
theorem se_yX3_readBraced : Cond.selects RX3 yX3_readBraced yX3_readBraced ∈ WS := ws_s (q := (yX3_readBraced, _)) 23 rfl
set_option maxRecDepth 100000 in
theorem co_yX5_enter : Cond.code yX5_enter cX5_enter 4 none ∈ WS := ws_t 909 rfl rfl
theorem im_yX5_enter : Cond.instanceMethod yX5_enter ∈ WS := ws_t 907 (by decide +kernel) rfl
theorem se_yX5_enter : Cond.selects RX5 yX5_enter yX5_enter ∈ WS := ws_t 908 (by decide +kernel) rfl
set_option maxRecDepth 100000 in
theorem co_yX5_leave : Cond.code yX5_leave cX5_leave 1 none ∈ WS := ws_t 913 rfl rfl
theorem im_yX5_leave : Cond.instanceMethod yX5_leave ∈ WS := ws_t 911 (by decide +kernel) rfl
theorem se_yX5_leave : Cond.selects RX5 yX5_leave yX5_leave ∈ WS := ws_t 912 (by decide +kernel) rfl
set_option maxRecDepth 100000 in
theorem co_yX3_readCase : Cond.code yX3_readCase cX3_readCase 9 (some .int) ∈ WS := ws_t 919 rfl rfl
theorem im_yX3_readCase : Cond.instanceMethod yX3_readCase ∈ WS := ws_t 918 (by decide +kernel) rfl
theorem se_yX3_readCase : Cond.selects RX3 yX3_readCase yX3_readCase ∈ WS := ws_s (q := (yX3_readCase, _)) 24 rfl
set_option maxRecDepth 100000 in
theorem co_yX3_readChannel : Cond.code yX3_readChannel cX3_readChannel 5 (some .int) ∈ WS := ws_t 923 rfl rfl
theorem im_yX3_readChannel : Cond.instanceMethod yX3_readChannel ∈ WS := ws_t 922 (by decide +kernel) rfl
theorem se_yX3_readChannel : Cond.selects RX3 yX3_readChannel yX3_readChannel ∈ WS := ws_s (q := (yX3_readChannel, _)) 25 rfl
set_option maxRecDepth 100000 in
theorem co_yX3_talkFor : Cond.code yX3_talkFor cX3_talkFor 2 (some .int) ∈ WS := ws_t 928 rfl rfl
theorem sm_yX3_talkFor : Cond.static yX3_talkFor ∈ WS := ws_t 927 (by decide +kernel) rfl
set_option maxRecDepth 100000 in
theorem co_yX10_branches : Cond.code yX10_branches cX10_branches 2 (some .int) ∈ WS := ws_t 932 rfl rfl
theorem im_yX10_branches : Cond.instanceMethod yX10_branches ∈ WS := ws_t 930 (by decide +kernel) rfl
theorem se_yX10_branches : Cond.selects RX10 yX10_branches yX10_branches ∈ WS := ws_t 931 (by decide +kernel) rfl
set_option maxRecDepth 100000 in
theorem co_yX0_addAlternatives : Cond.code yX0_addAlternatives cX0_addAlternatives 4 (some .int) ∈ WS := ws_t 937 rfl rfl
theorem im_yX0_addAlternatives : Cond.instanceMethod yX0_addAlternatives ∈ WS := ws_t 935 (by decide +kernel) rfl
theorem se_yX0_addAlternatives : Cond.selects RX0 yX0_addAlternatives yX0_addAlternatives ∈ WS := ws_t 936 (by decide +kernel) rfl
set_option maxRecDepth 100000 in
theorem co_yX10_branchName : Cond.code yX10_branchName cX10_branchName 3 (some .int) ∈ WS := ws_t 943 rfl rfl
theorem im_yX10_branchName : Cond.instanceMethod yX10_branchName ∈ WS := ws_t 941 (by decide +kernel) rfl
theorem se_yX10_branchName : Cond.selects RX10 yX10_branchName yX10_branchName ∈ WS := ws_t 942 (by decide +kernel) rfl
set_option maxRecDepth 100000 in
theorem co_yX3_readAlternative : Cond.code yX3_readAlternative cX3_readAlternative 9 (some .int) ∈ WS := ws_t 947 rfl rfl
theorem im_yX3_readAlternative : Cond.instanceMethod yX3_readAlternative ∈ WS := ws_t 946 (by decide +kernel) rfl
theorem se_yX3_readAlternative : Cond.selects RX3 yX3_readAlternative yX3_readAlternative ∈ WS := ws_s (q := (yX3_readAlternative, _)) 26 rfl
set_option maxRecDepth 100000 in
theorem co_yX10_findBranch : Cond.code yX10_findBranch cX10_findBranch 4 (some .int) ∈ WS := ws_t 951 rfl rfl
theorem im_yX10_findBranch : Cond.instanceMethod yX10_findBranch ∈ WS := ws_t 949 (by decide +kernel) rfl
theorem se_yX10_findBranch : Cond.selects RX10 yX10_findBranch yX10_findBranch ∈ WS := ws_t 950 (by decide +kernel) rfl
set_option maxRecDepth 100000 in
theorem co_yX10_branchT : Cond.code yX10_branchT cX10_branchT 3 (some .int) ∈ WS := ws_t 957 rfl rfl
theorem im_yX10_branchT : Cond.instanceMethod yX10_branchT ∈ WS := ws_t 955 (by decide +kernel) rfl
theorem se_yX10_branchT : Cond.selects RX10 yX10_branchT yX10_branchT ∈ WS := ws_t 956 (by decide +kernel) rfl
set_option maxRecDepth 100000 in
theorem co_yX5_setTalk : Cond.code yX5_setTalk cX5_setTalk 3 none ∈ WS := ws_t 961 rfl rfl
theorem im_yX5_setTalk : Cond.instanceMethod yX5_setTalk ∈ WS := ws_t 959 (by decide +kernel) rfl
theorem se_yX5_setTalk : Cond.selects RX5 yX5_setTalk yX5_setTalk ∈ WS := ws_t 960 (by decide +kernel) rfl
set_option maxRecDepth 100000 in
theorem co_yX3_readClose : Cond.code yX3_readClose cX3_readClose 2 none ∈ WS := ws_t 965 rfl rfl
theorem im_yX3_readClose : Cond.instanceMethod yX3_readClose ∈ WS := ws_t 964 (by decide +kernel) rfl
theorem se_yX3_readClose : Cond.selects RX3 yX3_readClose yX3_readClose ∈ WS := ws_s (q := (yX3_readClose, _)) 27 rfl
set_option maxRecDepth 100000 in
theorem co_yX3_readGo : Cond.code yX3_readGo cX3_readGo 5 none ∈ WS := ws_t 969 rfl rfl
theorem im_yX3_readGo : Cond.instanceMethod yX3_readGo ∈ WS := ws_t 968 (by decide +kernel) rfl
theorem se_yX3_readGo : Cond.selects RX3 yX3_readGo yX3_readGo ∈ WS := ws_s (q := (yX3_readGo, _)) 28 rfl
set_option maxRecDepth 100000 in
theorem co_yX3_readDefAhead : Cond.code yX3_readDefAhead cX3_readDefAhead 3 (some .int) ∈ WS := ws_t 973 rfl rfl
theorem im_yX3_readDefAhead : Cond.instanceMethod yX3_readDefAhead ∈ WS := ws_t 972 (by decide +kernel) rfl
theorem se_yX3_readDefAhead : Cond.selects RX3 yX3_readDefAhead yX3_readDefAhead ∈ WS := ws_s (q := (yX3_readDefAhead, _)) 29 rfl
set_option maxRecDepth 100000 in
theorem co_yX3_readArgs : Cond.code yX3_readArgs cX3_readArgs 8 none ∈ WS := ws_t 977 rfl rfl
theorem im_yX3_readArgs : Cond.instanceMethod yX3_readArgs ∈ WS := ws_t 976 (by decide +kernel) rfl
theorem se_yX3_readArgs : Cond.selects RX3 yX3_readArgs yX3_readArgs ∈ WS := ws_s (q := (yX3_readArgs, _)) 30 rfl
set_option maxRecDepth 100000 in
theorem co_yX0_paramT : Cond.code yX0_paramT cX0_paramT 4 (some .int) ∈ WS := ws_t 981 rfl rfl
theorem im_yX0_paramT : Cond.instanceMethod yX0_paramT ∈ WS := ws_t 979 (by decide +kernel) rfl
theorem se_yX0_paramT : Cond.selects RX0 yX0_paramT yX0_paramT ∈ WS := ws_t 980 (by decide +kernel) rfl
set_option maxRecDepth 100000 in
theorem co_yX3_readChannelArg : Cond.code yX3_readChannelArg cX3_readChannelArg 5 (some .int) ∈ WS := ws_t 986 rfl rfl
theorem im_yX3_readChannelArg : Cond.instanceMethod yX3_readChannelArg ∈ WS := ws_t 985 (by decide +kernel) rfl
theorem se_yX3_readChannelArg : Cond.selects RX3 yX3_readChannelArg yX3_readChannelArg ∈ WS := ws_s (q := (yX3_readChannelArg, _)) 31 rfl
set_option maxRecDepth 100000 in
theorem co_yX5_drop : Cond.code yX5_drop cX5_drop 2 none ∈ WS := ws_t 990 rfl rfl
theorem im_yX5_drop : Cond.instanceMethod yX5_drop ∈ WS := ws_t 988 (by decide +kernel) rfl
theorem se_yX5_drop : Cond.selects RX5 yX5_drop yX5_drop ∈ WS := ws_t 989 (by decide +kernel) rfl
set_option maxRecDepth 100000 in
theorem co_yX3_readSame : Cond.code yX3_readSame cX3_readSame 5 none ∈ WS := ws_t 994 rfl rfl
theorem im_yX3_readSame : Cond.instanceMethod yX3_readSame ∈ WS := ws_t 993 (by decide +kernel) rfl
theorem se_yX3_readSame : Cond.selects RX3 yX3_readSame yX3_readSame ∈ WS := ws_s (q := (yX3_readSame, _)) 32 rfl
set_option maxRecDepth 100000 in
theorem co_yX3_readJoined : Cond.code yX3_readJoined cX3_readJoined 4 (some .int) ∈ WS := ws_t 998 rfl rfl
theorem im_yX3_readJoined : Cond.instanceMethod yX3_readJoined ∈ WS := ws_t 997 (by decide +kernel) rfl
theorem se_yX3_readJoined : Cond.selects RX3 yX3_readJoined yX3_readJoined ∈ WS := ws_s (q := (yX3_readJoined, _)) 33 rfl
set_option maxRecDepth 100000 in
theorem co_yX3_readNew : Cond.code yX3_readNew cX3_readNew 5 none ∈ WS := ws_t 1002 rfl rfl
theorem im_yX3_readNew : Cond.instanceMethod yX3_readNew ∈ WS := ws_t 1001 (by decide +kernel) rfl
theorem se_yX3_readNew : Cond.selects RX3 yX3_readNew yX3_readNew ∈ WS := ws_s (q := (yX3_readNew, _)) 34 rfl
set_option maxRecDepth 100000 in
theorem co_yX3_readSay : Cond.code yX3_readSay cX3_readSay 3 none ∈ WS := ws_t 1006 rfl rfl
theorem im_yX3_readSay : Cond.instanceMethod yX3_readSay ∈ WS := ws_t 1005 (by decide +kernel) rfl
theorem se_yX3_readSay : Cond.selects RX3 yX3_readSay yX3_readSay ∈ WS := ws_s (q := (yX3_readSay, _)) 35 rfl
set_option maxRecDepth 100000 in
theorem co_yX3_readTalk : Cond.code yX3_readTalk cX3_readTalk 8 none ∈ WS := ws_t 1010 rfl rfl
theorem im_yX3_readTalk : Cond.instanceMethod yX3_readTalk ∈ WS := ws_t 1009 (by decide +kernel) rfl
theorem se_yX3_readTalk : Cond.selects RX3 yX3_readTalk yX3_readTalk ∈ WS := ws_s (q := (yX3_readTalk, _)) 36 rfl
set_option maxRecDepth 100000 in
theorem co_yX3_readSent : Cond.code yX3_readSent cX3_readSent 5 (some .int) ∈ WS := ws_t 1014 rfl rfl
theorem im_yX3_readSent : Cond.instanceMethod yX3_readSent ∈ WS := ws_t 1013 (by decide +kernel) rfl
theorem se_yX3_readSent : Cond.selects RX3 yX3_readSent yX3_readSent ∈ WS := ws_s (q := (yX3_readSent, _)) 37 rfl
set_option maxRecDepth 100000 in
theorem co_yX3_readPicked : Cond.code yX3_readPicked cX3_readPicked 6 (some .int) ∈ WS := ws_t 1018 rfl rfl
theorem im_yX3_readPicked : Cond.instanceMethod yX3_readPicked ∈ WS := ws_t 1017 (by decide +kernel) rfl
theorem se_yX3_readPicked : Cond.selects RX3 yX3_readPicked yX3_readPicked ∈ WS := ws_s (q := (yX3_readPicked, _)) 38 rfl
set_option maxRecDepth 100000 in
theorem co_yX3_judgeLast : Cond.code yX3_judgeLast cX3_judgeLast 1 none ∈ WS := ws_t 1023 rfl rfl
theorem im_yX3_judgeLast : Cond.instanceMethod yX3_judgeLast ∈ WS := ws_t 1021 (by decide +kernel) rfl
theorem se_yX3_judgeLast : Cond.selects RX3 yX3_judgeLast yX3_judgeLast ∈ WS := ws_t 1022 (by decide +kernel) rfl
set_option maxRecDepth 100000 in
theorem co_yX11_takeSpare : Cond.code yX11_takeSpare cX11_takeSpare 2 none ∈ WS := ws_t 1027 rfl rfl
theorem im_yX11_takeSpare : Cond.instanceMethod yX11_takeSpare ∈ WS := ws_t 1026 (by decide +kernel) rfl
theorem se_yX11_takeSpare : Cond.selects RX11 yX11_takeSpare yX11_takeSpare ∈ WS := ws_s (q := (yX11_takeSpare, _)) 39 rfl
set_option maxRecDepth 100000 in
theorem co_yX6_start : Cond.code yX6_start cX6_start 2 none ∈ WS := ws_t 1031 rfl rfl
theorem im_yX6_start : Cond.instanceMethod yX6_start ∈ WS := ws_t 1029 (by decide +kernel) rfl
theorem se_yX6_start : Cond.selects RX6 yX6_start yX6_start ∈ WS := ws_t 1030 (by decide +kernel) rfl
set_option maxRecDepth 100000 in
theorem co_yX1_clear : Cond.code yX1_clear cX1_clear 1 none ∈ WS := ws_t 1035 rfl rfl
theorem im_yX1_clear : Cond.instanceMethod yX1_clear ∈ WS := ws_t 1033 (by decide +kernel) rfl
theorem se_yX1_clear : Cond.selects RX1 yX1_clear yX1_clear ∈ WS := ws_t 1034 (by decide +kernel) rfl
set_option maxRecDepth 100000 in
theorem co_yX6_addProcess : Cond.code yX6_addProcess cX6_addProcess 2 (some .int) ∈ WS := ws_t 1041 rfl rfl
theorem im_yX6_addProcess : Cond.instanceMethod yX6_addProcess ∈ WS := ws_t 1040 (by decide +kernel) rfl
theorem se_yX6_addProcess : Cond.selects RX6 yX6_addProcess yX6_addProcess ∈ WS := ws_s (q := (yX6_addProcess, _)) 40 rfl
set_option maxRecDepth 100000 in
theorem co_yX1_open : Cond.code yX1_open cX1_open 2 (some .int) ∈ WS := ws_t 1046 rfl rfl
theorem im_yX1_open : Cond.instanceMethod yX1_open ∈ WS := ws_t 1044 (by decide +kernel) rfl
theorem se_yX1_open : Cond.selects RX1 yX1_open yX1_open ∈ WS := ws_t 1045 (by decide +kernel) rfl
set_option maxRecDepth 100000 in
theorem co_yX6_setSlot : Cond.code yX6_setSlot cX6_setSlot 4 none ∈ WS := ws_t 1051 rfl rfl
theorem im_yX6_setSlot : Cond.instanceMethod yX6_setSlot ∈ WS := ws_t 1050 (by decide +kernel) rfl
theorem se_yX6_setSlot : Cond.selects RX6 yX6_setSlot yX6_setSlot ∈ WS := ws_s (q := (yX6_setSlot, _)) 41 rfl
set_option maxRecDepth 100000 in
theorem co_yX6_goOn : Cond.code yX6_goOn cX6_goOn 4 none ∈ WS := ws_t 1057 rfl rfl
theorem im_yX6_goOn : Cond.instanceMethod yX6_goOn ∈ WS := ws_t 1056 (by decide +kernel) rfl
theorem se_yX6_goOn : Cond.selects RX6 yX6_goOn yX6_goOn ∈ WS := ws_s (q := (yX6_goOn, _)) 42 rfl
set_option maxRecDepth 100000 in
theorem co_yX0_channelParams : Cond.code yX0_channelParams cX0_channelParams 4 (some .int) ∈ WS := ws_t 1062 rfl rfl
theorem im_yX0_channelParams : Cond.instanceMethod yX0_channelParams ∈ WS := ws_t 1060 (by decide +kernel) rfl
theorem se_yX0_channelParams : Cond.selects RX0 yX0_channelParams yX0_channelParams ∈ WS := ws_t 1061 (by decide +kernel) rfl
set_option maxRecDepth 100000 in
theorem co_yX6_settle : Cond.code yX6_settle cX6_settle 5 none ∈ WS := ws_t 1067 rfl rfl
theorem im_yX6_settle : Cond.instanceMethod yX6_settle ∈ WS := ws_t 1066 (by decide +kernel) rfl
theorem se_yX6_settle : Cond.selects RX6 yX6_settle yX6_settle ∈ WS := ws_s (q := (yX6_settle, _)) 43 rfl
set_option maxRecDepth 100000 in
theorem co_yX6_numberOf : Cond.code yX6_numberOf cX6_numberOf 3 (some .int) ∈ WS := ws_t 1071 rfl rfl
theorem im_yX6_numberOf : Cond.instanceMethod yX6_numberOf ∈ WS := ws_t 1070 (by decide +kernel) rfl
theorem se_yX6_numberOf : Cond.selects RX6 yX6_numberOf yX6_numberOf ∈ WS := ws_s (q := (yX6_numberOf, _)) 44 rfl
set_option maxRecDepth 100000 in
theorem co_yX8_evaluate : Cond.code yX8_evaluate cX8_evaluate 5 (some .int) ∈ WS := ws_t 1075 rfl rfl
theorem im_yX8_evaluate : Cond.instanceMethod yX8_evaluate ∈ WS := ws_t 1073 (by decide +kernel) rfl
theorem se_yX8_evaluate : Cond.selects RX8 yX8_evaluate yX8_evaluate ∈ WS := ws_t 1074 (by decide +kernel) rfl
set_option maxRecDepth 100000 in
theorem co_yX8_valueOf : Cond.code yX8_valueOf cX8_valueOf 7 (some .int) ∈ WS := ws_t 1079 rfl rfl
theorem im_yX8_valueOf : Cond.instanceMethod yX8_valueOf ∈ WS := ws_t 1078 (by decide +kernel) rfl
theorem se_yX8_valueOf : Cond.selects RX8 yX8_valueOf yX8_valueOf ∈ WS := ws_s (q := (yX8_valueOf, _)) 45 rfl
set_option maxRecDepth 100000 in
theorem co_yX6_findReady : Cond.code yX6_findReady cX6_findReady 2 none ∈ WS := ws_t 1084 rfl rfl
theorem im_yX6_findReady : Cond.instanceMethod yX6_findReady ∈ WS := ws_t 1083 (by decide +kernel) rfl
theorem se_yX6_findReady : Cond.selects RX6 yX6_findReady yX6_findReady ∈ WS := ws_s (q := (yX6_findReady, _)) 46 rfl
set_option maxRecDepth 100000 in
theorem co_yX6_made : Cond.code yX6_made cX6_made 1 (some .int) ∈ WS := ws_t 1088 rfl rfl
theorem im_yX6_made : Cond.instanceMethod yX6_made ∈ WS := ws_t 1086 (by decide +kernel) rfl
theorem se_yX6_made : Cond.selects RX6 yX6_made yX6_made ∈ WS := ws_t 1087 (by decide +kernel) rfl
set_option maxRecDepth 100000 in
theorem co_yX6_isWaiting : Cond.code yX6_isWaiting cX6_isWaiting 5 (some .boolean) ∈ WS := ws_t 1092 rfl rfl
theorem im_yX6_isWaiting : Cond.instanceMethod yX6_isWaiting ∈ WS := ws_t 1090 (by decide +kernel) rfl
theorem se_yX6_isWaiting : Cond.selects RX6 yX6_isWaiting yX6_isWaiting ∈ WS := ws_t 1091 (by decide +kernel) rfl
set_option maxRecDepth 100000 in
theorem co_yX6_talkedOver : Cond.code yX6_talkedOver cX6_talkedOver 3 (some .int) ∈ WS := ws_t 1096 rfl rfl
theorem im_yX6_talkedOver : Cond.instanceMethod yX6_talkedOver ∈ WS := ws_t 1095 (by decide +kernel) rfl
theorem se_yX6_talkedOver : Cond.selects RX6 yX6_talkedOver yX6_talkedOver ∈ WS := ws_s (q := (yX6_talkedOver, _)) 47 rfl
set_option maxRecDepth 100000 in
theorem co_yX6_slotOf : Cond.code yX6_slotOf cX6_slotOf 3 (some .int) ∈ WS := ws_t 1100 rfl rfl
theorem im_yX6_slotOf : Cond.instanceMethod yX6_slotOf ∈ WS := ws_t 1099 (by decide +kernel) rfl
theorem se_yX6_slotOf : Cond.selects RX6 yX6_slotOf yX6_slotOf ∈ WS := ws_s (q := (yX6_slotOf, _)) 48 rfl
set_option maxRecDepth 100000 in
theorem co_yX1_follow : Cond.code yX1_follow cX1_follow 4 (some .int) ∈ WS := ws_t 1104 rfl rfl
theorem im_yX1_follow : Cond.instanceMethod yX1_follow ∈ WS := ws_t 1102 (by decide +kernel) rfl
theorem se_yX1_follow : Cond.selects RX1 yX1_follow yX1_follow ∈ WS := ws_t 1103 (by decide +kernel) rfl
set_option maxRecDepth 100000 in
theorem co_yX6_sideTaken : Cond.code yX6_sideTaken cX6_sideTaken 2 (some .int) ∈ WS := ws_t 1109 rfl rfl
theorem im_yX6_sideTaken : Cond.instanceMethod yX6_sideTaken ∈ WS := ws_t 1108 (by decide +kernel) rfl
theorem se_yX6_sideTaken : Cond.selects RX6 yX6_sideTaken yX6_sideTaken ∈ WS := ws_s (q := (yX6_sideTaken, _)) 49 rfl
set_option maxRecDepth 100000 in
theorem co_yX1_count : Cond.code yX1_count cX1_count 3 (some .int) ∈ WS := ws_t 1113 rfl rfl
theorem im_yX1_count : Cond.instanceMethod yX1_count ∈ WS := ws_t 1111 (by decide +kernel) rfl
theorem se_yX1_count : Cond.selects RX1 yX1_count yX1_count ∈ WS := ws_t 1112 (by decide +kernel) rfl
set_option maxRecDepth 100000 in
theorem co_yX11_fault : Cond.code yX11_fault cX11_fault 2 (some .int) ∈ WS := ws_t 1117 rfl rfl
theorem im_yX11_fault : Cond.instanceMethod yX11_fault ∈ WS := ws_t 1115 (by decide +kernel) rfl
theorem se_yX11_fault : Cond.selects RX11 yX11_fault yX11_fault ∈ WS := ws_t 1116 (by decide +kernel) rfl
set_option maxRecDepth 100000 in
theorem co_yX11_look : Cond.code yX11_look cX11_look 2 (some .int) ∈ WS := ws_t 1121 rfl rfl
theorem im_yX11_look : Cond.instanceMethod yX11_look ∈ WS := ws_t 1119 (by decide +kernel) rfl
theorem se_yX11_look : Cond.selects RX11 yX11_look yX11_look ∈ WS := ws_t 1120 (by decide +kernel) rfl
set_option maxRecDepth 100000 in
theorem co_yX6_alive : Cond.code yX6_alive cX6_alive 3 (some .int) ∈ WS := ws_t 1126 rfl rfl
theorem im_yX6_alive : Cond.instanceMethod yX6_alive ∈ WS := ws_t 1124 (by decide +kernel) rfl
theorem se_yX6_alive : Cond.selects RX6 yX6_alive yX6_alive ∈ WS := ws_t 1125 (by decide +kernel) rfl
set_option maxRecDepth 100000 in
theorem co_yX1_made : Cond.code yX1_made cX1_made 1 (some .int) ∈ WS := ws_t 1130 rfl rfl
theorem im_yX1_made : Cond.instanceMethod yX1_made ∈ WS := ws_t 1128 (by decide +kernel) rfl
theorem se_yX1_made : Cond.selects RX1 yX1_made yX1_made ∈ WS := ws_t 1129 (by decide +kernel) rfl
set_option maxRecDepth 100000 in
theorem co_yX11_def : Cond.code yX11_def cX11_def 3 (some .int) ∈ WS := ws_t 1135 rfl rfl
theorem im_yX11_def : Cond.instanceMethod yX11_def ∈ WS := ws_t 1133 (by decide +kernel) rfl
theorem se_yX11_def : Cond.selects RX11 yX11_def yX11_def ∈ WS := ws_t 1134 (by decide +kernel) rfl
set_option maxRecDepth 100000 in
theorem co_yX0_isDef : Cond.code yX0_isDef cX0_isDef 2 (some .boolean) ∈ WS := ws_t 1140 rfl rfl
theorem im_yX0_isDef : Cond.instanceMethod yX0_isDef ∈ WS := ws_t 1138 (by decide +kernel) rfl
theorem se_yX0_isDef : Cond.selects RX0 yX0_isDef yX0_isDef ∈ WS := ws_t 1139 (by decide +kernel) rfl
set_option maxRecDepth 100000 in
theorem co_yX11_print : Cond.code yX11_print cX11_print 4 (some .int) ∈ WS := ws_t 1145 rfl rfl
theorem im_yX11_print : Cond.instanceMethod yX11_print ∈ WS := ws_t 1143 (by decide +kernel) rfl
theorem se_yX11_print : Cond.selects RX11 yX11_print yX11_print ∈ WS := ws_t 1144 (by decide +kernel) rfl
set_option maxRecDepth 100000 in
theorem co_yX11_talkOf : Cond.code yX11_talkOf cX11_talkOf 3 (some .int) ∈ WS := ws_t 1149 rfl rfl
theorem im_yX11_talkOf : Cond.instanceMethod yX11_talkOf ∈ WS := ws_t 1148 (by decide +kernel) rfl
theorem se_yX11_talkOf : Cond.selects RX11 yX11_talkOf yX11_talkOf ∈ WS := ws_s (q := (yX11_talkOf, _)) 50 rfl
set_option maxRecDepth 100000 in
theorem co_yX10_write : Cond.code yX10_write cX10_write 6 none ∈ WS := ws_t 1154 rfl rfl
theorem im_yX10_write : Cond.instanceMethod yX10_write ∈ WS := ws_t 1152 (by decide +kernel) rfl
theorem se_yX10_write : Cond.selects RX10 yX10_write yX10_write ∈ WS := ws_t 1153 (by decide +kernel) rfl
set_option maxRecDepth 100000 in
theorem co_yX10_writeAhead : Cond.code yX10_writeAhead cX10_writeAhead 5 (some .int) ∈ WS := ws_t 1158 rfl rfl
theorem im_yX10_writeAhead : Cond.instanceMethod yX10_writeAhead ∈ WS := ws_t 1157 (by decide +kernel) rfl
theorem se_yX10_writeAhead : Cond.selects RX10 yX10_writeAhead yX10_writeAhead ∈ WS := ws_s (q := (yX10_writeAhead, _)) 51 rfl
set_option maxRecDepth 100000 in
theorem co_yX10_writeBranch : Cond.code yX10_writeBranch cX10_writeBranch 6 (some .int) ∈ WS := ws_t 1162 rfl rfl
theorem im_yX10_writeBranch : Cond.instanceMethod yX10_writeBranch ∈ WS := ws_t 1161 (by decide +kernel) rfl
theorem se_yX10_writeBranch : Cond.selects RX10 yX10_writeBranch yX10_writeBranch ∈ WS := ws_s (q := (yX10_writeBranch, _)) 52 rfl
set_option maxRecDepth 100000 in
theorem co_yX4_addText : Cond.code yX4_addText cX4_addText 3 none ∈ WS := ws_t 1167 rfl rfl
theorem im_yX4_addText : Cond.instanceMethod yX4_addText ∈ WS := ws_t 1165 (by decide +kernel) rfl
theorem se_yX4_addText : Cond.selects RX4 yX4_addText yX4_addText ∈ WS := ws_t 1166 (by decide +kernel) rfl
set_option maxRecDepth 100000 in
theorem co_yX11_lettersIn : Cond.code yX11_lettersIn cX11_lettersIn 3 (some .int) ∈ WS := ws_t 1174 rfl rfl
theorem sm_yX11_lettersIn : Cond.static yX11_lettersIn ∈ WS := ws_t 1173 (by decide +kernel) rfl
set_option maxRecDepth 100000 in
theorem co_yX11_letterOf : Cond.code yX11_letterOf cX11_letterOf 3 (some .int) ∈ WS := ws_t 1177 rfl rfl
theorem sm_yX11_letterOf : Cond.static yX11_letterOf ∈ WS := ws_t 1176 (by decide +kernel) rfl
set_option maxRecDepth 100000 in
theorem co_yX11_same : Cond.code yX11_same cX11_same 6 (some .boolean) ∈ WS := ws_t 1188 rfl rfl
theorem im_yX11_same : Cond.instanceMethod yX11_same ∈ WS := ws_t 1186 (by decide +kernel) rfl
theorem se_yX11_same : Cond.selects RX11 yX11_same yX11_same ∈ WS := ws_t 1187 (by decide +kernel) rfl
set_option maxRecDepth 100000 in
theorem co_yX11_out : Cond.code yX11_out cX11_out 2 (some .int) ∈ WS := ws_t 1192 rfl rfl
theorem im_yX11_out : Cond.instanceMethod yX11_out ∈ WS := ws_t 1190 (by decide +kernel) rfl
theorem se_yX11_out : Cond.selects RX11 yX11_out yX11_out ∈ WS := ws_t 1191 (by decide +kernel) rfl
set_option maxRecDepth 100000 in
theorem co_yX11_begin : Cond.code yX11_begin cX11_begin 1 (some .boolean) ∈ WS := ws_t 1196 rfl rfl
theorem im_yX11_begin : Cond.instanceMethod yX11_begin ∈ WS := ws_t 1194 (by decide +kernel) rfl
theorem se_yX11_begin : Cond.selects RX11 yX11_begin yX11_begin ∈ WS := ws_t 1195 (by decide +kernel) rfl
set_option maxRecDepth 100000 in
theorem co_yX11_ready : Cond.code yX11_ready cX11_ready 1 (some .int) ∈ WS := ws_t 1200 rfl rfl
theorem im_yX11_ready : Cond.instanceMethod yX11_ready ∈ WS := ws_t 1198 (by decide +kernel) rfl
theorem se_yX11_ready : Cond.selects RX11 yX11_ready yX11_ready ∈ WS := ws_t 1199 (by decide +kernel) rfl
set_option maxRecDepth 100000 in
theorem co_yX11_which : Cond.code yX11_which cX11_which 2 (some .int) ∈ WS := ws_t 1204 rfl rfl
theorem im_yX11_which : Cond.instanceMethod yX11_which ∈ WS := ws_t 1202 (by decide +kernel) rfl
theorem se_yX11_which : Cond.selects RX11 yX11_which yX11_which ∈ WS := ws_t 1203 (by decide +kernel) rfl
set_option maxRecDepth 100000 in
theorem co_yX11_step : Cond.code yX11_step cX11_step 2 (some .int) ∈ WS := ws_t 1208 rfl rfl
theorem im_yX11_step : Cond.instanceMethod yX11_step ∈ WS := ws_t 1206 (by decide +kernel) rfl
theorem se_yX11_step : Cond.selects RX11 yX11_step yX11_step ∈ WS := ws_t 1207 (by decide +kernel) rfl
set_option maxRecDepth 100000 in
theorem co_yX6_advance : Cond.code yX6_advance cX6_advance 4 (some .int) ∈ WS := ws_t 1212 rfl rfl
theorem im_yX6_advance : Cond.instanceMethod yX6_advance ∈ WS := ws_t 1210 (by decide +kernel) rfl
theorem se_yX6_advance : Cond.selects RX6 yX6_advance yX6_advance ∈ WS := ws_t 1211 (by decide +kernel) rfl
set_option maxRecDepth 100000 in
theorem co_yX6_doStep : Cond.code yX6_doStep cX6_doStep 4 none ∈ WS := ws_t 1217 rfl rfl
theorem im_yX6_doStep : Cond.instanceMethod yX6_doStep ∈ WS := ws_t 1216 (by decide +kernel) rfl
theorem se_yX6_doStep : Cond.selects RX6 yX6_doStep yX6_doStep ∈ WS := ws_s (q := (yX6_doStep, _)) 53 rfl
set_option maxRecDepth 100000 in
theorem co_yX6_lay : Cond.code yX6_lay cX6_lay 6 none ∈ WS := ws_t 1221 rfl rfl
theorem im_yX6_lay : Cond.instanceMethod yX6_lay ∈ WS := ws_t 1220 (by decide +kernel) rfl
theorem se_yX6_lay : Cond.selects RX6 yX6_lay yX6_lay ∈ WS := ws_s (q := (yX6_lay, _)) 54 rfl
set_option maxRecDepth 100000 in
theorem co_yX1_lay : Cond.code yX1_lay cX1_lay 7 none ∈ WS := ws_t 1225 rfl rfl
theorem im_yX1_lay : Cond.instanceMethod yX1_lay ∈ WS := ws_t 1223 (by decide +kernel) rfl
theorem se_yX1_lay : Cond.selects RX1 yX1_lay yX1_lay ∈ WS := ws_t 1224 (by decide +kernel) rfl
set_option maxRecDepth 100000 in
theorem co_yX6_finish : Cond.code yX6_finish cX6_finish 2 none ∈ WS := ws_t 1231 rfl rfl
theorem im_yX6_finish : Cond.instanceMethod yX6_finish ∈ WS := ws_t 1230 (by decide +kernel) rfl
theorem se_yX6_finish : Cond.selects RX6 yX6_finish yX6_finish ∈ WS := ws_s (q := (yX6_finish, _)) 55 rfl
set_option maxRecDepth 100000 in
theorem co_yX6_gatherArgs : Cond.code yX6_gatherArgs cX6_gatherArgs 7 none ∈ WS := ws_t 1235 rfl rfl
theorem im_yX6_gatherArgs : Cond.instanceMethod yX6_gatherArgs ∈ WS := ws_t 1234 (by decide +kernel) rfl
theorem se_yX6_gatherArgs : Cond.selects RX6 yX6_gatherArgs yX6_gatherArgs ∈ WS := ws_s (q := (yX6_gatherArgs, _)) 56 rfl
set_option maxRecDepth 100000 in
theorem co_yX6_makeProcess : Cond.code yX6_makeProcess cX6_makeProcess 5 none ∈ WS := ws_t 1240 rfl rfl
theorem im_yX6_makeProcess : Cond.instanceMethod yX6_makeProcess ∈ WS := ws_t 1239 (by decide +kernel) rfl
theorem se_yX6_makeProcess : Cond.selects RX6 yX6_makeProcess yX6_makeProcess ∈ WS := ws_s (q := (yX6_makeProcess, _)) 57 rfl
set_option maxRecDepth 100000 in
theorem co_yX1_join : Cond.code yX1_join cX1_join 3 none ∈ WS := ws_t 1244 rfl rfl
theorem im_yX1_join : Cond.instanceMethod yX1_join ∈ WS := ws_t 1242 (by decide +kernel) rfl
theorem se_yX1_join : Cond.selects RX1 yX1_join yX1_join ∈ WS := ws_t 1243 (by decide +kernel) rfl
set_option maxRecDepth 100000 in
theorem co_yX1_append : Cond.code yX1_append cX1_append 3 none ∈ WS := ws_t 1248 rfl rfl
theorem im_yX1_append : Cond.instanceMethod yX1_append ∈ WS := ws_t 1247 (by decide +kernel) rfl
theorem se_yX1_append : Cond.selects RX1 yX1_append yX1_append ∈ WS := ws_s (q := (yX1_append, _)) 58 rfl
set_option maxRecDepth 100000 in
theorem co_yX6_keepSaid : Cond.code yX6_keepSaid cX6_keepSaid 3 none ∈ WS := ws_t 1252 rfl rfl
theorem im_yX6_keepSaid : Cond.instanceMethod yX6_keepSaid ∈ WS := ws_t 1251 (by decide +kernel) rfl
theorem se_yX6_keepSaid : Cond.selects RX6 yX6_keepSaid yX6_keepSaid ∈ WS := ws_s (q := (yX6_keepSaid, _)) 59 rfl
set_option maxRecDepth 100000 in
theorem co_yX6_takeMessage : Cond.code yX6_takeMessage cX6_takeMessage 4 none ∈ WS := ws_t 1256 rfl rfl
theorem im_yX6_takeMessage : Cond.instanceMethod yX6_takeMessage ∈ WS := ws_t 1255 (by decide +kernel) rfl
theorem se_yX6_takeMessage : Cond.selects RX6 yX6_takeMessage yX6_takeMessage ∈ WS := ws_s (q := (yX6_takeMessage, _)) 60 rfl
set_option maxRecDepth 100000 in
theorem co_yX1_takeFirst : Cond.code yX1_takeFirst cX1_takeFirst 5 (some .int) ∈ WS := ws_t 1260 rfl rfl
theorem im_yX1_takeFirst : Cond.instanceMethod yX1_takeFirst ∈ WS := ws_t 1258 (by decide +kernel) rfl
theorem se_yX1_takeFirst : Cond.selects RX1 yX1_takeFirst yX1_takeFirst ∈ WS := ws_t 1259 (by decide +kernel) rfl
set_option maxRecDepth 100000 in
theorem co_yX0_alternative : Cond.code yX0_alternative cX0_alternative 5 (some .int) ∈ WS := ws_t 1264 rfl rfl
theorem im_yX0_alternative : Cond.instanceMethod yX0_alternative ∈ WS := ws_t 1262 (by decide +kernel) rfl
theorem se_yX0_alternative : Cond.selects RX0 yX0_alternative yX0_alternative ∈ WS := ws_t 1263 (by decide +kernel) rfl
set_option maxRecDepth 100000 in
theorem co_yX11_run : Cond.code yX11_run cX11_run 7 (some .int) ∈ WS := ws_t 1268 rfl rfl
theorem im_yX11_run : Cond.instanceMethod yX11_run ∈ WS := ws_t 1266 (by decide +kernel) rfl
theorem se_yX11_run : Cond.selects RX11 yX11_run yX11_run ∈ WS := ws_t 1267 (by decide +kernel) rfl
set_option maxRecDepth 100000 in
theorem co_yX11_process : Cond.code yX11_process cX11_process 3 (some .int) ∈ WS := ws_t 1273 rfl rfl
theorem im_yX11_process : Cond.instanceMethod yX11_process ∈ WS := ws_t 1271 (by decide +kernel) rfl
theorem se_yX11_process : Cond.selects RX11 yX11_process yX11_process ∈ WS := ws_t 1272 (by decide +kernel) rfl
set_option maxRecDepth 100000 in
theorem co_yX6_givenBy : Cond.code yX6_givenBy cX6_givenBy 2 (some .int) ∈ WS := ws_t 1278 rfl rfl
theorem im_yX6_givenBy : Cond.instanceMethod yX6_givenBy ∈ WS := ws_t 1276 (by decide +kernel) rfl
theorem se_yX6_givenBy : Cond.selects RX6 yX6_givenBy yX6_givenBy ∈ WS := ws_t 1277 (by decide +kernel) rfl
set_option maxRecDepth 100000 in
theorem co_yX11_channel : Cond.code yX11_channel cX11_channel 4 (some .int) ∈ WS := ws_t 1282 rfl rfl
theorem im_yX11_channel : Cond.instanceMethod yX11_channel ∈ WS := ws_t 1280 (by decide +kernel) rfl
theorem se_yX11_channel : Cond.selects RX11 yX11_channel yX11_channel ∈ WS := ws_t 1281 (by decide +kernel) rfl
set_option maxRecDepth 100000 in
theorem co_yX11_message : Cond.code yX11_message cX11_message 8 (some .int) ∈ WS := ws_t 1288 rfl rfl
theorem im_yX11_message : Cond.instanceMethod yX11_message ∈ WS := ws_t 1286 (by decide +kernel) rfl
theorem se_yX11_message : Cond.selects RX11 yX11_message yX11_message ∈ WS := ws_t 1287 (by decide +kernel) rfl
set_option maxRecDepth 100000 in
theorem co_yX1_find : Cond.code yX1_find cX1_find 5 (some .int) ∈ WS := ws_t 1292 rfl rfl
theorem im_yX1_find : Cond.instanceMethod yX1_find ∈ WS := ws_t 1290 (by decide +kernel) rfl
theorem se_yX1_find : Cond.selects RX1 yX1_find yX1_find ∈ WS := ws_t 1291 (by decide +kernel) rfl
set_option maxRecDepth 100000 in
theorem co_yX11_said : Cond.code yX11_said cX11_said 3 (some .int) ∈ WS := ws_t 1299 rfl rfl
theorem im_yX11_said : Cond.instanceMethod yX11_said ∈ WS := ws_t 1297 (by decide +kernel) rfl
theorem se_yX11_said : Cond.selects RX11 yX11_said yX11_said ∈ WS := ws_t 1298 (by decide +kernel) rfl
set_option maxRecDepth 100000 in
theorem co_yX12_init : Cond.code yX12_init cX12_init 1 none ∈ WS := ws_t 1304 rfl rfl
theorem im_yX12_init : Cond.instanceMethod yX12_init ∈ WS := ws_t 1303 (by decide +kernel) rfl
set_option maxRecDepth 100000 in
theorem co_yX12_load : Cond.code yX12_load cX12_load 2 (some .int) ∈ WS := ws_t 1555 rfl rfl
theorem im_yX12_load : Cond.instanceMethod yX12_load ∈ WS := ws_t 1553 (by decide +kernel) rfl
theorem se_yX12_load : Cond.selects RX12 yX12_load yX12_load ∈ WS := ws_t 1554 (by decide +kernel) rfl
set_option maxRecDepth 100000 in
theorem co_yX12_look0 : Cond.code yX12_look0 cX12_look0 3 none ∈ WS := ws_t 1559 rfl rfl
theorem im_yX12_look0 : Cond.instanceMethod yX12_look0 ∈ WS := ws_t 1558 (by decide +kernel) rfl
theorem se_yX12_look0 : Cond.selects RX12 yX12_look0 yX12_look0 ∈ WS := ws_s (q := (yX12_look0, _)) 61 rfl
set_option maxRecDepth 100000 in
theorem co_yX12_see : Cond.code yX12_see cX12_see 2 (some .int) ∈ WS := ws_t 1563 rfl rfl
theorem im_yX12_see : Cond.instanceMethod yX12_see ∈ WS := ws_t 1562 (by decide +kernel) rfl
theorem se_yX12_see : Cond.selects RX12 yX12_see yX12_see ∈ WS := ws_s (q := (yX12_see, _)) 62 rfl
set_option maxRecDepth 100000 in
theorem co_yX12_isSmall : Cond.code yX12_isSmall cX12_isSmall 1 (some .boolean) ∈ WS := ws_t 1566 rfl rfl
theorem sm_yX12_isSmall : Cond.static yX12_isSmall ∈ WS := ws_t 1565 (by decide +kernel) rfl
set_option maxRecDepth 100000 in
theorem co_yX12_isIn : Cond.code yX12_isIn cX12_isIn 3 (some .boolean) ∈ WS := ws_t 1569 rfl rfl
theorem sm_yX12_isIn : Cond.static yX12_isIn ∈ WS := ws_t 1568 (by decide +kernel) rfl
set_option maxRecDepth 100000 in
theorem co_yX12_word : Cond.code yX12_word cX12_word 1 (some .int) ∈ WS := ws_t 1573 rfl rfl
theorem im_yX12_word : Cond.instanceMethod yX12_word ∈ WS := ws_t 1572 (by decide +kernel) rfl
theorem se_yX12_word : Cond.selects RX12 yX12_word yX12_word ∈ WS := ws_s (q := (yX12_word, _)) 63 rfl
set_option maxRecDepth 100000 in
theorem co_yX12_isLetter : Cond.code yX12_isLetter cX12_isLetter 1 (some .boolean) ∈ WS := ws_t 1593 rfl rfl
theorem sm_yX12_isLetter : Cond.static yX12_isLetter ∈ WS := ws_t 1592 (by decide +kernel) rfl
set_option maxRecDepth 100000 in
theorem co_yX12_text : Cond.code yX12_text cX12_text 2 (some .boolean) ∈ WS := ws_t 1597 rfl rfl
theorem im_yX12_text : Cond.instanceMethod yX12_text ∈ WS := ws_t 1596 (by decide +kernel) rfl
theorem se_yX12_text : Cond.selects RX12 yX12_text yX12_text ∈ WS := ws_s (q := (yX12_text, _)) 64 rfl
set_option maxRecDepth 100000 in
theorem co_yX12_typeText : Cond.code yX12_typeText cX12_typeText 4 (some .boolean) ∈ WS := ws_t 1601 rfl rfl
theorem im_yX12_typeText : Cond.instanceMethod yX12_typeText ∈ WS := ws_t 1600 (by decide +kernel) rfl
theorem se_yX12_typeText : Cond.selects RX12 yX12_typeText yX12_typeText ∈ WS := ws_s (q := (yX12_typeText, _)) 65 rfl
set_option maxRecDepth 100000 in
theorem co_yX12_bad : Cond.code yX12_bad cX12_bad 3 (some .boolean) ∈ WS := ws_t 1605 rfl rfl
theorem im_yX12_bad : Cond.instanceMethod yX12_bad ∈ WS := ws_t 1604 (by decide +kernel) rfl
theorem se_yX12_bad : Cond.selects RX12 yX12_bad yX12_bad ∈ WS := ws_s (q := (yX12_bad, _)) 66 rfl
set_option maxRecDepth 100000 in
theorem co_yX12_findType : Cond.code yX12_findType cX12_findType 4 (some .int) ∈ WS := ws_t 1609 rfl rfl
theorem im_yX12_findType : Cond.instanceMethod yX12_findType ∈ WS := ws_t 1608 (by decide +kernel) rfl
theorem se_yX12_findType : Cond.selects RX12 yX12_findType yX12_findType ∈ WS := ws_s (q := (yX12_findType, _)) 67 rfl
set_option maxRecDepth 100000 in
theorem co_yX12_need : Cond.code yX12_need cX12_need 2 (some .boolean) ∈ WS := ws_t 1613 rfl rfl
theorem im_yX12_need : Cond.instanceMethod yX12_need ∈ WS := ws_t 1612 (by decide +kernel) rfl
theorem se_yX12_need : Cond.selects RX12 yX12_need yX12_need ∈ WS := ws_s (q := (yX12_need, _)) 68 rfl
set_option maxRecDepth 100000 in
theorem co_yX12_isSign : Cond.code yX12_isSign cX12_isSign 2 (some .boolean) ∈ WS := ws_t 1617 rfl rfl
theorem im_yX12_isSign : Cond.instanceMethod yX12_isSign ∈ WS := ws_t 1616 (by decide +kernel) rfl
theorem se_yX12_isSign : Cond.selects RX12 yX12_isSign yX12_isSign ∈ WS := ws_s (q := (yX12_isSign, _)) 69 rfl
set_option maxRecDepth 100000 in
theorem co_yX12_wholeType : Cond.code yX12_wholeType cX12_wholeType 1 (some .boolean) ∈ WS := ws_t 1621 rfl rfl
theorem im_yX12_wholeType : Cond.instanceMethod yX12_wholeType ∈ WS := ws_t 1620 (by decide +kernel) rfl
theorem se_yX12_wholeType : Cond.selects RX12 yX12_wholeType yX12_wholeType ∈ WS := ws_s (q := (yX12_wholeType, _)) 70 rfl
set_option maxRecDepth 100000 in
theorem co_yX12_readType : Cond.code yX12_readType cX12_readType 3 (some .boolean) ∈ WS := ws_t 1625 rfl rfl
theorem im_yX12_readType : Cond.instanceMethod yX12_readType ∈ WS := ws_t 1624 (by decide +kernel) rfl
theorem se_yX12_readType : Cond.selects RX12 yX12_readType yX12_readType ∈ WS := ws_s (q := (yX12_readType, _)) 71 rfl
set_option maxRecDepth 100000 in
theorem co_yX12_more : Cond.code yX12_more cX12_more 2 (some .boolean) ∈ WS := ws_t 1629 rfl rfl
theorem im_yX12_more : Cond.instanceMethod yX12_more ∈ WS := ws_t 1628 (by decide +kernel) rfl
theorem se_yX12_more : Cond.selects RX12 yX12_more yX12_more ∈ WS := ws_s (q := (yX12_more, _)) 72 rfl
set_option maxRecDepth 100000 in
theorem co_yX12_node : Cond.code yX12_node cX12_node 7 (some .int) ∈ WS := ws_t 1633 rfl rfl
theorem im_yX12_node : Cond.instanceMethod yX12_node ∈ WS := ws_t 1632 (by decide +kernel) rfl
theorem se_yX12_node : Cond.selects RX12 yX12_node yX12_node ∈ WS := ws_s (q := (yX12_node, _)) 73 rfl
set_option maxRecDepth 100000 in
theorem co_yX12_partsOf : Cond.code yX12_partsOf cX12_partsOf 3 (some .int) ∈ WS := ws_t 1637 rfl rfl
theorem im_yX12_partsOf : Cond.instanceMethod yX12_partsOf ∈ WS := ws_t 1636 (by decide +kernel) rfl
theorem se_yX12_partsOf : Cond.selects RX12 yX12_partsOf yX12_partsOf ∈ WS := ws_s (q := (yX12_partsOf, _)) 74 rfl
set_option maxRecDepth 100000 in
theorem co_yX12_choice : Cond.code yX12_choice cX12_choice 9 (some .boolean) ∈ WS := ws_t 1641 rfl rfl
theorem im_yX12_choice : Cond.instanceMethod yX12_choice ∈ WS := ws_t 1640 (by decide +kernel) rfl
theorem se_yX12_choice : Cond.selects RX12 yX12_choice yX12_choice ∈ WS := ws_s (q := (yX12_choice, _)) 75 rfl
set_option maxRecDepth 100000 in
theorem co_yX12_branch : Cond.code yX12_branch cX12_branch 5 (some .int) ∈ WS := ws_t 1645 rfl rfl
theorem im_yX12_branch : Cond.instanceMethod yX12_branch ∈ WS := ws_t 1644 (by decide +kernel) rfl
theorem se_yX12_branch : Cond.selects RX12 yX12_branch yX12_branch ∈ WS := ws_s (q := (yX12_branch, _)) 76 rfl
set_option maxRecDepth 100000 in
theorem co_yX12_aligned : Cond.code yX12_aligned cX12_aligned 4 (some .long) ∈ WS := ws_t 1648 rfl rfl
theorem sm_yX12_aligned : Cond.static yX12_aligned ∈ WS := ws_t 1647 (by decide +kernel) rfl
set_option maxRecDepth 100000 in
theorem co_yX12_defText : Cond.code yX12_defText cX12_defText 5 (some .boolean) ∈ WS := ws_t 1652 rfl rfl
theorem im_yX12_defText : Cond.instanceMethod yX12_defText ∈ WS := ws_t 1651 (by decide +kernel) rfl
theorem se_yX12_defText : Cond.selects RX12 yX12_defText yX12_defText ∈ WS := ws_s (q := (yX12_defText, _)) 77 rfl
set_option maxRecDepth 100000 in
theorem co_yX12_needWord : Cond.code yX12_needWord cX12_needWord 2 (some .boolean) ∈ WS := ws_t 1656 rfl rfl
theorem im_yX12_needWord : Cond.instanceMethod yX12_needWord ∈ WS := ws_t 1655 (by decide +kernel) rfl
theorem se_yX12_needWord : Cond.selects RX12 yX12_needWord yX12_needWord ∈ WS := ws_s (q := (yX12_needWord, _)) 78 rfl
set_option maxRecDepth 100000 in
theorem co_yX12_findDef : Cond.code yX12_findDef cX12_findDef 4 (some .int) ∈ WS := ws_t 1660 rfl rfl
theorem im_yX12_findDef : Cond.instanceMethod yX12_findDef ∈ WS := ws_t 1659 (by decide +kernel) rfl
theorem se_yX12_findDef : Cond.selects RX12 yX12_findDef yX12_findDef ∈ WS := ws_s (q := (yX12_findDef, _)) 79 rfl
set_option maxRecDepth 100000 in
theorem co_yX12_isFree : Cond.code yX12_isFree cX12_isFree 1 (some .boolean) ∈ WS := ws_t 1664 rfl rfl
theorem im_yX12_isFree : Cond.instanceMethod yX12_isFree ∈ WS := ws_t 1663 (by decide +kernel) rfl
theorem se_yX12_isFree : Cond.selects RX12 yX12_isFree yX12_isFree ∈ WS := ws_s (q := (yX12_isFree, _)) 80 rfl
set_option maxRecDepth 100000 in
theorem co_yX12_slot : Cond.code yX12_slot cX12_slot 4 (some .int) ∈ WS := ws_t 1668 rfl rfl
theorem im_yX12_slot : Cond.instanceMethod yX12_slot ∈ WS := ws_t 1667 (by decide +kernel) rfl
theorem se_yX12_slot : Cond.selects RX12 yX12_slot yX12_slot ∈ WS := ws_s (q := (yX12_slot, _)) 81 rfl
set_option maxRecDepth 100000 in
theorem co_yX12_newSlot : Cond.code yX12_newSlot cX12_newSlot 5 (some .int) ∈ WS := ws_t 1672 rfl rfl
theorem im_yX12_newSlot : Cond.instanceMethod yX12_newSlot ∈ WS := ws_t 1671 (by decide +kernel) rfl
theorem se_yX12_newSlot : Cond.selects RX12 yX12_newSlot yX12_newSlot ∈ WS := ws_s (q := (yX12_newSlot, _)) 82 rfl
set_option maxRecDepth 100000 in
theorem co_yX12_readProcess : Cond.code yX12_readProcess cX12_readProcess 5 (some .boolean) ∈ WS := ws_t 1676 rfl rfl
theorem im_yX12_readProcess : Cond.instanceMethod yX12_readProcess ∈ WS := ws_t 1675 (by decide +kernel) rfl
theorem se_yX12_readProcess : Cond.selects RX12 yX12_readProcess yX12_readProcess ∈ WS := ws_s (q := (yX12_readProcess, _)) 83 rfl
set_option maxRecDepth 100000 in
theorem co_yX12_has : Cond.code yX12_has cX12_has 2 (some .boolean) ∈ WS := ws_t 1680 rfl rfl
theorem im_yX12_has : Cond.instanceMethod yX12_has ∈ WS := ws_t 1679 (by decide +kernel) rfl
theorem se_yX12_has : Cond.selects RX12 yX12_has yX12_has ∈ WS := ws_s (q := (yX12_has, _)) 84 rfl
set_option maxRecDepth 100000 in
theorem co_yX12_act : Cond.code yX12_act cX12_act 4 (some .boolean) ∈ WS := ws_t 1684 rfl rfl
theorem im_yX12_act : Cond.instanceMethod yX12_act ∈ WS := ws_t 1683 (by decide +kernel) rfl
theorem se_yX12_act : Cond.selects RX12 yX12_act yX12_act ∈ WS := ws_s (q := (yX12_act, _)) 85 rfl
set_option maxRecDepth 100000 in
theorem co_yX12_opens : Cond.code yX12_opens cX12_opens 1 (some .boolean) ∈ WS := ws_t 1688 rfl rfl
theorem im_yX12_opens : Cond.instanceMethod yX12_opens ∈ WS := ws_t 1687 (by decide +kernel) rfl
theorem se_yX12_opens : Cond.selects RX12 yX12_opens yX12_opens ∈ WS := ws_s (q := (yX12_opens, _)) 86 rfl
set_option maxRecDepth 100000 in
theorem co_yX12_cases : Cond.code yX12_cases cX12_cases 9 (some .boolean) ∈ WS := ws_t 1692 rfl rfl
theorem im_yX12_cases : Cond.instanceMethod yX12_cases ∈ WS := ws_t 1691 (by decide +kernel) rfl
theorem se_yX12_cases : Cond.selects RX12 yX12_cases yX12_cases ∈ WS := ws_s (q := (yX12_cases, _)) 87 rfl
set_option maxRecDepth 100000 in
theorem co_yX12_aChannel : Cond.code yX12_aChannel cX12_aChannel 5 (some .boolean) ∈ WS := ws_t 1696 rfl rfl
theorem im_yX12_aChannel : Cond.instanceMethod yX12_aChannel ∈ WS := ws_t 1695 (by decide +kernel) rfl
theorem se_yX12_aChannel : Cond.selects RX12 yX12_aChannel yX12_aChannel ∈ WS := ws_s (q := (yX12_aChannel, _)) 88 rfl
set_option maxRecDepth 100000 in
theorem co_yX12_save : Cond.code yX12_save cX12_save 3 none ∈ WS := ws_t 1700 rfl rfl
theorem im_yX12_save : Cond.instanceMethod yX12_save ∈ WS := ws_t 1699 (by decide +kernel) rfl
theorem se_yX12_save : Cond.selects RX12 yX12_save yX12_save ∈ WS := ws_s (q := (yX12_save, _)) 89 rfl
set_option maxRecDepth 100000 in
theorem co_yX12_back : Cond.code yX12_back cX12_back 3 none ∈ WS := ws_t 1704 rfl rfl
theorem im_yX12_back : Cond.instanceMethod yX12_back ∈ WS := ws_t 1703 (by decide +kernel) rfl
theorem se_yX12_back : Cond.selects RX12 yX12_back yX12_back ∈ WS := ws_s (q := (yX12_back, _)) 90 rfl
set_option maxRecDepth 100000 in
theorem co_yX12_asks : Cond.code yX12_asks cX12_asks 5 (some .boolean) ∈ WS := ws_t 1708 rfl rfl
theorem im_yX12_asks : Cond.instanceMethod yX12_asks ∈ WS := ws_t 1707 (by decide +kernel) rfl
theorem se_yX12_asks : Cond.selects RX12 yX12_asks yX12_asks ∈ WS := ws_s (q := (yX12_asks, _)) 91 rfl
set_option maxRecDepth 100000 in
theorem co_yX12_expression : Cond.code yX12_expression cX12_expression 3 (some .boolean) ∈ WS := ws_t 1712 rfl rfl
theorem im_yX12_expression : Cond.instanceMethod yX12_expression ∈ WS := ws_t 1711 (by decide +kernel) rfl
theorem se_yX12_expression : Cond.selects RX12 yX12_expression yX12_expression ∈ WS := ws_s (q := (yX12_expression, _)) 92 rfl
set_option maxRecDepth 100000 in
theorem co_yX12_sum : Cond.code yX12_sum cX12_sum 3 (some .boolean) ∈ WS := ws_t 1716 rfl rfl
theorem im_yX12_sum : Cond.instanceMethod yX12_sum ∈ WS := ws_t 1715 (by decide +kernel) rfl
theorem se_yX12_sum : Cond.selects RX12 yX12_sum yX12_sum ∈ WS := ws_s (q := (yX12_sum, _)) 93 rfl
set_option maxRecDepth 100000 in
theorem co_yX12_product : Cond.code yX12_product cX12_product 2 (some .boolean) ∈ WS := ws_t 1720 rfl rfl
theorem im_yX12_product : Cond.instanceMethod yX12_product ∈ WS := ws_t 1719 (by decide +kernel) rfl
theorem se_yX12_product : Cond.selects RX12 yX12_product yX12_product ∈ WS := ws_s (q := (yX12_product, _)) 94 rfl
set_option maxRecDepth 100000 in
theorem co_yX12_unit : Cond.code yX12_unit cX12_unit 2 (some .boolean) ∈ WS := ws_t 1724 rfl rfl
theorem im_yX12_unit : Cond.instanceMethod yX12_unit ∈ WS := ws_t 1723 (by decide +kernel) rfl
theorem se_yX12_unit : Cond.selects RX12 yX12_unit yX12_unit ∈ WS := ws_s (q := (yX12_unit, _)) 95 rfl
set_option maxRecDepth 100000 in
theorem co_yX12_aGiven : Cond.code yX12_aGiven cX12_aGiven 2 (some .boolean) ∈ WS := ws_t 1728 rfl rfl
theorem im_yX12_aGiven : Cond.instanceMethod yX12_aGiven ∈ WS := ws_t 1727 (by decide +kernel) rfl
theorem se_yX12_aGiven : Cond.selects RX12 yX12_aGiven yX12_aGiven ∈ WS := ws_s (q := (yX12_aGiven, _)) 96 rfl
set_option maxRecDepth 100000 in
theorem co_yX12_sends : Cond.code yX12_sends cX12_sends 4 (some .boolean) ∈ WS := ws_t 1732 rfl rfl
theorem im_yX12_sends : Cond.instanceMethod yX12_sends ∈ WS := ws_t 1731 (by decide +kernel) rfl
theorem se_yX12_sends : Cond.selects RX12 yX12_sends yX12_sends ∈ WS := ws_s (q := (yX12_sends, _)) 97 rfl
set_option maxRecDepth 100000 in
theorem co_yX12_alike : Cond.code yX12_alike cX12_alike 3 (some .boolean) ∈ WS := ws_t 1736 rfl rfl
theorem im_yX12_alike : Cond.instanceMethod yX12_alike ∈ WS := ws_t 1735 (by decide +kernel) rfl
theorem se_yX12_alike : Cond.selects RX12 yX12_alike yX12_alike ∈ WS := ws_s (q := (yX12_alike, _)) 98 rfl
set_option maxRecDepth 100000 in
theorem co_yX12_news : Cond.code yX12_news cX12_news 5 (some .boolean) ∈ WS := ws_t 1740 rfl rfl
theorem im_yX12_news : Cond.instanceMethod yX12_news ∈ WS := ws_t 1739 (by decide +kernel) rfl
theorem se_yX12_news : Cond.selects RX12 yX12_news yX12_news ∈ WS := ws_s (q := (yX12_news, _)) 99 rfl
set_option maxRecDepth 100000 in
theorem co_yX12_call : Cond.code yX12_call cX12_call 8 (some .boolean) ∈ WS := ws_t 1744 rfl rfl
theorem im_yX12_call : Cond.instanceMethod yX12_call ∈ WS := ws_t 1743 (by decide +kernel) rfl
theorem se_yX12_call : Cond.selects RX12 yX12_call yX12_call ∈ WS := ws_s (q := (yX12_call, _)) 100 rfl
set_option maxRecDepth 100000 in
theorem co_yX12_goes : Cond.code yX12_goes cX12_goes 2 (some .boolean) ∈ WS := ws_t 1748 rfl rfl
theorem im_yX12_goes : Cond.instanceMethod yX12_goes ∈ WS := ws_t 1747 (by decide +kernel) rfl
theorem se_yX12_goes : Cond.selects RX12 yX12_goes yX12_goes ∈ WS := ws_s (q := (yX12_goes, _)) 101 rfl
set_option maxRecDepth 100000 in
theorem co_yX12_given : Cond.code yX12_given cX12_given 3 (some .int) ∈ WS := ws_t 1752 rfl rfl
theorem im_yX12_given : Cond.instanceMethod yX12_given ∈ WS := ws_t 1751 (by decide +kernel) rfl
theorem se_yX12_given : Cond.selects RX12 yX12_given yX12_given ∈ WS := ws_s (q := (yX12_given, _)) 102 rfl
set_option maxRecDepth 100000 in
theorem co_yX12_readSame : Cond.code yX12_readSame cX12_readSame 4 (some .boolean) ∈ WS := ws_t 1756 rfl rfl
theorem im_yX12_readSame : Cond.instanceMethod yX12_readSame ∈ WS := ws_t 1755 (by decide +kernel) rfl
theorem se_yX12_readSame : Cond.selects RX12 yX12_readSame yX12_readSame ∈ WS := ws_s (q := (yX12_readSame, _)) 103 rfl
set_option maxRecDepth 100000 in
theorem co_yX12_begins : Cond.code yX12_begins cX12_begins 2 none ∈ WS := ws_t 1760 rfl rfl
theorem im_yX12_begins : Cond.instanceMethod yX12_begins ∈ WS := ws_t 1759 (by decide +kernel) rfl
theorem se_yX12_begins : Cond.selects RX12 yX12_begins yX12_begins ∈ WS := ws_s (q := (yX12_begins, _)) 104 rfl
set_option maxRecDepth 100000 in
theorem co_yX12_newChannel : Cond.code yX12_newChannel cX12_newChannel 3 (some .int) ∈ WS := ws_t 1764 rfl rfl
theorem im_yX12_newChannel : Cond.instanceMethod yX12_newChannel ∈ WS := ws_t 1763 (by decide +kernel) rfl
theorem se_yX12_newChannel : Cond.selects RX12 yX12_newChannel yX12_newChannel ∈ WS := ws_s (q := (yX12_newChannel, _)) 105 rfl
set_option maxRecDepth 100000 in
theorem co_yX12_fresh0 : Cond.code yX12_fresh0 cX12_fresh0 2 none ∈ WS := ws_t 1768 rfl rfl
theorem im_yX12_fresh0 : Cond.instanceMethod yX12_fresh0 ∈ WS := ws_t 1767 (by decide +kernel) rfl
theorem se_yX12_fresh0 : Cond.selects RX12 yX12_fresh0 yX12_fresh0 ∈ WS := ws_s (q := (yX12_fresh0, _)) 106 rfl
set_option maxRecDepth 100000 in
theorem co_yX12_enters : Cond.code yX12_enters cX12_enters 3 none ∈ WS := ws_t 1772 rfl rfl
theorem im_yX12_enters : Cond.instanceMethod yX12_enters ∈ WS := ws_t 1771 (by decide +kernel) rfl
theorem se_yX12_enters : Cond.selects RX12 yX12_enters yX12_enters ∈ WS := ws_s (q := (yX12_enters, _)) 107 rfl
set_option maxRecDepth 100000 in
theorem co_yX12_def0 : Cond.code yX12_def0 cX12_def0 2 (some .int) ∈ WS := ws_t 1776 rfl rfl
theorem im_yX12_def0 : Cond.instanceMethod yX12_def0 ∈ WS := ws_t 1775 (by decide +kernel) rfl
theorem se_yX12_def0 : Cond.selects RX12 yX12_def0 yX12_def0 ∈ WS := ws_s (q := (yX12_def0, _)) 108 rfl
set_option maxRecDepth 100000 in
theorem co_yX12_settles : Cond.code yX12_settles cX12_settles 3 none ∈ WS := ws_t 1780 rfl rfl
theorem im_yX12_settles : Cond.instanceMethod yX12_settles ∈ WS := ws_t 1779 (by decide +kernel) rfl
theorem se_yX12_settles : Cond.selects RX12 yX12_settles yX12_settles ∈ WS := ws_s (q := (yX12_settles, _)) 109 rfl
set_option maxRecDepth 100000 in
theorem co_yX12_worth : Cond.code yX12_worth cX12_worth 8 (some .int) ∈ WS := ws_t 1784 rfl rfl
theorem im_yX12_worth : Cond.instanceMethod yX12_worth ∈ WS := ws_t 1783 (by decide +kernel) rfl
theorem se_yX12_worth : Cond.selects RX12 yX12_worth yX12_worth ∈ WS := ws_s (q := (yX12_worth, _)) 110 rfl
set_option maxRecDepth 100000 in
theorem co_yX12_value : Cond.code yX12_value cX12_value 3 (some .int) ∈ WS := ws_t 1788 rfl rfl
theorem im_yX12_value : Cond.instanceMethod yX12_value ∈ WS := ws_t 1787 (by decide +kernel) rfl
theorem se_yX12_value : Cond.selects RX12 yX12_value yX12_value ∈ WS := ws_s (q := (yX12_value, _)) 111 rfl
set_option maxRecDepth 100000 in
theorem co_yX12_both : Cond.code yX12_both cX12_both 3 (some .int) ∈ WS := ws_t 1791 rfl rfl
theorem sm_yX12_both : Cond.static yX12_both ∈ WS := ws_t 1790 (by decide +kernel) rfl
set_option maxRecDepth 100000 in
theorem co_yX12_fault : Cond.code yX12_fault cX12_fault 2 (some .int) ∈ WS := ws_t 1795 rfl rfl
theorem im_yX12_fault : Cond.instanceMethod yX12_fault ∈ WS := ws_t 1793 (by decide +kernel) rfl
theorem se_yX12_fault : Cond.selects RX12 yX12_fault yX12_fault ∈ WS := ws_t 1794 (by decide +kernel) rfl
set_option maxRecDepth 100000 in
theorem co_yX12_feed : Cond.code yX12_feed cX12_feed 8 (some .int) ∈ WS := ws_t 1799 rfl rfl
theorem im_yX12_feed : Cond.instanceMethod yX12_feed ∈ WS := ws_t 1797 (by decide +kernel) rfl
theorem se_yX12_feed : Cond.selects RX12 yX12_feed yX12_feed ∈ WS := ws_t 1798 (by decide +kernel) rfl
set_option maxRecDepth 100000 in
theorem co_yX12_end : Cond.code yX12_end cX12_end 2 (some .boolean) ∈ WS := ws_t 1803 rfl rfl
theorem im_yX12_end : Cond.instanceMethod yX12_end ∈ WS := ws_t 1801 (by decide +kernel) rfl
theorem se_yX12_end : Cond.selects RX12 yX12_end yX12_end ∈ WS := ws_t 1802 (by decide +kernel) rfl
set_option maxRecDepth 100000 in
theorem co_yX12_ready : Cond.code yX12_ready cX12_ready 3 (some .int) ∈ WS := ws_t 1807 rfl rfl
theorem im_yX12_ready : Cond.instanceMethod yX12_ready ∈ WS := ws_t 1805 (by decide +kernel) rfl
theorem se_yX12_ready : Cond.selects RX12 yX12_ready yX12_ready ∈ WS := ws_t 1806 (by decide +kernel) rfl
set_option maxRecDepth 100000 in
theorem co_yX12_waits : Cond.code yX12_waits cX12_waits 3 (some .boolean) ∈ WS := ws_t 1811 rfl rfl
theorem im_yX12_waits : Cond.instanceMethod yX12_waits ∈ WS := ws_t 1810 (by decide +kernel) rfl
theorem se_yX12_waits : Cond.selects RX12 yX12_waits yX12_waits ∈ WS := ws_s (q := (yX12_waits, _)) 112 rfl
set_option maxRecDepth 100000 in
theorem co_yX12_isReading : Cond.code yX12_isReading cX12_isReading 1 (some .boolean) ∈ WS := ws_t 1814 rfl rfl
theorem sm_yX12_isReading : Cond.static yX12_isReading ∈ WS := ws_t 1813 (by decide +kernel) rfl
set_option maxRecDepth 100000 in
theorem co_yX12_reads : Cond.code yX12_reads cX12_reads 3 (some .int) ∈ WS := ws_t 1818 rfl rfl
theorem im_yX12_reads : Cond.instanceMethod yX12_reads ∈ WS := ws_t 1817 (by decide +kernel) rfl
theorem se_yX12_reads : Cond.selects RX12 yX12_reads yX12_reads ∈ WS := ws_s (q := (yX12_reads, _)) 113 rfl
set_option maxRecDepth 100000 in
theorem co_yX12_real : Cond.code yX12_real cX12_real 3 (some .int) ∈ WS := ws_t 1822 rfl rfl
theorem im_yX12_real : Cond.instanceMethod yX12_real ∈ WS := ws_t 1821 (by decide +kernel) rfl
theorem se_yX12_real : Cond.selects RX12 yX12_real yX12_real ∈ WS := ws_s (q := (yX12_real, _)) 114 rfl
set_option maxRecDepth 100000 in
theorem co_yX12_isGiven : Cond.code yX12_isGiven cX12_isGiven 3 (some .boolean) ∈ WS := ws_t 1826 rfl rfl
theorem im_yX12_isGiven : Cond.instanceMethod yX12_isGiven ∈ WS := ws_t 1825 (by decide +kernel) rfl
theorem se_yX12_isGiven : Cond.selects RX12 yX12_isGiven yX12_isGiven ∈ WS := ws_s (q := (yX12_isGiven, _)) 115 rfl
set_option maxRecDepth 100000 in
theorem co_yX12_which : Cond.code yX12_which cX12_which 4 (some .int) ∈ WS := ws_t 1830 rfl rfl
theorem im_yX12_which : Cond.instanceMethod yX12_which ∈ WS := ws_t 1828 (by decide +kernel) rfl
theorem se_yX12_which : Cond.selects RX12 yX12_which yX12_which ∈ WS := ws_t 1829 (by decide +kernel) rfl
set_option maxRecDepth 100000 in
theorem co_yX12_step : Cond.code yX12_step cX12_step 3 (some .int) ∈ WS := ws_t 1835 rfl rfl
theorem im_yX12_step : Cond.instanceMethod yX12_step ∈ WS := ws_t 1833 (by decide +kernel) rfl
theorem se_yX12_step : Cond.selects RX12 yX12_step yX12_step ∈ WS := ws_t 1834 (by decide +kernel) rfl
set_option maxRecDepth 100000 in
theorem co_yX12_goesOn : Cond.code yX12_goesOn cX12_goesOn 7 none ∈ WS := ws_t 1840 rfl rfl
theorem im_yX12_goesOn : Cond.instanceMethod yX12_goesOn ∈ WS := ws_t 1839 (by decide +kernel) rfl
theorem se_yX12_goesOn : Cond.selects RX12 yX12_goesOn yX12_goesOn ∈ WS := ws_s (q := (yX12_goesOn, _)) 116 rfl
set_option maxRecDepth 100000 in
theorem co_yX12_writes : Cond.code yX12_writes cX12_writes 3 (some .int) ∈ WS := ws_t 1844 rfl rfl
theorem im_yX12_writes : Cond.instanceMethod yX12_writes ∈ WS := ws_t 1843 (by decide +kernel) rfl
theorem se_yX12_writes : Cond.selects RX12 yX12_writes yX12_writes ∈ WS := ws_s (q := (yX12_writes, _)) 117 rfl
set_option maxRecDepth 100000 in
theorem co_yX12_lay : Cond.code yX12_lay cX12_lay 7 none ∈ WS := ws_t 1848 rfl rfl
theorem im_yX12_lay : Cond.instanceMethod yX12_lay ∈ WS := ws_t 1847 (by decide +kernel) rfl
theorem se_yX12_lay : Cond.selects RX12 yX12_lay yX12_lay ∈ WS := ws_s (q := (yX12_lay, _)) 118 rfl
set_option maxRecDepth 100000 in
theorem co_yX12_take : Cond.code yX12_take cX12_take 3 (some .int) ∈ WS := ws_t 1852 rfl rfl
theorem im_yX12_take : Cond.instanceMethod yX12_take ∈ WS := ws_t 1851 (by decide +kernel) rfl
theorem se_yX12_take : Cond.selects RX12 yX12_take yX12_take ∈ WS := ws_s (q := (yX12_take, _)) 119 rfl
set_option maxRecDepth 100000 in
theorem co_yX12_makes : Cond.code yX12_makes cX12_makes 5 none ∈ WS := ws_t 1856 rfl rfl
theorem im_yX12_makes : Cond.instanceMethod yX12_makes ∈ WS := ws_t 1855 (by decide +kernel) rfl
theorem se_yX12_makes : Cond.selects RX12 yX12_makes yX12_makes ∈ WS := ws_s (q := (yX12_makes, _)) 120 rfl
set_option maxRecDepth 100000 in
theorem co_yX12_tells : Cond.code yX12_tells cX12_tells 9 (some .int) ∈ WS := ws_t 1860 rfl rfl
theorem im_yX12_tells : Cond.instanceMethod yX12_tells ∈ WS := ws_t 1859 (by decide +kernel) rfl
theorem se_yX12_tells : Cond.selects RX12 yX12_tells yX12_tells ∈ WS := ws_s (q := (yX12_tells, _)) 121 rfl
set_option maxRecDepth 100000 in
theorem co_yX12_joins : Cond.code yX12_joins cX12_joins 5 none ∈ WS := ws_t 1864 rfl rfl
theorem im_yX12_joins : Cond.instanceMethod yX12_joins ∈ WS := ws_t 1863 (by decide +kernel) rfl
theorem se_yX12_joins : Cond.selects RX12 yX12_joins yX12_joins ∈ WS := ws_s (q := (yX12_joins, _)) 122 rfl
set_option maxRecDepth 100000 in
theorem co_yX12_append : Cond.code yX12_append cX12_append 6 none ∈ WS := ws_t 1868 rfl rfl
theorem im_yX12_append : Cond.instanceMethod yX12_append ∈ WS := ws_t 1867 (by decide +kernel) rfl
theorem se_yX12_append : Cond.selects RX12 yX12_append yX12_append ∈ WS := ws_s (q := (yX12_append, _)) 123 rfl
set_option maxRecDepth 100000 in
theorem co_yX12_says : Cond.code yX12_says cX12_says 3 none ∈ WS := ws_t 1872 rfl rfl
theorem im_yX12_says : Cond.instanceMethod yX12_says ∈ WS := ws_t 1871 (by decide +kernel) rfl
theorem se_yX12_says : Cond.selects RX12 yX12_says yX12_says ∈ WS := ws_s (q := (yX12_says, _)) 124 rfl
set_option maxRecDepth 100000 in
theorem co_yX12_run : Cond.code yX12_run cX12_run 5 (some .int) ∈ WS := ws_t 1876 rfl rfl
theorem im_yX12_run : Cond.instanceMethod yX12_run ∈ WS := ws_t 1874 (by decide +kernel) rfl
theorem se_yX12_run : Cond.selects RX12 yX12_run yX12_run ∈ WS := ws_t 1875 (by decide +kernel) rfl
set_option maxRecDepth 100000 in
theorem co_yX12_begin : Cond.code yX12_begin cX12_begin 1 (some .boolean) ∈ WS := ws_t 1882 rfl rfl
theorem im_yX12_begin : Cond.instanceMethod yX12_begin ∈ WS := ws_t 1880 (by decide +kernel) rfl
theorem se_yX12_begin : Cond.selects RX12 yX12_begin yX12_begin ∈ WS := ws_t 1881 (by decide +kernel) rfl
set_option maxRecDepth 100000 in
theorem co_yX12_look : Cond.code yX12_look cX12_look 4 (some .int) ∈ WS := ws_t 1886 rfl rfl
theorem im_yX12_look : Cond.instanceMethod yX12_look ∈ WS := ws_t 1884 (by decide +kernel) rfl
theorem se_yX12_look : Cond.selects RX12 yX12_look yX12_look ∈ WS := ws_t 1885 (by decide +kernel) rfl
set_option maxRecDepth 100000 in
theorem co_yX12_def : Cond.code yX12_def cX12_def 6 (some .int) ∈ WS := ws_t 1890 rfl rfl
theorem im_yX12_def : Cond.instanceMethod yX12_def ∈ WS := ws_t 1888 (by decide +kernel) rfl
theorem se_yX12_def : Cond.selects RX12 yX12_def yX12_def ∈ WS := ws_t 1889 (by decide +kernel) rfl
set_option maxRecDepth 100000 in
theorem co_yX12_isDef : Cond.code yX12_isDef cX12_isDef 2 (some .boolean) ∈ WS := ws_t 1894 rfl rfl
theorem im_yX12_isDef : Cond.instanceMethod yX12_isDef ∈ WS := ws_t 1893 (by decide +kernel) rfl
theorem se_yX12_isDef : Cond.selects RX12 yX12_isDef yX12_isDef ∈ WS := ws_s (q := (yX12_isDef, _)) 125 rfl
set_option maxRecDepth 100000 in
theorem co_yX12_least : Cond.code yX12_least cX12_least 8 (some .int) ∈ WS := ws_t 1898 rfl rfl
theorem im_yX12_least : Cond.instanceMethod yX12_least ∈ WS := ws_t 1897 (by decide +kernel) rfl
theorem se_yX12_least : Cond.selects RX12 yX12_least yX12_least ∈ WS := ws_s (q := (yX12_least, _)) 126 rfl
set_option maxRecDepth 100000 in
theorem co_yX12_same : Cond.code yX12_same cX12_same 5 (some .boolean) ∈ WS := ws_t 1902 rfl rfl
theorem im_yX12_same : Cond.instanceMethod yX12_same ∈ WS := ws_t 1900 (by decide +kernel) rfl
theorem se_yX12_same : Cond.selects RX12 yX12_same yX12_same ∈ WS := ws_t 1901 (by decide +kernel) rfl
set_option maxRecDepth 100000 in
theorem co_yX12_typeOf : Cond.code yX12_typeOf cX12_typeOf 4 (some .int) ∈ WS := ws_t 1906 rfl rfl
theorem im_yX12_typeOf : Cond.instanceMethod yX12_typeOf ∈ WS := ws_t 1905 (by decide +kernel) rfl
theorem se_yX12_typeOf : Cond.selects RX12 yX12_typeOf yX12_typeOf ∈ WS := ws_s (q := (yX12_typeOf, _)) 127 rfl
set_option maxRecDepth 100000 in
theorem co_yX12_print : Cond.code yX12_print cX12_print 4 (some .int) ∈ WS := ws_t 1910 rfl rfl
theorem im_yX12_print : Cond.instanceMethod yX12_print ∈ WS := ws_t 1908 (by decide +kernel) rfl
theorem se_yX12_print : Cond.selects RX12 yX12_print yX12_print ∈ WS := ws_t 1909 (by decide +kernel) rfl
set_option maxRecDepth 100000 in
theorem co_yX12_sayType : Cond.code yX12_sayType cX12_sayType 4 none ∈ WS := ws_t 1914 rfl rfl
theorem im_yX12_sayType : Cond.instanceMethod yX12_sayType ∈ WS := ws_t 1913 (by decide +kernel) rfl
theorem se_yX12_sayType : Cond.selects RX12 yX12_sayType yX12_sayType ∈ WS := ws_s (q := (yX12_sayType, _)) 128 rfl
set_option maxRecDepth 100000 in
theorem co_yX12_sayName : Cond.code yX12_sayName cX12_sayName 4 none ∈ WS := ws_t 1918 rfl rfl
theorem im_yX12_sayName : Cond.instanceMethod yX12_sayName ∈ WS := ws_t 1917 (by decide +kernel) rfl
theorem se_yX12_sayName : Cond.selects RX12 yX12_sayName yX12_sayName ∈ WS := ws_s (q := (yX12_sayName, _)) 129 rfl
set_option maxRecDepth 100000 in
theorem co_yX12_say : Cond.code yX12_say cX12_say 2 none ∈ WS := ws_t 1923 rfl rfl
theorem im_yX12_say : Cond.instanceMethod yX12_say ∈ WS := ws_t 1922 (by decide +kernel) rfl
theorem se_yX12_say : Cond.selects RX12 yX12_say yX12_say ∈ WS := ws_s (q := (yX12_say, _)) 130 rfl
set_option maxRecDepth 100000 in
theorem co_yX12_out : Cond.code yX12_out cX12_out 2 (some .int) ∈ WS := ws_t 1927 rfl rfl
theorem im_yX12_out : Cond.instanceMethod yX12_out ∈ WS := ws_t 1925 (by decide +kernel) rfl
theorem se_yX12_out : Cond.selects RX12 yX12_out yX12_out ∈ WS := ws_t 1926 (by decide +kernel) rfl
set_option maxRecDepth 100000 in
theorem co_yX12_process : Cond.code yX12_process cX12_process 3 (some .int) ∈ WS := ws_t 1931 rfl rfl
theorem im_yX12_process : Cond.instanceMethod yX12_process ∈ WS := ws_t 1929 (by decide +kernel) rfl
theorem se_yX12_process : Cond.selects RX12 yX12_process yX12_process ∈ WS := ws_t 1930 (by decide +kernel) rfl
set_option maxRecDepth 100000 in
theorem co_yX12_channel : Cond.code yX12_channel cX12_channel 3 (some .int) ∈ WS := ws_t 1935 rfl rfl
theorem im_yX12_channel : Cond.instanceMethod yX12_channel ∈ WS := ws_t 1933 (by decide +kernel) rfl
theorem se_yX12_channel : Cond.selects RX12 yX12_channel yX12_channel ∈ WS := ws_t 1934 (by decide +kernel) rfl
set_option maxRecDepth 100000 in
theorem co_yX12_long0 : Cond.code yX12_long0 cX12_long0 4 (some .int) ∈ WS := ws_t 1939 rfl rfl
theorem im_yX12_long0 : Cond.instanceMethod yX12_long0 ∈ WS := ws_t 1938 (by decide +kernel) rfl
theorem se_yX12_long0 : Cond.selects RX12 yX12_long0 yX12_long0 ∈ WS := ws_s (q := (yX12_long0, _)) 131 rfl
set_option maxRecDepth 100000 in
theorem co_yX12_message : Cond.code yX12_message cX12_message 8 (some .int) ∈ WS := ws_t 1943 rfl rfl
theorem im_yX12_message : Cond.instanceMethod yX12_message ∈ WS := ws_t 1941 (by decide +kernel) rfl
theorem se_yX12_message : Cond.selects RX12 yX12_message yX12_message ∈ WS := ws_t 1942 (by decide +kernel) rfl
set_option maxRecDepth 100000 in
theorem co_yX12_said : Cond.code yX12_said cX12_said 3 (some .int) ∈ WS := ws_t 1947 rfl rfl
theorem im_yX12_said : Cond.instanceMethod yX12_said ∈ WS := ws_t 1945 (by decide +kernel) rfl
theorem se_yX12_said : Cond.selects RX12 yX12_said yX12_said ∈ WS := ws_t 1946 (by decide +kernel) rfl
theorem nl_RL_7 : Cond.classLink RL 7 (a_rc 11) ∈ WS ∧ Cond.instantiable (a_rc 11) (a_nf 11) ∈ WS ∧ Cond.initialized (a_rc 11) ∈ WS := ⟨ws_t 20 (by decide +kernel) rfl, ws_t 21 (by decide +kernel) rfl, in_RX11⟩
theorem ml_RL_9 : a_mi RL 9 yX11_init cX11_init 1 0 := ⟨⟨Or.inl (ws_t 22 (by decide +kernel) rfl), in_RX11, co_yX11_init, ⟨by decide +kernel, by decide +kernel, by decide +kernel⟩, by decide⟩, rfl, im_yX11_init⟩
theorem ol_RX11_3 : Cond.methodLink RX11 3 objectInit ∈ WS := ws_t 25 (by decide +kernel) rfl
theorem nl_RX11_9 : Cond.classLink RX11 9 (a_rc 4) ∈ WS ∧ Cond.instantiable (a_rc 4) (a_nf 4) ∈ WS ∧ Cond.initialized (a_rc 4) ∈ WS := ⟨ws_t 28 (by decide +kernel) rfl, ws_t 29 (by decide +kernel) rfl, in_RX4⟩
theorem ml_RX11_11 : a_mi RX11 11 yX4_init cX4_init 2 1 := ⟨⟨Or.inl (ws_t 30 (by decide +kernel) rfl), in_RX4, co_yX4_init, ⟨by decide +kernel, by decide +kernel, by decide +kernel⟩, by decide⟩, rfl, im_yX4_init⟩
theorem ol_RX4_3 : Cond.methodLink RX4 3 objectInit ∈ WS := ws_t 33 (by decide +kernel) rfl
theorem ml_RX4_9 : a_ms RX4 9 yJ9_max_7cf53 cJ9_max_7cf53 2 (some .int) 2 := ⟨⟨Or.inl (ws_t 34 (by decide +kernel) rfl), in_RJ9, co_yJ9_max_7cf53, ⟨by decide +kernel, by decide +kernel, by decide +kernel⟩, by decide⟩, sm_yJ9_max_7cf53⟩
theorem fl_RX4_15 : a_fl RX4 15 4 0 := ⟨by decide, by decide, rfl, Or.inl (ws_t 37 (by decide +kernel) rfl)⟩
theorem fl_RX4_21 : a_fl RX4 21 4 1 := ⟨by decide, by decide, rfl, Or.inl (ws_t 38 (by decide +kernel) rfl)⟩
theorem ac_int : Cond.arrayClass .int ∈ WS := ws_t 44 (by decide +kernel) rfl
theorem nl_RX11_21 : Cond.classLink RX11 21 (a_rc 2) ∈ WS ∧ Cond.instantiable (a_rc 2) (a_nf 2) ∈ WS ∧ Cond.initialized (a_rc 2) ∈ WS := ⟨ws_t 45 (by decide +kernel) rfl, ws_t 46 (by decide +kernel) rfl, in_RX2⟩
theorem ml_RX11_23 : a_mi RX11 23 yX2_init cX2_init 4 0 := ⟨⟨Or.inl (ws_t 47 (by decide +kernel) rfl), in_RX2, co_yX2_init, ⟨by decide +kernel, by decide +kernel, by decide +kernel⟩, by decide⟩, rfl, im_yX2_init⟩
theorem ol_RX2_3 : Cond.methodLink RX2 3 objectInit ∈ WS := ws_t 50 (by decide +kernel) rfl
theorem nl_RX2_9 : Cond.classLink RX2 9 (a_rc 4) ∈ WS ∧ Cond.instantiable (a_rc 4) (a_nf 4) ∈ WS ∧ Cond.initialized (a_rc 4) ∈ WS := ⟨ws_t 51 (by decide +kernel) rfl, ws_t 29 (by decide +kernel) rfl, in_RX4⟩
theorem ml_RX2_11 : a_mi RX2 11 yX4_init cX4_init 2 1 := ⟨⟨Or.inl (ws_t 52 (by decide +kernel) rfl), in_RX4, co_yX4_init, ⟨by decide +kernel, by decide +kernel, by decide +kernel⟩, by decide⟩, rfl, im_yX4_init⟩
theorem ml_RX2_39 : a_mv RX2 39 yJ0_length_8abf5 cJ0_length_8abf5 1 (some .int) 0 := ⟨⟨Or.inl (ws_t 54 (by decide +kernel) rfl), in_RJ0, co_yJ0_length_8abf5, ⟨by decide +kernel, by decide +kernel, by decide +kernel⟩, by decide⟩, im_yJ0_length_8abf5, se_yJ0_length_8abf5⟩
theorem ml_RJ0_335 : a_mv RJ0 335 yJ0_coder_7d493 cJ0_coder_7d493 1 (some .byte) 0 := ⟨⟨Or.inl (ws_t 58 (by decide +kernel) rfl), in_RJ0, co_yJ0_coder_7d493, ⟨by decide +kernel, by decide +kernel, by decide +kernel⟩, by decide⟩, im_yJ0_coder_7d493, se_yJ0_coder_7d493⟩
theorem ml_RX2_45 : a_mv RX2 45 yJ0_charAt_5068e cJ0_charAt_5068e 2 (some .char) 1 := ⟨⟨Or.inl (ws_t 64 (by decide +kernel) rfl), in_RJ0, co_yJ0_charAt_5068e, ⟨by decide +kernel, by decide +kernel, by decide +kernel⟩, by decide⟩, im_yJ0_charAt_5068e, se_yJ0_charAt_5068e⟩
theorem ml_RJ0_492 : a_mv RJ0 492 yJ0_isLatin1_aae02 cJ0_isLatin1_aae02 1 (some .boolean) 0 := ⟨⟨Or.inl (ws_t 68 (by decide +kernel) rfl), in_RJ0, co_yJ0_isLatin1_aae02, ⟨by decide +kernel, by decide +kernel, by decide +kernel⟩, by decide⟩, im_yJ0_isLatin1_aae02, se_yJ0_isLatin1_aae02⟩
theorem ml_RJ0_495 : a_ms RJ0 495 yJ1_charAt_3b067 cJ1_charAt_3b067 2 (some .char) 2 := ⟨⟨Or.inl (ws_t 72 (by decide +kernel) rfl), in_RJ1, co_yJ1_charAt_3b067, ⟨by decide +kernel, by decide +kernel, by decide +kernel⟩, by decide⟩, sm_yJ1_charAt_3b067⟩
theorem ml_RJ1_9 : a_ms RJ1 9 yJ0_checkIndex_df160 cJ0_checkIndex_df160 2 none 2 := ⟨⟨Or.inl (ws_t 75 (by decide +kernel) rfl), in_RJ0, co_yJ0_checkIndex_df160, ⟨by decide +kernel, by decide +kernel, by decide +kernel⟩, by decide⟩, sm_yJ0_checkIndex_df160⟩
theorem ml_RJ0_1059 : a_ms RJ0 1059 yJ3_checkIndex_8e157 cJ3_checkIndex_8e157 3 (some .int) 3 := ⟨⟨Or.inl (ws_t 80 (by decide +kernel) rfl), in_RJ3, co_yJ3_checkIndex_8e157, ⟨by decide +kernel, by decide +kernel, by decide +kernel⟩, by decide⟩, sm_yJ3_checkIndex_8e157⟩
theorem ml_RJ0_498 : a_ms RJ0 498 yJ2_charAt_3b067 cJ2_charAt_3b067 2 (some .char) 2 := ⟨⟨Or.inl (ws_t 83 (by decide +kernel) rfl), in_RJ2, co_yJ2_charAt_3b067, ⟨by decide +kernel, by decide +kernel, by decide +kernel⟩, by decide⟩, sm_yJ2_charAt_3b067⟩
theorem ml_RJ2_67 : a_ms RJ2 67 yJ2_checkIndex_2214a cJ2_checkIndex_2214a 2 none 2 := ⟨⟨Or.inl (ws_t 86 (by decide +kernel) rfl), in_RJ2, co_yJ2_checkIndex_2214a, ⟨by decide +kernel, by decide +kernel, by decide +kernel⟩, by decide⟩, sm_yJ2_checkIndex_2214a⟩
theorem ml_RJ2_48 : a_ms RJ2 48 yJ2_length_9d52b cJ2_length_9d52b 1 (some .int) 1 := ⟨⟨Or.inl (ws_t 89 (by decide +kernel) rfl), in_RJ2, co_yJ2_length_9d52b, ⟨by decide +kernel, by decide +kernel, by decide +kernel⟩, by decide⟩, sm_yJ2_length_9d52b⟩
theorem ml_RJ2_414 : a_ms RJ2 414 yJ0_checkIndex_df160 cJ0_checkIndex_df160 2 none 2 := ⟨⟨Or.inl (ws_t 92 (by decide +kernel) rfl), in_RJ0, co_yJ0_checkIndex_df160, ⟨by decide +kernel, by decide +kernel, by decide +kernel⟩, by decide⟩, sm_yJ0_checkIndex_df160⟩
theorem ml_RJ2_71 : a_ms RJ2 71 yJ2_getChar_3b067 cJ2_getChar_3b067 2 (some .char) 2 := ⟨⟨Or.inl (ws_t 93 (by decide +kernel) rfl), in_RJ2, co_yJ2_getChar_3b067, ⟨by decide +kernel, by decide +kernel, by decide +kernel⟩, by decide⟩, sm_yJ2_getChar_3b067⟩
theorem ml_RX2_49 : a_mv RX2 49 yX4_add cX4_add 2 (some .int) 1 := ⟨⟨Or.inl (ws_t 102 (by decide +kernel) rfl), in_RX4, co_yX4_add, ⟨by decide +kernel, by decide +kernel, by decide +kernel⟩, by decide⟩, im_yX4_add, se_yX4_add⟩
theorem ml_RX2_53 : a_ms RX2 53 yX11_withLetter cX11_withLetter 3 (some .int) 3 := ⟨⟨Or.inr ⟨"TalkHouse", nw_t 106 (by decide +kernel) rfl⟩, in_RX11, co_yX11_withLetter, ⟨by decide +kernel, by decide +kernel, by decide +kernel⟩, by decide⟩, sm_yX11_withLetter⟩
theorem ml_RX11_234 : a_ms RX11 234 yX11_shiftOf cX11_shiftOf 1 (some .int) 1 := ⟨⟨Or.inl (ws_t 109 (by decide +kernel) rfl), in_RX11, co_yX11_shiftOf, ⟨by decide +kernel, by decide +kernel, by decide +kernel⟩, by decide⟩, sm_yX11_shiftOf⟩
theorem fl_RX2_14 : a_fl RX2 14 2 0 := ⟨by decide, by decide, rfl, Or.inl (ws_t 112 (by decide +kernel) rfl)⟩
theorem fl_RX2_20 : a_fl RX2 20 2 1 := ⟨by decide, by decide, rfl, Or.inl (ws_t 113 (by decide +kernel) rfl)⟩
theorem fl_RX2_24 : a_fl RX2 24 2 2 := ⟨by decide, by decide, rfl, Or.inl (ws_t 114 (by decide +kernel) rfl)⟩
theorem fl_RX2_27 : a_fl RX2 27 2 3 := ⟨by decide, by decide, rfl, Or.inl (ws_t 115 (by decide +kernel) rfl)⟩
theorem fl_RX2_57 : a_fl RX2 57 2 4 := ⟨by decide, by decide, rfl, Or.inl (ws_t 116 (by decide +kernel) rfl)⟩
theorem fl_RX2_74 : a_fl RX2 74 2 5 := ⟨by decide, by decide, rfl, Or.inl (ws_t 117 (by decide +kernel) rfl)⟩
theorem fl_RX2_30 : a_fl RX2 30 2 6 := ⟨by decide, by decide, rfl, Or.inl (ws_t 118 (by decide +kernel) rfl)⟩
theorem fl_RX7_31 : a_fl RX7 31 2 6 := ⟨by decide, by decide, rfl, Or.inr ⟨"TalkHouse", nw_t 119 (by decide +kernel) rfl⟩⟩
theorem fl_RX9_42 : a_fl RX9 42 2 6 := ⟨by decide, by decide, rfl, Or.inr ⟨"TalkHouse", nw_t 120 (by decide +kernel) rfl⟩⟩
theorem fl_RX3_168 : a_fl RX3 168 2 6 := ⟨by decide, by decide, rfl, Or.inr ⟨"TalkHouse", nw_t 121 (by decide +kernel) rfl⟩⟩
theorem fl_RX7_54 : a_fl RX7 54 2 7 := ⟨by decide, by decide, rfl, Or.inr ⟨"TalkHouse", nw_t 122 (by decide +kernel) rfl⟩⟩
theorem fl_RX2_107 : a_fl RX2 107 2 7 := ⟨by decide, by decide, rfl, Or.inl (ws_t 123 (by decide +kernel) rfl)⟩
theorem fl_RX3_95 : a_fl RX3 95 2 8 := ⟨by decide, by decide, rfl, Or.inr ⟨"TalkHouse", nw_t 124 (by decide +kernel) rfl⟩⟩
theorem fl_RX9_55 : a_fl RX9 55 2 8 := ⟨by decide, by decide, rfl, Or.inr ⟨"TalkHouse", nw_t 125 (by decide +kernel) rfl⟩⟩
theorem fl_RX7_65 : a_fl RX7 65 2 8 := ⟨by decide, by decide, rfl, Or.inr ⟨"TalkHouse", nw_t 126 (by decide +kernel) rfl⟩⟩
theorem fl_RX2_110 : a_fl RX2 110 2 8 := ⟨by decide, by decide, rfl, Or.inl (ws_t 127 (by decide +kernel) rfl)⟩
theorem fl_RX2_71 : a_fl RX2 71 2 9 := ⟨by decide, by decide, rfl, Or.inl (ws_t 128 (by decide +kernel) rfl)⟩
theorem fl_RX11_105 : a_fl RX11 105 2 9 := ⟨by decide, by decide, rfl, Or.inr ⟨"TalkHouse", nw_t 129 (by decide +kernel) rfl⟩⟩
theorem fl_RX2_34 : a_fl RX2 34 2 10 := ⟨by decide, by decide, rfl, Or.inl (ws_t 130 (by decide +kernel) rfl)⟩
theorem fl_RX11_109 : a_fl RX11 109 2 10 := ⟨by decide, by decide, rfl, Or.inr ⟨"TalkHouse", nw_t 131 (by decide +kernel) rfl⟩⟩
theorem ac_byte : Cond.arrayClass .byte ∈ WS := ws_t 155 (by decide +kernel) rfl
theorem nl_RX11_28 : Cond.classLink RX11 28 (a_rc 0) ∈ WS ∧ Cond.instantiable (a_rc 0) (a_nf 0) ∈ WS ∧ Cond.initialized (a_rc 0) ∈ WS := ⟨ws_t 156 (by decide +kernel) rfl, ws_t 157 (by decide +kernel) rfl, in_RX0⟩
theorem ml_RX11_30 : a_mi RX11 30 yX0_init cX0_init 1 0 := ⟨⟨Or.inr ⟨"TalkHouse", nw_t 158 (by decide +kernel) rfl⟩, in_RX0, co_yX0_init, ⟨by decide +kernel, by decide +kernel, by decide +kernel⟩, by decide⟩, rfl, im_yX0_init⟩
theorem ol_RX0_3 : Cond.methodLink RX0 3 objectInit ∈ WS := ws_t 161 (by decide +kernel) rfl
theorem nl_RX0_9 : Cond.classLink RX0 9 (a_rc 10) ∈ WS ∧ Cond.instantiable (a_rc 10) (a_nf 10) ∈ WS ∧ Cond.initialized (a_rc 10) ∈ WS := ⟨ws_t 162 (by decide +kernel) rfl, ws_t 163 (by decide +kernel) rfl, in_RX10⟩
theorem ml_RX0_11 : a_mi RX0 11 yX10_init cX10_init 1 0 := ⟨⟨Or.inr ⟨"TalkHouse", nw_t 164 (by decide +kernel) rfl⟩, in_RX10, co_yX10_init, ⟨by decide +kernel, by decide +kernel, by decide +kernel⟩, by decide⟩, rfl, im_yX10_init⟩
theorem ol_RX10_3 : Cond.methodLink RX10 3 objectInit ∈ WS := ws_t 167 (by decide +kernel) rfl
theorem nl_RX10_9 : Cond.classLink RX10 9 (a_rc 4) ∈ WS ∧ Cond.instantiable (a_rc 4) (a_nf 4) ∈ WS ∧ Cond.initialized (a_rc 4) ∈ WS := ⟨ws_t 168 (by decide +kernel) rfl, ws_t 29 (by decide +kernel) rfl, in_RX4⟩
theorem ml_RX10_11 : a_mi RX10 11 yX4_init cX4_init 2 1 := ⟨⟨Or.inl (ws_t 169 (by decide +kernel) rfl), in_RX4, co_yX4_init, ⟨by decide +kernel, by decide +kernel, by decide +kernel⟩, by decide⟩, rfl, im_yX4_init⟩
theorem fl_RX10_14 : a_fl RX10 14 10 0 := ⟨by decide, by decide, rfl, Or.inl (ws_t 170 (by decide +kernel) rfl)⟩
theorem fl_RX3_272 : a_fl RX3 272 10 0 := ⟨by decide, by decide, rfl, Or.inr ⟨"TalkHouse", nw_t 171 (by decide +kernel) rfl⟩⟩
theorem fl_RX10_20 : a_fl RX10 20 10 1 := ⟨by decide, by decide, rfl, Or.inl (ws_t 172 (by decide +kernel) rfl)⟩
theorem fl_RX3_285 : a_fl RX3 285 10 1 := ⟨by decide, by decide, rfl, Or.inr ⟨"TalkHouse", nw_t 173 (by decide +kernel) rfl⟩⟩
theorem fl_RX10_23 : a_fl RX10 23 10 2 := ⟨by decide, by decide, rfl, Or.inl (ws_t 174 (by decide +kernel) rfl)⟩
theorem fl_RX3_279 : a_fl RX3 279 10 2 := ⟨by decide, by decide, rfl, Or.inr ⟨"TalkHouse", nw_t 175 (by decide +kernel) rfl⟩⟩
theorem fl_RX10_26 : a_fl RX10 26 10 3 := ⟨by decide, by decide, rfl, Or.inl (ws_t 176 (by decide +kernel) rfl)⟩
theorem fl_RX9_109 : a_fl RX9 109 10 3 := ⟨by decide, by decide, rfl, Or.inr ⟨"TalkHouse", nw_t 177 (by decide +kernel) rfl⟩⟩
theorem fl_RX10_29 : a_fl RX10 29 10 4 := ⟨by decide, by decide, rfl, Or.inl (ws_t 178 (by decide +kernel) rfl)⟩
theorem fl_RX10_32 : a_fl RX10 32 10 5 := ⟨by decide, by decide, rfl, Or.inl (ws_t 179 (by decide +kernel) rfl)⟩
theorem fl_RX10_35 : a_fl RX10 35 10 6 := ⟨by decide, by decide, rfl, Or.inl (ws_t 180 (by decide +kernel) rfl)⟩
theorem fl_RX10_38 : a_fl RX10 38 10 7 := ⟨by decide, by decide, rfl, Or.inl (ws_t 181 (by decide +kernel) rfl)⟩
theorem nl_RX0_18 : Cond.classLink RX0 18 (a_rc 8) ∈ WS ∧ Cond.instantiable (a_rc 8) (a_nf 8) ∈ WS ∧ Cond.initialized (a_rc 8) ∈ WS := ⟨ws_t 199 (by decide +kernel) rfl, ws_t 200 (by decide +kernel) rfl, in_RX8⟩
theorem ml_RX0_20 : a_mi RX0 20 yX8_init cX8_init 1 0 := ⟨⟨Or.inr ⟨"TalkHouse", nw_t 201 (by decide +kernel) rfl⟩, in_RX8, co_yX8_init, ⟨by decide +kernel, by decide +kernel, by decide +kernel⟩, by decide⟩, rfl, im_yX8_init⟩
theorem ol_RX8_3 : Cond.methodLink RX8 3 objectInit ∈ WS := ws_t 204 (by decide +kernel) rfl
theorem nl_RX8_9 : Cond.classLink RX8 9 (a_rc 4) ∈ WS ∧ Cond.instantiable (a_rc 4) (a_nf 4) ∈ WS ∧ Cond.initialized (a_rc 4) ∈ WS := ⟨ws_t 205 (by decide +kernel) rfl, ws_t 29 (by decide +kernel) rfl, in_RX4⟩
theorem ml_RX8_11 : a_mi RX8 11 yX4_init cX4_init 2 1 := ⟨⟨Or.inl (ws_t 206 (by decide +kernel) rfl), in_RX4, co_yX4_init, ⟨by decide +kernel, by decide +kernel, by decide +kernel⟩, by decide⟩, rfl, im_yX4_init⟩
theorem fl_RX8_14 : a_fl RX8 14 8 0 := ⟨by decide, by decide, rfl, Or.inl (ws_t 207 (by decide +kernel) rfl)⟩
theorem fl_RX8_20 : a_fl RX8 20 8 1 := ⟨by decide, by decide, rfl, Or.inl (ws_t 208 (by decide +kernel) rfl)⟩
theorem fl_RX8_23 : a_fl RX8 23 8 2 := ⟨by decide, by decide, rfl, Or.inl (ws_t 209 (by decide +kernel) rfl)⟩
theorem fl_RX8_26 : a_fl RX8 26 8 3 := ⟨by decide, by decide, rfl, Or.inl (ws_t 210 (by decide +kernel) rfl)⟩
theorem fl_RX8_29 : a_fl RX8 29 8 4 := ⟨by decide, by decide, rfl, Or.inl (ws_t 211 (by decide +kernel) rfl)⟩
theorem nl_RX0_25 : Cond.classLink RX0 25 (a_rc 4) ∈ WS ∧ Cond.instantiable (a_rc 4) (a_nf 4) ∈ WS ∧ Cond.initialized (a_rc 4) ∈ WS := ⟨ws_t 223 (by decide +kernel) rfl, ws_t 29 (by decide +kernel) rfl, in_RX4⟩
theorem ml_RX0_27 : a_mi RX0 27 yX4_init cX4_init 2 1 := ⟨⟨Or.inl (ws_t 224 (by decide +kernel) rfl), in_RX4, co_yX4_init, ⟨by decide +kernel, by decide +kernel, by decide +kernel⟩, by decide⟩, rfl, im_yX4_init⟩
theorem fl_RX0_12 : a_fl RX0 12 0 0 := ⟨by decide, by decide, rfl, Or.inl (ws_t 225 (by decide +kernel) rfl)⟩
theorem fl_RX9_72 : a_fl RX9 72 0 0 := ⟨by decide, by decide, rfl, Or.inr ⟨"TalkHouse", nw_t 226 (by decide +kernel) rfl⟩⟩
theorem fl_RX11_160 : a_fl RX11 160 0 0 := ⟨by decide, by decide, rfl, Or.inr ⟨"TalkHouse", nw_t 227 (by decide +kernel) rfl⟩⟩
theorem fl_RX3_239 : a_fl RX3 239 0 0 := ⟨by decide, by decide, rfl, Or.inr ⟨"TalkHouse", nw_t 228 (by decide +kernel) rfl⟩⟩
theorem fl_RX0_21 : a_fl RX0 21 0 1 := ⟨by decide, by decide, rfl, Or.inl (ws_t 229 (by decide +kernel) rfl)⟩
theorem fl_RX3_41 : a_fl RX3 41 0 1 := ⟨by decide, by decide, rfl, Or.inr ⟨"TalkHouse", nw_t 230 (by decide +kernel) rfl⟩⟩
theorem fl_RX6_146 : a_fl RX6 146 0 1 := ⟨by decide, by decide, rfl, Or.inr ⟨"TalkHouse", nw_t 231 (by decide +kernel) rfl⟩⟩
theorem fl_RX0_30 : a_fl RX0 30 0 2 := ⟨by decide, by decide, rfl, Or.inl (ws_t 232 (by decide +kernel) rfl)⟩
theorem fl_RX3_70 : a_fl RX3 70 0 2 := ⟨by decide, by decide, rfl, Or.inr ⟨"TalkHouse", nw_t 233 (by decide +kernel) rfl⟩⟩
theorem fl_RX9_94 : a_fl RX9 94 0 2 := ⟨by decide, by decide, rfl, Or.inr ⟨"TalkHouse", nw_t 234 (by decide +kernel) rfl⟩⟩
theorem fl_RX11_112 : a_fl RX11 112 0 2 := ⟨by decide, by decide, rfl, Or.inr ⟨"TalkHouse", nw_t 235 (by decide +kernel) rfl⟩⟩
theorem fl_RX0_34 : a_fl RX0 34 0 3 := ⟨by decide, by decide, rfl, Or.inl (ws_t 236 (by decide +kernel) rfl)⟩
theorem fl_RX3_92 : a_fl RX3 92 0 3 := ⟨by decide, by decide, rfl, Or.inr ⟨"TalkHouse", nw_t 237 (by decide +kernel) rfl⟩⟩
theorem fl_RX9_103 : a_fl RX9 103 0 3 := ⟨by decide, by decide, rfl, Or.inr ⟨"TalkHouse", nw_t 238 (by decide +kernel) rfl⟩⟩
theorem fl_RX0_37 : a_fl RX0 37 0 4 := ⟨by decide, by decide, rfl, Or.inl (ws_t 239 (by decide +kernel) rfl)⟩
theorem fl_RX6_83 : a_fl RX6 83 0 4 := ⟨by decide, by decide, rfl, Or.inr ⟨"TalkHouse", nw_t 240 (by decide +kernel) rfl⟩⟩
theorem fl_RX11_96 : a_fl RX11 96 0 4 := ⟨by decide, by decide, rfl, Or.inr ⟨"TalkHouse", nw_t 241 (by decide +kernel) rfl⟩⟩
theorem fl_RX3_111 : a_fl RX3 111 0 4 := ⟨by decide, by decide, rfl, Or.inr ⟨"TalkHouse", nw_t 242 (by decide +kernel) rfl⟩⟩
theorem fl_RX0_40 : a_fl RX0 40 0 5 := ⟨by decide, by decide, rfl, Or.inl (ws_t 243 (by decide +kernel) rfl)⟩
theorem fl_RX3_130 : a_fl RX3 130 0 5 := ⟨by decide, by decide, rfl, Or.inr ⟨"TalkHouse", nw_t 244 (by decide +kernel) rfl⟩⟩
theorem fl_RX11_170 : a_fl RX11 170 0 5 := ⟨by decide, by decide, rfl, Or.inr ⟨"TalkHouse", nw_t 245 (by decide +kernel) rfl⟩⟩
theorem fl_RX0_43 : a_fl RX0 43 0 6 := ⟨by decide, by decide, rfl, Or.inl (ws_t 246 (by decide +kernel) rfl)⟩
theorem fl_RX3_133 : a_fl RX3 133 0 6 := ⟨by decide, by decide, rfl, Or.inr ⟨"TalkHouse", nw_t 247 (by decide +kernel) rfl⟩⟩
theorem fl_RX6_128 : a_fl RX6 128 0 6 := ⟨by decide, by decide, rfl, Or.inr ⟨"TalkHouse", nw_t 248 (by decide +kernel) rfl⟩⟩
theorem fl_RX0_46 : a_fl RX0 46 0 7 := ⟨by decide, by decide, rfl, Or.inl (ws_t 249 (by decide +kernel) rfl)⟩
theorem fl_RX3_145 : a_fl RX3 145 0 7 := ⟨by decide, by decide, rfl, Or.inr ⟨"TalkHouse", nw_t 250 (by decide +kernel) rfl⟩⟩
theorem fl_RX11_150 : a_fl RX11 150 0 7 := ⟨by decide, by decide, rfl, Or.inr ⟨"TalkHouse", nw_t 251 (by decide +kernel) rfl⟩⟩
theorem fl_RX0_49 : a_fl RX0 49 0 8 := ⟨by decide, by decide, rfl, Or.inl (ws_t 252 (by decide +kernel) rfl)⟩
theorem fl_RX3_139 : a_fl RX3 139 0 8 := ⟨by decide, by decide, rfl, Or.inr ⟨"TalkHouse", nw_t 253 (by decide +kernel) rfl⟩⟩
theorem fl_RX11_153 : a_fl RX11 153 0 8 := ⟨by decide, by decide, rfl, Or.inr ⟨"TalkHouse", nw_t 254 (by decide +kernel) rfl⟩⟩
theorem fl_RX0_52 : a_fl RX0 52 0 9 := ⟨by decide, by decide, rfl, Or.inl (ws_t 255 (by decide +kernel) rfl)⟩
theorem fl_RX3_160 : a_fl RX3 160 0 9 := ⟨by decide, by decide, rfl, Or.inr ⟨"TalkHouse", nw_t 256 (by decide +kernel) rfl⟩⟩
theorem fl_RX11_137 : a_fl RX11 137 0 9 := ⟨by decide, by decide, rfl, Or.inr ⟨"TalkHouse", nw_t 257 (by decide +kernel) rfl⟩⟩
theorem fl_RX6_206 : a_fl RX6 206 0 9 := ⟨by decide, by decide, rfl, Or.inr ⟨"TalkHouse", nw_t 258 (by decide +kernel) rfl⟩⟩
theorem fl_RX0_55 : a_fl RX0 55 0 10 := ⟨by decide, by decide, rfl, Or.inl (ws_t 259 (by decide +kernel) rfl)⟩
theorem fl_RX3_148 : a_fl RX3 148 0 10 := ⟨by decide, by decide, rfl, Or.inr ⟨"TalkHouse", nw_t 260 (by decide +kernel) rfl⟩⟩
theorem fl_RX0_58 : a_fl RX0 58 0 11 := ⟨by decide, by decide, rfl, Or.inl (ws_t 261 (by decide +kernel) rfl)⟩
theorem fl_RX3_136 : a_fl RX3 136 0 11 := ⟨by decide, by decide, rfl, Or.inr ⟨"TalkHouse", nw_t 262 (by decide +kernel) rfl⟩⟩
theorem fl_RX6_134 : a_fl RX6 134 0 11 := ⟨by decide, by decide, rfl, Or.inr ⟨"TalkHouse", nw_t 263 (by decide +kernel) rfl⟩⟩
theorem fl_RX0_61 : a_fl RX0 61 0 12 := ⟨by decide, by decide, rfl, Or.inl (ws_t 264 (by decide +kernel) rfl)⟩
theorem fl_RX6_165 : a_fl RX6 165 0 12 := ⟨by decide, by decide, rfl, Or.inr ⟨"TalkHouse", nw_t 265 (by decide +kernel) rfl⟩⟩
theorem fl_RX3_248 : a_fl RX3 248 0 12 := ⟨by decide, by decide, rfl, Or.inr ⟨"TalkHouse", nw_t 266 (by decide +kernel) rfl⟩⟩
theorem fl_RX0_64 : a_fl RX0 64 0 13 := ⟨by decide, by decide, rfl, Or.inl (ws_t 267 (by decide +kernel) rfl)⟩
theorem fl_RX6_143 : a_fl RX6 143 0 13 := ⟨by decide, by decide, rfl, Or.inr ⟨"TalkHouse", nw_t 268 (by decide +kernel) rfl⟩⟩
theorem fl_RX3_219 : a_fl RX3 219 0 13 := ⟨by decide, by decide, rfl, Or.inr ⟨"TalkHouse", nw_t 269 (by decide +kernel) rfl⟩⟩
theorem fl_RX0_67 : a_fl RX0 67 0 14 := ⟨by decide, by decide, rfl, Or.inl (ws_t 270 (by decide +kernel) rfl)⟩
theorem fl_RX6_137 : a_fl RX6 137 0 14 := ⟨by decide, by decide, rfl, Or.inr ⟨"TalkHouse", nw_t 271 (by decide +kernel) rfl⟩⟩
theorem fl_RX3_210 : a_fl RX3 210 0 14 := ⟨by decide, by decide, rfl, Or.inr ⟨"TalkHouse", nw_t 272 (by decide +kernel) rfl⟩⟩
theorem fl_RX0_70 : a_fl RX0 70 0 15 := ⟨by decide, by decide, rfl, Or.inl (ws_t 273 (by decide +kernel) rfl)⟩
theorem fl_RX0_73 : a_fl RX0 73 0 16 := ⟨by decide, by decide, rfl, Or.inl (ws_t 274 (by decide +kernel) rfl)⟩
theorem fl_RX3_263 : a_fl RX3 263 0 16 := ⟨by decide, by decide, rfl, Or.inr ⟨"TalkHouse", nw_t 275 (by decide +kernel) rfl⟩⟩
theorem fl_RX0_76 : a_fl RX0 76 0 17 := ⟨by decide, by decide, rfl, Or.inl (ws_t 276 (by decide +kernel) rfl)⟩
theorem fl_RX6_209 : a_fl RX6 209 0 17 := ⟨by decide, by decide, rfl, Or.inr ⟨"TalkHouse", nw_t 277 (by decide +kernel) rfl⟩⟩
theorem fl_RX3_304 : a_fl RX3 304 0 17 := ⟨by decide, by decide, rfl, Or.inr ⟨"TalkHouse", nw_t 278 (by decide +kernel) rfl⟩⟩
theorem nl_RX11_38 : Cond.classLink RX11 38 (a_rc 3) ∈ WS ∧ Cond.instantiable (a_rc 3) (a_nf 3) ∈ WS ∧ Cond.initialized (a_rc 3) ∈ WS := ⟨ws_t 316 (by decide +kernel) rfl, ws_t 317 (by decide +kernel) rfl, in_RX3⟩
theorem ml_RX11_40 : a_mi RX11 40 yX3_init cX3_init 3 2 := ⟨⟨Or.inl (ws_t 318 (by decide +kernel) rfl), in_RX3, co_yX3_init, ⟨by decide +kernel, by decide +kernel, by decide +kernel⟩, by decide⟩, rfl, im_yX3_init⟩
theorem ol_RX3_3 : Cond.methodLink RX3 3 objectInit ∈ WS := ws_t 321 (by decide +kernel) rfl
theorem nl_RX3_9 : Cond.classLink RX3 9 (a_rc 5) ∈ WS ∧ Cond.instantiable (a_rc 5) (a_nf 5) ∈ WS ∧ Cond.initialized (a_rc 5) ∈ WS := ⟨ws_t 322 (by decide +kernel) rfl, ws_t 323 (by decide +kernel) rfl, in_RX5⟩
theorem ml_RX3_11 : a_mi RX3 11 yX5_init cX5_init 1 0 := ⟨⟨Or.inl (ws_t 324 (by decide +kernel) rfl), in_RX5, co_yX5_init, ⟨by decide +kernel, by decide +kernel, by decide +kernel⟩, by decide⟩, rfl, im_yX5_init⟩
theorem ol_RX5_3 : Cond.methodLink RX5 3 objectInit ∈ WS := ws_t 327 (by decide +kernel) rfl
theorem nl_RX5_9 : Cond.classLink RX5 9 (a_rc 4) ∈ WS ∧ Cond.instantiable (a_rc 4) (a_nf 4) ∈ WS ∧ Cond.initialized (a_rc 4) ∈ WS := ⟨ws_t 328 (by decide +kernel) rfl, ws_t 29 (by decide +kernel) rfl, in_RX4⟩
theorem ml_RX5_11 : a_mi RX5 11 yX4_init cX4_init 2 1 := ⟨⟨Or.inl (ws_t 329 (by decide +kernel) rfl), in_RX4, co_yX4_init, ⟨by decide +kernel, by decide +kernel, by decide +kernel⟩, by decide⟩, rfl, im_yX4_init⟩
theorem ml_RX5_26 : a_mv RX5 26 yX4_fill cX4_fill 3 none 1 := ⟨⟨Or.inl (ws_t 330 (by decide +kernel) rfl), in_RX4, co_yX4_fill, ⟨by decide +kernel, by decide +kernel, by decide +kernel⟩, by decide⟩, im_yX4_fill, se_yX4_fill⟩
theorem fl_RX5_14 : a_fl RX5 14 5 0 := ⟨by decide, by decide, rfl, Or.inl (ws_t 334 (by decide +kernel) rfl)⟩
theorem fl_RX5_20 : a_fl RX5 20 5 1 := ⟨by decide, by decide, rfl, Or.inl (ws_t 335 (by decide +kernel) rfl)⟩
theorem fl_RX5_23 : a_fl RX5 23 5 2 := ⟨by decide, by decide, rfl, Or.inl (ws_t 336 (by decide +kernel) rfl)⟩
theorem fl_RX5_29 : a_fl RX5 29 5 3 := ⟨by decide, by decide, rfl, Or.inl (ws_t 337 (by decide +kernel) rfl)⟩
theorem nl_RX3_30 : Cond.classLink RX3 30 (a_rc 9) ∈ WS ∧ Cond.instantiable (a_rc 9) (a_nf 9) ∈ WS ∧ Cond.initialized (a_rc 9) ∈ WS := ⟨ws_t 347 (by decide +kernel) rfl, ws_t 348 (by decide +kernel) rfl, in_RX9⟩
theorem ml_RX3_32 : a_mi RX3 32 yX9_init cX9_init 3 2 := ⟨⟨Or.inl (ws_t 349 (by decide +kernel) rfl), in_RX9, co_yX9_init, ⟨by decide +kernel, by decide +kernel, by decide +kernel⟩, by decide⟩, rfl, im_yX9_init⟩
theorem ol_RX9_3 : Cond.methodLink RX9 3 objectInit ∈ WS := ws_t 352 (by decide +kernel) rfl
theorem nl_RX9_9 : Cond.classLink RX9 9 (a_rc 4) ∈ WS ∧ Cond.instantiable (a_rc 4) (a_nf 4) ∈ WS ∧ Cond.initialized (a_rc 4) ∈ WS := ⟨ws_t 353 (by decide +kernel) rfl, ws_t 29 (by decide +kernel) rfl, in_RX4⟩
theorem ml_RX9_11 : a_mi RX9 11 yX4_init cX4_init 2 1 := ⟨⟨Or.inl (ws_t 354 (by decide +kernel) rfl), in_RX4, co_yX4_init, ⟨by decide +kernel, by decide +kernel, by decide +kernel⟩, by decide⟩, rfl, im_yX4_init⟩
theorem fl_RX9_23 : a_fl RX9 23 9 0 := ⟨by decide, by decide, rfl, Or.inl (ws_t 355 (by decide +kernel) rfl)⟩
theorem fl_RX9_14 : a_fl RX9 14 9 1 := ⟨by decide, by decide, rfl, Or.inl (ws_t 356 (by decide +kernel) rfl)⟩
theorem fl_RX9_20 : a_fl RX9 20 9 2 := ⟨by decide, by decide, rfl, Or.inl (ws_t 357 (by decide +kernel) rfl)⟩
theorem fl_RX9_27 : a_fl RX9 27 9 3 := ⟨by decide, by decide, rfl, Or.inl (ws_t 358 (by decide +kernel) rfl)⟩
theorem fl_RX9_34 : a_fl RX9 34 9 4 := ⟨by decide, by decide, rfl, Or.inl (ws_t 359 (by decide +kernel) rfl)⟩
theorem nl_RX3_39 : Cond.classLink RX3 39 (a_rc 7) ∈ WS ∧ Cond.instantiable (a_rc 7) (a_nf 7) ∈ WS ∧ Cond.initialized (a_rc 7) ∈ WS := ⟨ws_t 371 (by decide +kernel) rfl, ws_t 372 (by decide +kernel) rfl, in_RX7⟩
theorem ml_RX3_47 : a_mi RX3 47 yX7_init cX7_init 4 3 := ⟨⟨Or.inl (ws_t 373 (by decide +kernel) rfl), in_RX7, co_yX7_init, ⟨by decide +kernel, by decide +kernel, by decide +kernel⟩, by decide⟩, rfl, im_yX7_init⟩
theorem ol_RX7_3 : Cond.methodLink RX7 3 objectInit ∈ WS := ws_t 376 (by decide +kernel) rfl
theorem fl_RX7_9 : a_fl RX7 9 7 0 := ⟨by decide, by decide, rfl, Or.inl (ws_t 377 (by decide +kernel) rfl)⟩
theorem fl_RX7_15 : a_fl RX7 15 7 1 := ⟨by decide, by decide, rfl, Or.inl (ws_t 378 (by decide +kernel) rfl)⟩
theorem fl_RX7_19 : a_fl RX7 19 7 2 := ⟨by decide, by decide, rfl, Or.inl (ws_t 379 (by decide +kernel) rfl)⟩
theorem fl_RX3_22 : a_fl RX3 22 3 0 := ⟨by decide, by decide, rfl, Or.inl (ws_t 387 (by decide +kernel) rfl)⟩
theorem fl_RX3_12 : a_fl RX3 12 3 1 := ⟨by decide, by decide, rfl, Or.inl (ws_t 388 (by decide +kernel) rfl)⟩
theorem fl_RX3_35 : a_fl RX3 35 3 2 := ⟨by decide, by decide, rfl, Or.inl (ws_t 389 (by decide +kernel) rfl)⟩
theorem fl_RX3_50 : a_fl RX3 50 3 3 := ⟨by decide, by decide, rfl, Or.inl (ws_t 390 (by decide +kernel) rfl)⟩
theorem fl_RX3_26 : a_fl RX3 26 3 4 := ⟨by decide, by decide, rfl, Or.inl (ws_t 391 (by decide +kernel) rfl)⟩
theorem fl_RX3_127 : a_fl RX3 127 3 5 := ⟨by decide, by decide, rfl, Or.inl (ws_t 392 (by decide +kernel) rfl)⟩
theorem fl_RX3_18 : a_fl RX3 18 3 6 := ⟨by decide, by decide, rfl, Or.inl (ws_t 393 (by decide +kernel) rfl)⟩
theorem nl_RX11_47 : Cond.classLink RX11 47 (a_rc 6) ∈ WS ∧ Cond.instantiable (a_rc 6) (a_nf 6) ∈ WS ∧ Cond.initialized (a_rc 6) ∈ WS := ⟨ws_t 409 (by decide +kernel) rfl, ws_t 410 (by decide +kernel) rfl, in_RX6⟩
theorem ml_RX11_49 : a_mi RX11 49 yX6_init cX6_init 2 1 := ⟨⟨Or.inl (ws_t 411 (by decide +kernel) rfl), in_RX6, co_yX6_init, ⟨by decide +kernel, by decide +kernel, by decide +kernel⟩, by decide⟩, rfl, im_yX6_init⟩
theorem ol_RX6_3 : Cond.methodLink RX6 3 objectInit ∈ WS := ws_t 414 (by decide +kernel) rfl
theorem nl_RX6_9 : Cond.classLink RX6 9 (a_rc 1) ∈ WS ∧ Cond.instantiable (a_rc 1) (a_nf 1) ∈ WS ∧ Cond.initialized (a_rc 1) ∈ WS := ⟨ws_t 415 (by decide +kernel) rfl, ws_t 416 (by decide +kernel) rfl, in_RX1⟩
theorem ml_RX6_11 : a_mi RX6 11 yX1_init cX1_init 1 0 := ⟨⟨Or.inr ⟨"TalkHouse", nw_t 417 (by decide +kernel) rfl⟩, in_RX1, co_yX1_init, ⟨by decide +kernel, by decide +kernel, by decide +kernel⟩, by decide⟩, rfl, im_yX1_init⟩
theorem ol_RX1_3 : Cond.methodLink RX1 3 objectInit ∈ WS := ws_t 420 (by decide +kernel) rfl
theorem nl_RX1_9 : Cond.classLink RX1 9 (a_rc 4) ∈ WS ∧ Cond.instantiable (a_rc 4) (a_nf 4) ∈ WS ∧ Cond.initialized (a_rc 4) ∈ WS := ⟨ws_t 421 (by decide +kernel) rfl, ws_t 29 (by decide +kernel) rfl, in_RX4⟩
theorem ml_RX1_11 : a_mi RX1 11 yX4_init cX4_init 2 1 := ⟨⟨Or.inl (ws_t 422 (by decide +kernel) rfl), in_RX4, co_yX4_init, ⟨by decide +kernel, by decide +kernel, by decide +kernel⟩, by decide⟩, rfl, im_yX4_init⟩
theorem fl_RX1_14 : a_fl RX1 14 1 0 := ⟨by decide, by decide, rfl, Or.inl (ws_t 423 (by decide +kernel) rfl)⟩
theorem fl_RX1_20 : a_fl RX1 20 1 1 := ⟨by decide, by decide, rfl, Or.inl (ws_t 424 (by decide +kernel) rfl)⟩
theorem fl_RX1_23 : a_fl RX1 23 1 2 := ⟨by decide, by decide, rfl, Or.inl (ws_t 425 (by decide +kernel) rfl)⟩
theorem fl_RX1_26 : a_fl RX1 26 1 3 := ⟨by decide, by decide, rfl, Or.inl (ws_t 426 (by decide +kernel) rfl)⟩
theorem fl_RX1_29 : a_fl RX1 29 1 4 := ⟨by decide, by decide, rfl, Or.inl (ws_t 427 (by decide +kernel) rfl)⟩
theorem fl_RX11_213 : a_fl RX11 213 1 4 := ⟨by decide, by decide, rfl, Or.inr ⟨"TalkHouse", nw_t 428 (by decide +kernel) rfl⟩⟩
theorem fl_RX1_32 : a_fl RX1 32 1 5 := ⟨by decide, by decide, rfl, Or.inl (ws_t 429 (by decide +kernel) rfl)⟩
theorem fl_RX11_216 : a_fl RX11 216 1 5 := ⟨by decide, by decide, rfl, Or.inr ⟨"TalkHouse", nw_t 430 (by decide +kernel) rfl⟩⟩
theorem fl_RX1_35 : a_fl RX1 35 1 6 := ⟨by decide, by decide, rfl, Or.inl (ws_t 431 (by decide +kernel) rfl)⟩
theorem nl_RX6_18 : Cond.classLink RX6 18 (a_rc 4) ∈ WS ∧ Cond.instantiable (a_rc 4) (a_nf 4) ∈ WS ∧ Cond.initialized (a_rc 4) ∈ WS := ⟨ws_t 447 (by decide +kernel) rfl, ws_t 29 (by decide +kernel) rfl, in_RX4⟩
theorem ml_RX6_20 : a_mi RX6 20 yX4_init cX4_init 2 1 := ⟨⟨Or.inl (ws_t 448 (by decide +kernel) rfl), in_RX4, co_yX4_init, ⟨by decide +kernel, by decide +kernel, by decide +kernel⟩, by decide⟩, rfl, im_yX4_init⟩
theorem ml_RX6_61 : a_mv RX6 61 yX4_fill cX4_fill 3 none 1 := ⟨⟨Or.inl (ws_t 449 (by decide +kernel) rfl), in_RX4, co_yX4_fill, ⟨by decide +kernel, by decide +kernel, by decide +kernel⟩, by decide⟩, im_yX4_fill, se_yX4_fill⟩
theorem fl_RX6_12 : a_fl RX6 12 6 0 := ⟨by decide, by decide, rfl, Or.inl (ws_t 450 (by decide +kernel) rfl)⟩
theorem fl_RX11_121 : a_fl RX11 121 6 0 := ⟨by decide, by decide, rfl, Or.inr ⟨"TalkHouse", nw_t 451 (by decide +kernel) rfl⟩⟩
theorem fl_RX6_23 : a_fl RX6 23 6 1 := ⟨by decide, by decide, rfl, Or.inl (ws_t 452 (by decide +kernel) rfl)⟩
theorem fl_RX11_183 : a_fl RX11 183 6 1 := ⟨by decide, by decide, rfl, Or.inr ⟨"TalkHouse", nw_t 453 (by decide +kernel) rfl⟩⟩
theorem fl_RX6_27 : a_fl RX6 27 6 2 := ⟨by decide, by decide, rfl, Or.inl (ws_t 454 (by decide +kernel) rfl)⟩
theorem fl_RX6_30 : a_fl RX6 30 6 3 := ⟨by decide, by decide, rfl, Or.inl (ws_t 455 (by decide +kernel) rfl)⟩
theorem fl_RX11_186 : a_fl RX11 186 6 3 := ⟨by decide, by decide, rfl, Or.inr ⟨"TalkHouse", nw_t 456 (by decide +kernel) rfl⟩⟩
theorem fl_RX6_33 : a_fl RX6 33 6 4 := ⟨by decide, by decide, rfl, Or.inl (ws_t 457 (by decide +kernel) rfl)⟩
theorem fl_RX11_192 : a_fl RX11 192 6 4 := ⟨by decide, by decide, rfl, Or.inr ⟨"TalkHouse", nw_t 458 (by decide +kernel) rfl⟩⟩
theorem fl_RX6_36 : a_fl RX6 36 6 5 := ⟨by decide, by decide, rfl, Or.inl (ws_t 459 (by decide +kernel) rfl)⟩
theorem fl_RX11_198 : a_fl RX11 198 6 5 := ⟨by decide, by decide, rfl, Or.inr ⟨"TalkHouse", nw_t 460 (by decide +kernel) rfl⟩⟩
theorem fl_RX6_39 : a_fl RX6 39 6 6 := ⟨by decide, by decide, rfl, Or.inl (ws_t 461 (by decide +kernel) rfl)⟩
theorem fl_RX11_201 : a_fl RX11 201 6 6 := ⟨by decide, by decide, rfl, Or.inr ⟨"TalkHouse", nw_t 462 (by decide +kernel) rfl⟩⟩
theorem fl_RX6_42 : a_fl RX6 42 6 7 := ⟨by decide, by decide, rfl, Or.inl (ws_t 463 (by decide +kernel) rfl)⟩
theorem fl_RX6_45 : a_fl RX6 45 6 8 := ⟨by decide, by decide, rfl, Or.inl (ws_t 464 (by decide +kernel) rfl)⟩
theorem fl_RX6_48 : a_fl RX6 48 6 9 := ⟨by decide, by decide, rfl, Or.inl (ws_t 465 (by decide +kernel) rfl)⟩
theorem fl_RX11_176 : a_fl RX11 176 6 9 := ⟨by decide, by decide, rfl, Or.inr ⟨"TalkHouse", nw_t 466 (by decide +kernel) rfl⟩⟩
theorem fl_RX6_51 : a_fl RX6 51 6 10 := ⟨by decide, by decide, rfl, Or.inl (ws_t 467 (by decide +kernel) rfl)⟩
theorem fl_RX11_225 : a_fl RX11 225 6 10 := ⟨by decide, by decide, rfl, Or.inr ⟨"TalkHouse", nw_t 468 (by decide +kernel) rfl⟩⟩
theorem fl_RX6_54 : a_fl RX6 54 6 11 := ⟨by decide, by decide, rfl, Or.inl (ws_t 469 (by decide +kernel) rfl)⟩
theorem fl_RX11_228 : a_fl RX11 228 6 11 := ⟨by decide, by decide, rfl, Or.inr ⟨"TalkHouse", nw_t 470 (by decide +kernel) rfl⟩⟩
theorem fl_RX6_57 : a_fl RX6 57 6 12 := ⟨by decide, by decide, rfl, Or.inl (ws_t 471 (by decide +kernel) rfl)⟩
theorem fl_RX6_68 : a_fl RX6 68 6 13 := ⟨by decide, by decide, rfl, Or.inl (ws_t 472 (by decide +kernel) rfl)⟩
theorem fl_RX11_131 : a_fl RX11 131 6 13 := ⟨by decide, by decide, rfl, Or.inr ⟨"TalkHouse", nw_t 473 (by decide +kernel) rfl⟩⟩
theorem fl_RX6_72 : a_fl RX6 72 6 14 := ⟨by decide, by decide, rfl, Or.inl (ws_t 474 (by decide +kernel) rfl)⟩
theorem fl_RX11_128 : a_fl RX11 128 6 14 := ⟨by decide, by decide, rfl, Or.inr ⟨"TalkHouse", nw_t 475 (by decide +kernel) rfl⟩⟩
theorem fl_RX6_75 : a_fl RX6 75 6 15 := ⟨by decide, by decide, rfl, Or.inl (ws_t 476 (by decide +kernel) rfl)⟩
theorem fl_RX11_134 : a_fl RX11 134 6 15 := ⟨by decide, by decide, rfl, Or.inr ⟨"TalkHouse", nw_t 477 (by decide +kernel) rfl⟩⟩
theorem fl_RX11_14 : a_fl RX11 14 11 0 := ⟨by decide, by decide, rfl, Or.inl (ws_t 511 (by decide +kernel) rfl)⟩
theorem fl_RX11_18 : a_fl RX11 18 11 1 := ⟨by decide, by decide, rfl, Or.inl (ws_t 512 (by decide +kernel) rfl)⟩
theorem fl_RX11_24 : a_fl RX11 24 11 2 := ⟨by decide, by decide, rfl, Or.inl (ws_t 513 (by decide +kernel) rfl)⟩
theorem fl_RX11_43 : a_fl RX11 43 11 3 := ⟨by decide, by decide, rfl, Or.inl (ws_t 514 (by decide +kernel) rfl)⟩
theorem fl_RX11_52 : a_fl RX11 52 11 4 := ⟨by decide, by decide, rfl, Or.inl (ws_t 515 (by decide +kernel) rfl)⟩
theorem fl_RX11_31 : a_fl RX11 31 11 5 := ⟨by decide, by decide, rfl, Or.inl (ws_t 516 (by decide +kernel) rfl)⟩
theorem fl_RX11_35 : a_fl RX11 35 11 6 := ⟨by decide, by decide, rfl, Or.inl (ws_t 517 (by decide +kernel) rfl)⟩
theorem fl_RX11_99 : a_fl RX11 99 11 7 := ⟨by decide, by decide, rfl, Or.inl (ws_t 518 (by decide +kernel) rfl)⟩
theorem ml_RL_13 : a_mv RL 13 yX11_feed cX11_feed 6 (some .int) 5 := ⟨⟨Or.inl (ws_t 536 (by decide +kernel) rfl), in_RX11, co_yX11_feed, ⟨by decide +kernel, by decide +kernel, by decide +kernel⟩, by decide⟩, im_yX11_feed, se_yX11_feed⟩
theorem ml_RX11_56 : a_mv RX11 56 yX4_size cX4_size 1 (some .int) 0 := ⟨⟨Or.inl (ws_t 540 (by decide +kernel) rfl), in_RX4, co_yX4_size, ⟨by decide +kernel, by decide +kernel, by decide +kernel⟩, by decide⟩, im_yX4_size, se_yX4_size⟩
theorem ml_RX11_60 : a_mv RX11 60 yX4_addBytes cX4_addBytes 3 none 1 := ⟨⟨Or.inl (ws_t 544 (by decide +kernel) rfl), in_RX4, co_yX4_addBytes, ⟨by decide +kernel, by decide +kernel, by decide +kernel⟩, by decide⟩, im_yX4_addBytes, se_yX4_addBytes⟩
theorem ml_RX4_25 : a_mv RX4 25 yX4_add cX4_add 2 (some .int) 1 := ⟨⟨Or.inl (ws_t 548 (by decide +kernel) rfl), in_RX4, co_yX4_add, ⟨by decide +kernel, by decide +kernel, by decide +kernel⟩, by decide⟩, im_yX4_add, se_yX4_add⟩
theorem ml_RL_18 : a_mv RL 18 yX11_end cX11_end 2 (some .boolean) 1 := ⟨⟨Or.inl (ws_t 549 (by decide +kernel) rfl), in_RX11, co_yX11_end, ⟨by decide +kernel, by decide +kernel, by decide +kernel⟩, by decide⟩, im_yX11_end, se_yX11_end⟩
theorem ml_RX11_63 : a_mv RX11 63 yX4_cut cX4_cut 2 none 1 := ⟨⟨Or.inl (ws_t 553 (by decide +kernel) rfl), in_RX4, co_yX4_cut, ⟨by decide +kernel, by decide +kernel, by decide +kernel⟩, by decide⟩, im_yX4_cut, se_yX4_cut⟩
theorem ml_RL_23 : a_mv RL 23 yX11_load cX11_load 2 (some .int) 0 := ⟨⟨Or.inl (ws_t 557 (by decide +kernel) rfl), in_RX11, co_yX11_load, ⟨by decide +kernel, by decide +kernel, by decide +kernel⟩, by decide⟩, im_yX11_load, se_yX11_load⟩
theorem ml_RX11_66 : a_mv RX11 66 yX2_start cX2_start 4 none 1 := ⟨⟨Or.inl (ws_t 561 (by decide +kernel) rfl), in_RX2, co_yX2_start, ⟨by decide +kernel, by decide +kernel, by decide +kernel⟩, by decide⟩, im_yX2_start, se_yX2_start⟩
theorem ml_RX2_60 : a_mv RX2 60 yX4_size cX4_size 1 (some .int) 0 := ⟨⟨Or.inl (ws_t 565 (by decide +kernel) rfl), in_RX4, co_yX4_size, ⟨by decide +kernel, by decide +kernel, by decide +kernel⟩, by decide⟩, im_yX4_size, se_yX4_size⟩
theorem ml_RX2_63 : a_mv RX2 63 yX2_cutToken cX2_cutToken 4 (some .int) 2 := ⟨⟨Or.inl (ws_t 566 (by decide +kernel) rfl), in_RX2, co_yX2_cutToken, ⟨by decide +kernel, by decide +kernel, by decide +kernel⟩, by decide⟩, im_yX2_cutToken, se_yX2_cutToken⟩
theorem ml_RX2_80 : a_mv RX2 80 yX4_at cX4_at 2 (some .int) 1 := ⟨⟨Or.inl (ws_t 570 (by decide +kernel) rfl), in_RX4, co_yX4_at, ⟨by decide +kernel, by decide +kernel, by decide +kernel⟩, by decide⟩, im_yX4_at, se_yX4_at⟩
theorem ml_RX2_83 : a_ms RX2 83 yX11_isSmallLetter cX11_isSmallLetter 1 (some .boolean) 1 := ⟨⟨Or.inr ⟨"TalkHouse", nw_t 574 (by decide +kernel) rfl⟩, in_RX11, co_yX11_isSmallLetter, ⟨by decide +kernel, by decide +kernel, by decide +kernel⟩, by decide⟩, sm_yX11_isSmallLetter⟩
theorem ml_RX2_87 : a_mv RX2 87 yX2_cutLetters cX2_cutLetters 6 (some .int) 2 := ⟨⟨Or.inl (ws_t 577 (by decide +kernel) rfl), in_RX2, co_yX2_cutLetters, ⟨by decide +kernel, by decide +kernel, by decide +kernel⟩, by decide⟩, im_yX2_cutLetters, se_yX2_cutLetters⟩
theorem ml_RX2_101 : a_mv RX2 101 yX4_find cX4_find 3 (some .int) 1 := ⟨⟨Or.inl (ws_t 581 (by decide +kernel) rfl), in_RX4, co_yX4_find, ⟨by decide +kernel, by decide +kernel, by decide +kernel⟩, by decide⟩, im_yX4_find, se_yX4_find⟩
theorem ml_RX2_67 : a_mv RX2 67 yX2_note cX2_note 4 none 3 := ⟨⟨Or.inl (ws_t 585 (by decide +kernel) rfl), in_RX2, co_yX2_note, ⟨by decide +kernel, by decide +kernel, by decide +kernel⟩, by decide⟩, im_yX2_note, se_yX2_note⟩
theorem ml_RX2_90 : a_ms RX2 90 yX11_isDigit cX11_isDigit 1 (some .boolean) 1 := ⟨⟨Or.inr ⟨"TalkHouse", nw_t 589 (by decide +kernel) rfl⟩, in_RX11, co_yX11_isDigit, ⟨by decide +kernel, by decide +kernel, by decide +kernel⟩, by decide⟩, sm_yX11_isDigit⟩
theorem ml_RX2_93 : a_mv RX2 93 yX2_cutDigits cX2_cutDigits 6 (some .int) 2 := ⟨⟨Or.inl (ws_t 592 (by decide +kernel) rfl), in_RX2, co_yX2_cutDigits, ⟨by decide +kernel, by decide +kernel, by decide +kernel⟩, by decide⟩, im_yX2_cutDigits, se_yX2_cutDigits⟩
theorem ml_RX2_104 : a_ms RX2 104 yX11_isLetter cX11_isLetter 1 (some .boolean) 1 := ⟨⟨Or.inr ⟨"TalkHouse", nw_t 596 (by decide +kernel) rfl⟩, in_RX11, co_yX11_isLetter, ⟨by decide +kernel, by decide +kernel, by decide +kernel⟩, by decide⟩, sm_yX11_isLetter⟩
theorem ml_RX11_231 : a_ms RX11 231 yX11_isSmallLetter cX11_isSmallLetter 1 (some .boolean) 1 := ⟨⟨Or.inl (ws_t 599 (by decide +kernel) rfl), in_RX11, co_yX11_isSmallLetter, ⟨by decide +kernel, by decide +kernel, by decide +kernel⟩, by decide⟩, sm_yX11_isSmallLetter⟩
theorem ml_RX2_98 : a_mv RX2 98 yJ0_indexOf_0f7a4 cJ0_indexOf_0f7a4 2 (some .int) 1 := ⟨⟨Or.inl (ws_t 601 (by decide +kernel) rfl), in_RJ0, co_yJ0_indexOf_0f7a4, ⟨by decide +kernel, by decide +kernel, by decide +kernel⟩, by decide⟩, im_yJ0_indexOf_0f7a4, se_yJ0_indexOf_0f7a4⟩
theorem ml_RJ0_633 : a_mv RJ0 633 yJ0_indexOf_7cf53 cJ0_indexOf_7cf53 3 (some .int) 2 := ⟨⟨Or.inl (ws_t 605 (by decide +kernel) rfl), in_RJ0, co_yJ0_indexOf_7cf53, ⟨by decide +kernel, by decide +kernel, by decide +kernel⟩, by decide⟩, im_yJ0_indexOf_7cf53, se_yJ0_indexOf_7cf53⟩
theorem ml_RJ0_505 : a_mv RJ0 505 yJ0_length_8abf5 cJ0_length_8abf5 1 (some .int) 0 := ⟨⟨Or.inl (ws_t 609 (by decide +kernel) rfl), in_RJ0, co_yJ0_length_8abf5, ⟨by decide +kernel, by decide +kernel, by decide +kernel⟩, by decide⟩, im_yJ0_length_8abf5, se_yJ0_length_8abf5⟩
theorem ml_RJ0_637 : a_ms RJ0 637 yJ1_indexOf_4cfef cJ1_indexOf_4cfef 4 (some .int) 4 := ⟨⟨Or.inl (ws_t 610 (by decide +kernel) rfl), in_RJ1, co_yJ1_indexOf_4cfef, ⟨by decide +kernel, by decide +kernel, by decide +kernel⟩, by decide⟩, sm_yJ1_indexOf_4cfef⟩
theorem ml_RJ1_88 : a_ms RJ1 88 yJ1_canEncode_9a6ad cJ1_canEncode_9a6ad 1 (some .boolean) 1 := ⟨⟨Or.inl (ws_t 613 (by decide +kernel) rfl), in_RJ1, co_yJ1_canEncode_9a6ad, ⟨by decide +kernel, by decide +kernel, by decide +kernel⟩, by decide⟩, sm_yJ1_canEncode_9a6ad⟩
theorem ml_RJ1_92 : a_ms RJ1 92 yJ9_max_7cf53 cJ9_max_7cf53 2 (some .int) 2 := ⟨⟨Or.inl (ws_t 616 (by decide +kernel) rfl), in_RJ9, co_yJ9_max_7cf53, ⟨by decide +kernel, by decide +kernel, by decide +kernel⟩, by decide⟩, sm_yJ9_max_7cf53⟩
theorem ml_RJ1_38 : a_ms RJ1 38 yJ9_min_7cf53 cJ9_min_7cf53 2 (some .int) 2 := ⟨⟨Or.inl (ws_t 617 (by decide +kernel) rfl), in_RJ9, co_yJ9_min_7cf53, ⟨by decide +kernel, by decide +kernel, by decide +kernel⟩, by decide⟩, sm_yJ9_min_7cf53⟩
theorem ml_RJ1_95 : a_ms RJ1 95 yJ1_indexOfChar_4cfef cJ1_indexOfChar_4cfef 6 (some .int) 4 := ⟨⟨Or.inl (ws_t 620 (by decide +kernel) rfl), in_RJ1, co_yJ1_indexOfChar_4cfef, ⟨by decide +kernel, by decide +kernel, by decide +kernel⟩, by decide⟩, sm_yJ1_indexOfChar_4cfef⟩
theorem ml_RJ0_640 : a_ms RJ0 640 yJ2_indexOf_4cfef cJ2_indexOf_4cfef 4 (some .int) 4 := ⟨⟨Or.inl (ws_t 623 (by decide +kernel) rfl), in_RJ2, co_yJ2_indexOf_4cfef, ⟨by decide +kernel, by decide +kernel, by decide +kernel⟩, by decide⟩, sm_yJ2_indexOf_4cfef⟩
theorem ml_RJ2_224 : a_ms RJ2 224 yJ9_max_7cf53 cJ9_max_7cf53 2 (some .int) 2 := ⟨⟨Or.inl (ws_t 626 (by decide +kernel) rfl), in_RJ9, co_yJ9_max_7cf53, ⟨by decide +kernel, by decide +kernel, by decide +kernel⟩, by decide⟩, sm_yJ9_max_7cf53⟩
theorem ml_RJ2_183 : a_ms RJ2 183 yJ9_min_7cf53 cJ9_min_7cf53 2 (some .int) 2 := ⟨⟨Or.inl (ws_t 627 (by decide +kernel) rfl), in_RJ9, co_yJ9_min_7cf53, ⟨by decide +kernel, by decide +kernel, by decide +kernel⟩, by decide⟩, sm_yJ9_min_7cf53⟩
theorem kc_RJ2_227 : Cond.constant RJ2 227 (65536) ∈ WS := ws_t 628 (by decide +kernel) rfl
theorem ml_RJ2_228 : a_ms RJ2 228 yJ2_indexOfChar_4cfef cJ2_indexOfChar_4cfef 4 (some .int) 4 := ⟨⟨Or.inl (ws_t 629 (by decide +kernel) rfl), in_RJ2, co_yJ2_indexOfChar_4cfef, ⟨by decide +kernel, by decide +kernel, by decide +kernel⟩, by decide⟩, sm_yJ2_indexOfChar_4cfef⟩
theorem ml_RJ2_96 : a_ms RJ2 96 yJ2_checkBoundsBeginEnd_d044e cJ2_checkBoundsBeginEnd_d044e 3 none 3 := ⟨⟨Or.inl (ws_t 632 (by decide +kernel) rfl), in_RJ2, co_yJ2_checkBoundsBeginEnd_d044e, ⟨by decide +kernel, by decide +kernel, by decide +kernel⟩, by decide⟩, sm_yJ2_checkBoundsBeginEnd_d044e⟩
theorem ml_RJ2_241 : a_ms RJ2 241 yJ0_checkBoundsBeginEnd_23922 cJ0_checkBoundsBeginEnd_23922 3 none 3 := ⟨⟨Or.inl (ws_t 635 (by decide +kernel) rfl), in_RJ0, co_yJ0_checkBoundsBeginEnd_23922, ⟨by decide +kernel, by decide +kernel, by decide +kernel⟩, by decide⟩, sm_yJ0_checkBoundsBeginEnd_23922⟩
theorem ml_RJ0_1062 : a_ms RJ0 1062 yJ3_checkFromToIndex_8c36e cJ3_checkFromToIndex_8c36e 4 (some .int) 4 := ⟨⟨Or.inl (ws_t 638 (by decide +kernel) rfl), in_RJ3, co_yJ3_checkFromToIndex_8c36e, ⟨by decide +kernel, by decide +kernel, by decide +kernel⟩, by decide⟩, sm_yJ3_checkFromToIndex_8c36e⟩
theorem ml_RJ2_244 : a_ms RJ2 244 yJ2_indexOfCharUnsafe_4cfef cJ2_indexOfCharUnsafe_4cfef 5 (some .int) 4 := ⟨⟨Or.inl (ws_t 641 (by decide +kernel) rfl), in_RJ2, co_yJ2_indexOfCharUnsafe_4cfef, ⟨by decide +kernel, by decide +kernel, by decide +kernel⟩, by decide⟩, sm_yJ2_indexOfCharUnsafe_4cfef⟩
theorem ml_RJ2_232 : a_ms RJ2 232 yJ2_indexOfSupplementary_4cfef cJ2_indexOfSupplementary_4cfef 7 (some .int) 4 := ⟨⟨Or.inl (ws_t 644 (by decide +kernel) rfl), in_RJ2, co_yJ2_indexOfSupplementary_4cfef, ⟨by decide +kernel, by decide +kernel, by decide +kernel⟩, by decide⟩, sm_yJ2_indexOfSupplementary_4cfef⟩
theorem ml_RJ2_164 : a_ms RJ2 164 yJ11_isValidCodePoint_9a6ad cJ11_isValidCodePoint_9a6ad 2 (some .boolean) 1 := ⟨⟨Or.inl (ws_t 647 (by decide +kernel) rfl), in_RJ11, co_yJ11_isValidCodePoint_9a6ad, ⟨by decide +kernel, by decide +kernel, by decide +kernel⟩, by decide⟩, sm_yJ11_isValidCodePoint_9a6ad⟩
theorem ml_RJ2_157 : a_ms RJ2 157 yJ11_highSurrogate_5068e cJ11_highSurrogate_5068e 1 (some .char) 1 := ⟨⟨Or.inl (ws_t 650 (by decide +kernel) rfl), in_RJ11, co_yJ11_highSurrogate_5068e, ⟨by decide +kernel, by decide +kernel, by decide +kernel⟩, by decide⟩, sm_yJ11_highSurrogate_5068e⟩
theorem kc_RJ11_110 : Cond.constant RJ11 110 (55232) ∈ WS := ws_t 653 (by decide +kernel) rfl
theorem ml_RJ2_161 : a_ms RJ2 161 yJ11_lowSurrogate_5068e cJ11_lowSurrogate_5068e 1 (some .char) 1 := ⟨⟨Or.inl (ws_t 654 (by decide +kernel) rfl), in_RJ11, co_yJ11_lowSurrogate_5068e, ⟨by decide +kernel, by decide +kernel, by decide +kernel⟩, by decide⟩, sm_yJ11_lowSurrogate_5068e⟩
theorem kc_RJ11_76 : Cond.constant RJ11 76 (56320) ∈ WS := ws_t 657 (by decide +kernel) rfl
theorem ml_RX2_77 : a_mv RX2 77 yX2_advance cX2_advance 1 none 0 := ⟨⟨Or.inl (ws_t 658 (by decide +kernel) rfl), in_RX2, co_yX2_advance, ⟨by decide +kernel, by decide +kernel, by decide +kernel⟩, by decide⟩, im_yX2_advance, se_yX2_advance⟩
theorem ml_RX11_70 : a_mv RX11 70 yX4_clear cX4_clear 1 none 0 := ⟨⟨Or.inl (ws_t 662 (by decide +kernel) rfl), in_RX4, co_yX4_clear, ⟨by decide +kernel, by decide +kernel, by decide +kernel⟩, by decide⟩, im_yX4_clear, se_yX4_clear⟩
theorem ml_RX11_73 : a_mv RX11 73 yX3_use cX3_use 2 none 1 := ⟨⟨Or.inl (ws_t 666 (by decide +kernel) rfl), in_RX3, co_yX3_use, ⟨by decide +kernel, by decide +kernel, by decide +kernel⟩, by decide⟩, im_yX3_use, se_yX3_use⟩
theorem ml_RX3_54 : a_mv RX3 54 yX0_clear cX0_clear 1 none 0 := ⟨⟨Or.inl (ws_t 670 (by decide +kernel) rfl), in_RX0, co_yX0_clear, ⟨by decide +kernel, by decide +kernel, by decide +kernel⟩, by decide⟩, im_yX0_clear, se_yX0_clear⟩
theorem ml_RX0_79 : a_mv RX0 79 yX10_clear cX10_clear 1 none 0 := ⟨⟨Or.inl (ws_t 674 (by decide +kernel) rfl), in_RX10, co_yX10_clear, ⟨by decide +kernel, by decide +kernel, by decide +kernel⟩, by decide⟩, im_yX10_clear, se_yX10_clear⟩
theorem ml_RX10_41 : a_mv RX10 41 yX4_clear cX4_clear 1 none 0 := ⟨⟨Or.inl (ws_t 678 (by decide +kernel) rfl), in_RX4, co_yX4_clear, ⟨by decide +kernel, by decide +kernel, by decide +kernel⟩, by decide⟩, im_yX4_clear, se_yX4_clear⟩
theorem ml_RX0_82 : a_mv RX0 82 yX8_clear cX8_clear 1 none 0 := ⟨⟨Or.inl (ws_t 679 (by decide +kernel) rfl), in_RX8, co_yX8_clear, ⟨by decide +kernel, by decide +kernel, by decide +kernel⟩, by decide⟩, im_yX8_clear, se_yX8_clear⟩
theorem ml_RX8_32 : a_mv RX8 32 yX4_clear cX4_clear 1 none 0 := ⟨⟨Or.inl (ws_t 683 (by decide +kernel) rfl), in_RX4, co_yX4_clear, ⟨by decide +kernel, by decide +kernel, by decide +kernel⟩, by decide⟩, im_yX4_clear, se_yX4_clear⟩
theorem ml_RX0_83 : a_mv RX0 83 yX4_clear cX4_clear 1 none 0 := ⟨⟨Or.inl (ws_t 684 (by decide +kernel) rfl), in_RX4, co_yX4_clear, ⟨by decide +kernel, by decide +kernel, by decide +kernel⟩, by decide⟩, im_yX4_clear, se_yX4_clear⟩
theorem ml_RX3_57 : a_mv RX3 57 yX9_use cX9_use 2 none 1 := ⟨⟨Or.inl (ws_t 685 (by decide +kernel) rfl), in_RX9, co_yX9_use, ⟨by decide +kernel, by decide +kernel, by decide +kernel⟩, by decide⟩, im_yX9_use, se_yX9_use⟩
theorem ml_RX9_31 : a_mv RX9 31 yX4_clear cX4_clear 1 none 0 := ⟨⟨Or.inl (ws_t 689 (by decide +kernel) rfl), in_RX4, co_yX4_clear, ⟨by decide +kernel, by decide +kernel, by decide +kernel⟩, by decide⟩, im_yX4_clear, se_yX4_clear⟩
theorem ml_RX3_61 : a_mv RX3 61 yX7_use cX7_use 2 none 1 := ⟨⟨Or.inl (ws_t 690 (by decide +kernel) rfl), in_RX7, co_yX7_use, ⟨by decide +kernel, by decide +kernel, by decide +kernel⟩, by decide⟩, im_yX7_use, se_yX7_use⟩
theorem ml_RX11_76 : a_mv RX11 76 yX3_readTypes cX3_readTypes 4 none 0 := ⟨⟨Or.inl (ws_t 694 (by decide +kernel) rfl), in_RX3, co_yX3_readTypes, ⟨by decide +kernel, by decide +kernel, by decide +kernel⟩, by decide⟩, im_yX3_readTypes, se_yX3_readTypes⟩
theorem ml_RX3_64 : a_mv RX3 64 yX2_skip cX2_skip 2 (some .boolean) 1 := ⟨⟨Or.inl (ws_t 698 (by decide +kernel) rfl), in_RX2, co_yX2_skip, ⟨by decide +kernel, by decide +kernel, by decide +kernel⟩, by decide⟩, im_yX2_skip, se_yX2_skip⟩
theorem ml_RX3_74 : a_mv RX3 74 yX3_readFresh cX3_readFresh 5 (some .int) 2 := ⟨⟨Or.inl (ws_t 702 (by decide +kernel) rfl), in_RX3, co_yX3_readFresh, ⟨by decide +kernel, by decide +kernel, by decide +kernel⟩, by decide⟩, im_yX3_readFresh, se_yX3_readFresh⟩
theorem ml_RX3_98 : a_mv RX3 98 yX2_takeName cX2_takeName 2 (some .int) 0 := ⟨⟨Or.inl (ws_t 706 (by decide +kernel) rfl), in_RX2, co_yX2_takeName, ⟨by decide +kernel, by decide +kernel, by decide +kernel⟩, by decide⟩, im_yX2_takeName, se_yX2_takeName⟩
theorem ml_RX2_113 : a_mv RX2 113 yX2_refuse cX2_refuse 3 none 2 := ⟨⟨Or.inl (ws_t 710 (by decide +kernel) rfl), in_RX2, co_yX2_refuse, ⟨by decide +kernel, by decide +kernel, by decide +kernel⟩, by decide⟩, im_yX2_refuse, se_yX2_refuse⟩
theorem ml_RX3_101 : a_mv RX3 101 yX4_find cX4_find 3 (some .int) 1 := ⟨⟨Or.inl (ws_t 714 (by decide +kernel) rfl), in_RX4, co_yX4_find, ⟨by decide +kernel, by decide +kernel, by decide +kernel⟩, by decide⟩, im_yX4_find, se_yX4_find⟩
theorem ml_RX3_104 : a_mv RX3 104 yX2_refuse cX2_refuse 3 none 2 := ⟨⟨Or.inl (ws_t 715 (by decide +kernel) rfl), in_RX2, co_yX2_refuse, ⟨by decide +kernel, by decide +kernel, by decide +kernel⟩, by decide⟩, im_yX2_refuse, se_yX2_refuse⟩
theorem ml_RX3_108 : a_mv RX3 108 yX4_size cX4_size 1 (some .int) 0 := ⟨⟨Or.inl (ws_t 716 (by decide +kernel) rfl), in_RX4, co_yX4_size, ⟨by decide +kernel, by decide +kernel, by decide +kernel⟩, by decide⟩, im_yX4_size, se_yX4_size⟩
theorem ml_RX3_78 : a_mv RX3 78 yX2_want cX2_want 2 none 1 := ⟨⟨Or.inl (ws_t 717 (by decide +kernel) rfl), in_RX2, co_yX2_want, ⟨by decide +kernel, by decide +kernel, by decide +kernel⟩, by decide⟩, im_yX2_want, se_yX2_want⟩
theorem ml_RX3_82 : a_mv RX3 82 yX9_readWhole cX9_readWhole 1 (some .int) 0 := ⟨⟨Or.inl (ws_t 721 (by decide +kernel) rfl), in_RX9, co_yX9_readWhole, ⟨by decide +kernel, by decide +kernel, by decide +kernel⟩, by decide⟩, im_yX9_readWhole, se_yX9_readWhole⟩
theorem ml_RX9_38 : a_mv RX9 38 yX9_readType cX9_readType 3 (some .int) 1 := ⟨⟨Or.inl (ws_t 725 (by decide +kernel) rfl), in_RX9, co_yX9_readType, ⟨by decide +kernel, by decide +kernel, by decide +kernel⟩, by decide⟩, im_yX9_readType, se_yX9_readType⟩
theorem ml_RX9_47 : a_mv RX9 47 yX9_readKnown cX9_readKnown 4 (some .int) 0 := ⟨⟨Or.inl (ws_t 729 (by decide +kernel) rfl), in_RX9, co_yX9_readKnown, ⟨by decide +kernel, by decide +kernel, by decide +kernel⟩, by decide⟩, im_yX9_readKnown, se_yX9_readKnown⟩
theorem ml_RX9_97 : a_mv RX9 97 yX2_takeName cX2_takeName 2 (some .int) 0 := ⟨⟨Or.inl (ws_t 733 (by decide +kernel) rfl), in_RX2, co_yX2_takeName, ⟨by decide +kernel, by decide +kernel, by decide +kernel⟩, by decide⟩, im_yX2_takeName, se_yX2_takeName⟩
theorem ml_RX9_100 : a_mv RX9 100 yX4_find cX4_find 3 (some .int) 1 := ⟨⟨Or.inl (ws_t 734 (by decide +kernel) rfl), in_RX4, co_yX4_find, ⟨by decide +kernel, by decide +kernel, by decide +kernel⟩, by decide⟩, im_yX4_find, se_yX4_find⟩
theorem ml_RX9_58 : a_mv RX9 58 yX2_refuse cX2_refuse 3 none 2 := ⟨⟨Or.inl (ws_t 735 (by decide +kernel) rfl), in_RX2, co_yX2_refuse, ⟨by decide +kernel, by decide +kernel, by decide +kernel⟩, by decide⟩, im_yX2_refuse, se_yX2_refuse⟩
theorem ml_RX9_106 : a_mv RX9 106 yX4_at cX4_at 2 (some .int) 1 := ⟨⟨Or.inl (ws_t 736 (by decide +kernel) rfl), in_RX4, co_yX4_at, ⟨by decide +kernel, by decide +kernel, by decide +kernel⟩, by decide⟩, im_yX4_at, se_yX4_at⟩
theorem ml_RX9_62 : a_mv RX9 62 yX9_countParts cX9_countParts 3 none 2 := ⟨⟨Or.inl (ws_t 737 (by decide +kernel) rfl), in_RX9, co_yX9_countParts, ⟨by decide +kernel, by decide +kernel, by decide +kernel⟩, by decide⟩, im_yX9_countParts, se_yX9_countParts⟩
theorem ml_RX9_51 : a_ms RX9 51 yX9_isTalkSign cX9_isTalkSign 1 (some .boolean) 1 := ⟨⟨Or.inl (ws_t 741 (by decide +kernel) rfl), in_RX9, co_yX9_isTalkSign, ⟨by decide +kernel, by decide +kernel, by decide +kernel⟩, by decide⟩, sm_yX9_isTalkSign⟩
theorem ml_RX9_84 : a_ms RX9 84 yX10_isChoice cX10_isChoice 1 (some .boolean) 1 := ⟨⟨Or.inr ⟨"TalkHouse", nw_t 744 (by decide +kernel) rfl⟩, in_RX10, co_yX10_isChoice, ⟨by decide +kernel, by decide +kernel, by decide +kernel⟩, by decide⟩, sm_yX10_isChoice⟩
theorem ml_RX9_65 : a_mv RX9 65 yX2_advance cX2_advance 1 none 0 := ⟨⟨Or.inl (ws_t 747 (by decide +kernel) rfl), in_RX2, co_yX2_advance, ⟨by decide +kernel, by decide +kernel, by decide +kernel⟩, by decide⟩, im_yX2_advance, se_yX2_advance⟩
theorem ml_RX9_68 : a_mv RX9 68 yX2_failed cX2_failed 1 (some .boolean) 0 := ⟨⟨Or.inl (ws_t 748 (by decide +kernel) rfl), in_RX2, co_yX2_failed, ⟨by decide +kernel, by decide +kernel, by decide +kernel⟩, by decide⟩, im_yX2_failed, se_yX2_failed⟩
theorem ml_RX9_78 : a_mv RX9 78 yX10_make cX10_make 5 (some .int) 3 := ⟨⟨Or.inl (ws_t 752 (by decide +kernel) rfl), in_RX10, co_yX10_make, ⟨by decide +kernel, by decide +kernel, by decide +kernel⟩, by decide⟩, im_yX10_make, se_yX10_make⟩
theorem ml_RX10_44 : a_mv RX10 44 yX4_size cX4_size 1 (some .int) 0 := ⟨⟨Or.inl (ws_t 756 (by decide +kernel) rfl), in_RX4, co_yX4_size, ⟨by decide +kernel, by decide +kernel, by decide +kernel⟩, by decide⟩, im_yX4_size, se_yX4_size⟩
theorem ml_RX10_48 : a_mv RX10 48 yX4_at cX4_at 2 (some .int) 1 := ⟨⟨Or.inl (ws_t 757 (by decide +kernel) rfl), in_RX4, co_yX4_at, ⟨by decide +kernel, by decide +kernel, by decide +kernel⟩, by decide⟩, im_yX4_at, se_yX4_at⟩
theorem ml_RX10_52 : a_mv RX10 52 yX10_addT cX10_addT 5 (some .int) 4 := ⟨⟨Or.inl (ws_t 758 (by decide +kernel) rfl), in_RX10, co_yX10_addT, ⟨by decide +kernel, by decide +kernel, by decide +kernel⟩, by decide⟩, im_yX10_addT, se_yX10_addT⟩
theorem ml_RX10_60 : a_mv RX10 60 yX4_add cX4_add 2 (some .int) 1 := ⟨⟨Or.inl (ws_t 762 (by decide +kernel) rfl), in_RX4, co_yX4_add, ⟨by decide +kernel, by decide +kernel, by decide +kernel⟩, by decide⟩, im_yX4_add, se_yX4_add⟩
theorem ml_RX9_87 : a_mv RX9 87 yX9_readChoice cX9_readChoice 6 (some .int) 2 := ⟨⟨Or.inl (ws_t 763 (by decide +kernel) rfl), in_RX9, co_yX9_readChoice, ⟨by decide +kernel, by decide +kernel, by decide +kernel⟩, by decide⟩, im_yX9_readChoice, se_yX9_readChoice⟩
theorem ml_RX9_114 : a_mv RX9 114 yX4_size cX4_size 1 (some .int) 0 := ⟨⟨Or.inl (ws_t 767 (by decide +kernel) rfl), in_RX4, co_yX4_size, ⟨by decide +kernel, by decide +kernel, by decide +kernel⟩, by decide⟩, im_yX4_size, se_yX4_size⟩
theorem ml_RX9_111 : a_mv RX9 111 yX2_want cX2_want 2 none 1 := ⟨⟨Or.inl (ws_t 768 (by decide +kernel) rfl), in_RX2, co_yX2_want, ⟨by decide +kernel, by decide +kernel, by decide +kernel⟩, by decide⟩, im_yX2_want, se_yX2_want⟩
theorem ml_RX9_117 : a_mv RX9 117 yX9_readBranchName cX9_readBranchName 5 (some .int) 1 := ⟨⟨Or.inl (ws_t 769 (by decide +kernel) rfl), in_RX9, co_yX9_readBranchName, ⟨by decide +kernel, by decide +kernel, by decide +kernel⟩, by decide⟩, im_yX9_readBranchName, se_yX9_readBranchName⟩
theorem ml_RX9_136 : a_mv RX9 136 yX4_add cX4_add 2 (some .int) 1 := ⟨⟨Or.inl (ws_t 773 (by decide +kernel) rfl), in_RX4, co_yX4_add, ⟨by decide +kernel, by decide +kernel, by decide +kernel⟩, by decide⟩, im_yX4_add, se_yX4_add⟩
theorem ml_RX9_120 : a_mv RX9 120 yX4_put cX4_put 3 none 2 := ⟨⟨Or.inl (ws_t 774 (by decide +kernel) rfl), in_RX4, co_yX4_put, ⟨by decide +kernel, by decide +kernel, by decide +kernel⟩, by decide⟩, im_yX4_put, se_yX4_put⟩
theorem ml_RX9_123 : a_mv RX9 123 yX9_sortLast cX9_sortLast 5 none 1 := ⟨⟨Or.inl (ws_t 778 (by decide +kernel) rfl), in_RX9, co_yX9_sortLast, ⟨by decide +kernel, by decide +kernel, by decide +kernel⟩, by decide⟩, im_yX9_sortLast, se_yX9_sortLast⟩
theorem ml_RX9_126 : a_mv RX9 126 yX2_skip cX2_skip 2 (some .boolean) 1 := ⟨⟨Or.inl (ws_t 782 (by decide +kernel) rfl), in_RX2, co_yX2_skip, ⟨by decide +kernel, by decide +kernel, by decide +kernel⟩, by decide⟩, im_yX2_skip, se_yX2_skip⟩
theorem ml_RX9_129 : a_mv RX9 129 yX10_makeChoice cX10_makeChoice 9 (some .int) 4 := ⟨⟨Or.inl (ws_t 783 (by decide +kernel) rfl), in_RX10, co_yX10_makeChoice, ⟨by decide +kernel, by decide +kernel, by decide +kernel⟩, by decide⟩, im_yX10_makeChoice, se_yX10_makeChoice⟩
theorem ml_RX10_56 : a_mv RX10 56 yX10_isLike cX10_isLike 7 (some .boolean) 4 := ⟨⟨Or.inl (ws_t 787 (by decide +kernel) rfl), in_RX10, co_yX10_isLike, ⟨by decide +kernel, by decide +kernel, by decide +kernel⟩, by decide⟩, im_yX10_isLike, se_yX10_isLike⟩
theorem ml_RX9_133 : a_mv RX9 133 yX4_cut cX4_cut 2 none 1 := ⟨⟨Or.inl (ws_t 791 (by decide +kernel) rfl), in_RX4, co_yX4_cut, ⟨by decide +kernel, by decide +kernel, by decide +kernel⟩, by decide⟩, im_yX4_cut, se_yX4_cut⟩
theorem ml_RX9_91 : a_mv RX9 91 yX9_readTalk cX9_readTalk 5 (some .int) 2 := ⟨⟨Or.inl (ws_t 792 (by decide +kernel) rfl), in_RX9, co_yX9_readTalk, ⟨by decide +kernel, by decide +kernel, by decide +kernel⟩, by decide⟩, im_yX9_readTalk, se_yX9_readTalk⟩
theorem ml_RX3_86 : a_mv RX3 86 yX4_add cX4_add 2 (some .int) 1 := ⟨⟨Or.inl (ws_t 796 (by decide +kernel) rfl), in_RX4, co_yX4_add, ⟨by decide +kernel, by decide +kernel, by decide +kernel⟩, by decide⟩, im_yX4_add, se_yX4_add⟩
theorem ml_RX11_79 : a_mv RX11 79 yX2_failed cX2_failed 1 (some .boolean) 0 := ⟨⟨Or.inl (ws_t 797 (by decide +kernel) rfl), in_RX2, co_yX2_failed, ⟨by decide +kernel, by decide +kernel, by decide +kernel⟩, by decide⟩, im_yX2_failed, se_yX2_failed⟩
theorem ml_RX11_83 : a_mv RX11 83 yX3_readDef cX3_readDef 4 none 0 := ⟨⟨Or.inl (ws_t 798 (by decide +kernel) rfl), in_RX3, co_yX3_readDef, ⟨by decide +kernel, by decide +kernel, by decide +kernel⟩, by decide⟩, im_yX3_readDef, se_yX3_readDef⟩
theorem ml_RX3_114 : a_mv RX3 114 yX5_start cX5_start 1 none 0 := ⟨⟨Or.inl (ws_t 802 (by decide +kernel) rfl), in_RX5, co_yX5_start, ⟨by decide +kernel, by decide +kernel, by decide +kernel⟩, by decide⟩, im_yX5_start, se_yX5_start⟩
theorem ml_RX5_33 : a_mv RX5 33 yX4_put cX4_put 3 none 2 := ⟨⟨Or.inl (ws_t 806 (by decide +kernel) rfl), in_RX4, co_yX4_put, ⟨by decide +kernel, by decide +kernel, by decide +kernel⟩, by decide⟩, im_yX4_put, se_yX4_put⟩
theorem ml_RX5_37 : a_mv RX5 37 yX5_add cX5_add 4 (some .int) 2 := ⟨⟨Or.inl (ws_t 807 (by decide +kernel) rfl), in_RX5, co_yX5_add, ⟨by decide +kernel, by decide +kernel, by decide +kernel⟩, by decide⟩, im_yX5_add, se_yX5_add⟩
theorem ml_RX5_41 : a_mv RX5 41 yX4_at cX4_at 2 (some .int) 1 := ⟨⟨Or.inl (ws_t 811 (by decide +kernel) rfl), in_RX4, co_yX4_at, ⟨by decide +kernel, by decide +kernel, by decide +kernel⟩, by decide⟩, im_yX4_at, se_yX4_at⟩
theorem ml_RX5_53 : a_mv RX5 53 yX5_set cX5_set 4 none 3 := ⟨⟨Or.inl (ws_t 812 (by decide +kernel) rfl), in_RX5, co_yX5_set, ⟨by decide +kernel, by decide +kernel, by decide +kernel⟩, by decide⟩, im_yX5_set, se_yX5_set⟩
theorem ml_RX5_50 : a_mv RX5 50 yX5_index cX5_index 2 (some .int) 1 := ⟨⟨Or.inl (ws_t 816 (by decide +kernel) rfl), in_RX5, co_yX5_index, ⟨by decide +kernel, by decide +kernel, by decide +kernel⟩, by decide⟩, im_yX5_index, se_yX5_index⟩
theorem ml_RX5_57 : a_mv RX5 57 yX4_bump cX4_bump 3 none 2 := ⟨⟨Or.inl (ws_t 820 (by decide +kernel) rfl), in_RX4, co_yX4_bump, ⟨by decide +kernel, by decide +kernel, by decide +kernel⟩, by decide⟩, im_yX4_bump, se_yX4_bump⟩
theorem ml_RX3_117 : a_mv RX3 117 yX3_readParams cX3_readParams 7 none 0 := ⟨⟨Or.inl (ws_t 824 (by decide +kernel) rfl), in_RX3, co_yX3_readParams, ⟨by decide +kernel, by decide +kernel, by decide +kernel⟩, by decide⟩, im_yX3_readParams, se_yX3_readParams⟩
theorem ml_RX3_151 : a_mv RX3 151 yX2_is cX2_is 2 (some .boolean) 1 := ⟨⟨Or.inl (ws_t 828 (by decide +kernel) rfl), in_RX2, co_yX2_is, ⟨by decide +kernel, by decide +kernel, by decide +kernel⟩, by decide⟩, im_yX2_is, se_yX2_is⟩
theorem ml_RX3_120 : a_mv RX3 120 yX3_readFreshThing cX3_readFreshThing 3 (some .int) 0 := ⟨⟨Or.inl (ws_t 832 (by decide +kernel) rfl), in_RX3, co_yX3_readFreshThing, ⟨by decide +kernel, by decide +kernel, by decide +kernel⟩, by decide⟩, im_yX3_readFreshThing, se_yX3_readFreshThing⟩
theorem ml_RX3_163 : a_mv RX3 163 yX5_find cX5_find 3 (some .int) 1 := ⟨⟨Or.inl (ws_t 836 (by decide +kernel) rfl), in_RX5, co_yX5_find, ⟨by decide +kernel, by decide +kernel, by decide +kernel⟩, by decide⟩, im_yX5_find, se_yX5_find⟩
theorem ml_RX3_154 : a_mv RX3 154 yX4_put cX4_put 3 none 2 := ⟨⟨Or.inl (ws_t 840 (by decide +kernel) rfl), in_RX4, co_yX4_put, ⟨by decide +kernel, by decide +kernel, by decide +kernel⟩, by decide⟩, im_yX4_put, se_yX4_put⟩
theorem ml_RX3_157 : a_mv RX3 157 yX5_add cX5_add 4 (some .int) 2 := ⟨⟨Or.inl (ws_t 841 (by decide +kernel) rfl), in_RX5, co_yX5_add, ⟨by decide +kernel, by decide +kernel, by decide +kernel⟩, by decide⟩, im_yX5_add, se_yX5_add⟩
theorem ml_RX3_123 : a_mv RX3 123 yX5_set cX5_set 4 none 3 := ⟨⟨Or.inl (ws_t 842 (by decide +kernel) rfl), in_RX5, co_yX5_set, ⟨by decide +kernel, by decide +kernel, by decide +kernel⟩, by decide⟩, im_yX5_set, se_yX5_set⟩
theorem ml_RX3_142 : a_mv RX3 142 yX3_readSteps cX3_readSteps 4 (some .int) 1 := ⟨⟨Or.inl (ws_t 843 (by decide +kernel) rfl), in_RX3, co_yX3_readSteps, ⟨by decide +kernel, by decide +kernel, by decide +kernel⟩, by decide⟩, im_yX3_readSteps, se_yX3_readSteps⟩
theorem ml_RX3_164 : a_mv RX3 164 yX2_failed cX2_failed 1 (some .boolean) 0 := ⟨⟨Or.inl (ws_t 847 (by decide +kernel) rfl), in_RX2, co_yX2_failed, ⟨by decide +kernel, by decide +kernel, by decide +kernel⟩, by decide⟩, im_yX2_failed, se_yX2_failed⟩
theorem ml_RX3_171 : a_mv RX3 171 yX3_countWord cX3_countWord 2 none 1 := ⟨⟨Or.inl (ws_t 848 (by decide +kernel) rfl), in_RX3, co_yX3_countWord, ⟨by decide +kernel, by decide +kernel, by decide +kernel⟩, by decide⟩, im_yX3_countWord, se_yX3_countWord⟩
theorem ml_RX3_198 : a_mv RX3 198 yX5_hasChannels cX5_hasChannels 2 (some .boolean) 0 := ⟨⟨Or.inl (ws_t 852 (by decide +kernel) rfl), in_RX5, co_yX5_hasChannels, ⟨by decide +kernel, by decide +kernel, by decide +kernel⟩, by decide⟩, im_yX5_hasChannels, se_yX5_hasChannels⟩
theorem ml_RX3_174 : a_mv RX3 174 yX3_readIf cX3_readIf 4 (some .int) 1 := ⟨⟨Or.inl (ws_t 856 (by decide +kernel) rfl), in_RX3, co_yX3_readIf, ⟨by decide +kernel, by decide +kernel, by decide +kernel⟩, by decide⟩, im_yX3_readIf, se_yX3_readIf⟩
theorem ml_RX3_201 : a_mv RX3 201 yX0_addNode cX0_addNode 2 (some .int) 1 := ⟨⟨Or.inl (ws_t 860 (by decide +kernel) rfl), in_RX0, co_yX0_addNode, ⟨by decide +kernel, by decide +kernel, by decide +kernel⟩, by decide⟩, im_yX0_addNode, se_yX0_addNode⟩
theorem ml_RX0_96 : a_mv RX0 96 yX4_add cX4_add 2 (some .int) 1 := ⟨⟨Or.inl (ws_t 864 (by decide +kernel) rfl), in_RX4, co_yX4_add, ⟨by decide +kernel, by decide +kernel, by decide +kernel⟩, by decide⟩, im_yX4_add, se_yX4_add⟩
theorem ml_RX3_204 : a_mv RX3 204 yX3_refuseOpen cX3_refuseOpen 2 none 1 := ⟨⟨Or.inl (ws_t 865 (by decide +kernel) rfl), in_RX3, co_yX3_refuseOpen, ⟨by decide +kernel, by decide +kernel, by decide +kernel⟩, by decide⟩, im_yX3_refuseOpen, se_yX3_refuseOpen⟩
theorem ml_RX3_207 : a_mv RX3 207 yX2_advance cX2_advance 1 none 0 := ⟨⟨Or.inl (ws_t 869 (by decide +kernel) rfl), in_RX2, co_yX2_advance, ⟨by decide +kernel, by decide +kernel, by decide +kernel⟩, by decide⟩, im_yX2_advance, se_yX2_advance⟩
theorem ml_RX3_213 : a_mv RX3 213 yX7_readSum cX7_readSum 8 (some .int) 2 := ⟨⟨Or.inr ⟨"TalkHouse", nw_t 870 (by decide +kernel) rfl⟩, in_RX7, co_yX7_readSum, ⟨by decide +kernel, by decide +kernel, by decide +kernel⟩, by decide⟩, im_yX7_readSum, se_yX7_readSum⟩
theorem ml_RX7_23 : a_mv RX7 23 yX7_readUnit cX7_readUnit 4 (some .int) 1 := ⟨⟨Or.inl (ws_t 874 (by decide +kernel) rfl), in_RX7, co_yX7_readUnit, ⟨by decide +kernel, by decide +kernel, by decide +kernel⟩, by decide⟩, im_yX7_readUnit, se_yX7_readUnit⟩
theorem ml_RX7_57 : a_mv RX7 57 yX5_find cX5_find 3 (some .int) 1 := ⟨⟨Or.inl (ws_t 878 (by decide +kernel) rfl), in_RX5, co_yX5_find, ⟨by decide +kernel, by decide +kernel, by decide +kernel⟩, by decide⟩, im_yX5_find, se_yX5_find⟩
theorem ml_RX7_62 : a_mv RX7 62 yX5_talkAt cX5_talkAt 2 (some .int) 1 := ⟨⟨Or.inl (ws_t 879 (by decide +kernel) rfl), in_RX5, co_yX5_talkAt, ⟨by decide +kernel, by decide +kernel, by decide +kernel⟩, by decide⟩, im_yX5_talkAt, se_yX5_talkAt⟩
theorem ml_RX7_68 : a_mv RX7 68 yX2_refuse cX2_refuse 3 none 2 := ⟨⟨Or.inl (ws_t 883 (by decide +kernel) rfl), in_RX2, co_yX2_refuse, ⟨by decide +kernel, by decide +kernel, by decide +kernel⟩, by decide⟩, im_yX2_refuse, se_yX2_refuse⟩
theorem ml_RX7_41 : a_mv RX7 41 yX2_advance cX2_advance 1 none 0 := ⟨⟨Or.inl (ws_t 884 (by decide +kernel) rfl), in_RX2, co_yX2_advance, ⟨by decide +kernel, by decide +kernel, by decide +kernel⟩, by decide⟩, im_yX2_advance, se_yX2_advance⟩
theorem ml_RX7_72 : a_mv RX7 72 yX8_addLeaf cX8_addLeaf 3 (some .int) 2 := ⟨⟨Or.inl (ws_t 885 (by decide +kernel) rfl), in_RX8, co_yX8_addLeaf, ⟨by decide +kernel, by decide +kernel, by decide +kernel⟩, by decide⟩, im_yX8_addLeaf, se_yX8_addLeaf⟩
theorem ml_RX8_35 : a_mv RX8 35 yX4_size cX4_size 1 (some .int) 0 := ⟨⟨Or.inl (ws_t 889 (by decide +kernel) rfl), in_RX4, co_yX4_size, ⟨by decide +kernel, by decide +kernel, by decide +kernel⟩, by decide⟩, im_yX4_size, se_yX4_size⟩
theorem ml_RX8_39 : a_mv RX8 39 yX4_add cX4_add 2 (some .int) 1 := ⟨⟨Or.inl (ws_t 890 (by decide +kernel) rfl), in_RX4, co_yX4_add, ⟨by decide +kernel, by decide +kernel, by decide +kernel⟩, by decide⟩, im_yX4_add, se_yX4_add⟩
theorem ml_RX7_44 : a_mv RX7 44 yX2_failed cX2_failed 1 (some .boolean) 0 := ⟨⟨Or.inl (ws_t 891 (by decide +kernel) rfl), in_RX2, co_yX2_failed, ⟨by decide +kernel, by decide +kernel, by decide +kernel⟩, by decide⟩, im_yX2_failed, se_yX2_failed⟩
theorem ml_RX7_48 : a_mv RX7 48 yX8_addNode cX8_addNode 4 (some .int) 3 := ⟨⟨Or.inl (ws_t 892 (by decide +kernel) rfl), in_RX8, co_yX8_addNode, ⟨by decide +kernel, by decide +kernel, by decide +kernel⟩, by decide⟩, im_yX8_addNode, se_yX8_addNode⟩
theorem ml_RX8_43 : a_mv RX8 43 yX4_at cX4_at 2 (some .int) 1 := ⟨⟨Or.inl (ws_t 896 (by decide +kernel) rfl), in_RX4, co_yX4_at, ⟨by decide +kernel, by decide +kernel, by decide +kernel⟩, by decide⟩, im_yX4_at, se_yX4_at⟩
theorem ml_RX7_27 : a_mv RX7 27 yX7_readSum cX7_readSum 8 (some .int) 2 := ⟨⟨Or.inl (ws_t 897 (by decide +kernel) rfl), in_RX7, co_yX7_readSum, ⟨by decide +kernel, by decide +kernel, by decide +kernel⟩, by decide⟩, im_yX7_readSum, se_yX7_readSum⟩
theorem ml_RX7_75 : a_mv RX7 75 yX2_want cX2_want 2 none 1 := ⟨⟨Or.inl (ws_t 898 (by decide +kernel) rfl), in_RX2, co_yX2_want, ⟨by decide +kernel, by decide +kernel, by decide +kernel⟩, by decide⟩, im_yX2_want, se_yX2_want⟩
theorem ml_RX7_37 : a_ms RX7 37 yX7_joins cX7_joins 2 (some .boolean) 2 := ⟨⟨Or.inl (ws_t 899 (by decide +kernel) rfl), in_RX7, co_yX7_joins, ⟨by decide +kernel, by decide +kernel, by decide +kernel⟩, by decide⟩, sm_yX7_joins⟩
theorem ml_RX3_216 : a_mv RX3 216 yX3_readBraced cX3_readBraced 3 (some .int) 1 := ⟨⟨Or.inl (ws_t 902 (by decide +kernel) rfl), in_RX3, co_yX3_readBraced, ⟨by decide +kernel, by decide +kernel, by decide +kernel⟩, by decide⟩, im_yX3_readBraced, se_yX3_readBraced⟩
theorem ml_RX3_227 : a_mv RX3 227 yX5_enter cX5_enter 4 none 0 := ⟨⟨Or.inl (ws_t 906 (by decide +kernel) rfl), in_RX5, co_yX5_enter, ⟨by decide +kernel, by decide +kernel, by decide +kernel⟩, by decide⟩, im_yX5_enter, se_yX5_enter⟩
theorem ml_RX3_230 : a_mv RX3 230 yX5_leave cX5_leave 1 none 0 := ⟨⟨Or.inl (ws_t 910 (by decide +kernel) rfl), in_RX5, co_yX5_leave, ⟨by decide +kernel, by decide +kernel, by decide +kernel⟩, by decide⟩, im_yX5_leave, se_yX5_leave⟩
theorem ml_RX5_45 : a_ms RX5 45 yJ9_max_7cf53 cJ9_max_7cf53 2 (some .int) 2 := ⟨⟨Or.inl (ws_t 914 (by decide +kernel) rfl), in_RJ9, co_yJ9_max_7cf53, ⟨by decide +kernel, by decide +kernel, by decide +kernel⟩, by decide⟩, sm_yJ9_max_7cf53⟩
theorem ml_RX3_222 : a_ms RX3 222 yJ9_min_7cf53 cJ9_min_7cf53 2 (some .int) 2 := ⟨⟨Or.inl (ws_t 915 (by decide +kernel) rfl), in_RJ9, co_yJ9_min_7cf53, ⟨by decide +kernel, by decide +kernel, by decide +kernel⟩, by decide⟩, sm_yJ9_min_7cf53⟩
theorem ml_RX3_177 : a_mv RX3 177 yX3_readCase cX3_readCase 9 (some .int) 1 := ⟨⟨Or.inl (ws_t 916 (by decide +kernel) rfl), in_RX3, co_yX3_readCase, ⟨by decide +kernel, by decide +kernel, by decide +kernel⟩, by decide⟩, im_yX3_readCase, se_yX3_readCase⟩
theorem ml_RX3_233 : a_mv RX3 233 yX3_readChannel cX3_readChannel 5 (some .int) 1 := ⟨⟨Or.inl (ws_t 920 (by decide +kernel) rfl), in_RX3, co_yX3_readChannel, ⟨by decide +kernel, by decide +kernel, by decide +kernel⟩, by decide⟩, im_yX3_readChannel, se_yX3_readChannel⟩
theorem ml_RX3_236 : a_mv RX3 236 yX5_talkAt cX5_talkAt 2 (some .int) 1 := ⟨⟨Or.inl (ws_t 924 (by decide +kernel) rfl), in_RX5, co_yX5_talkAt, ⟨by decide +kernel, by decide +kernel, by decide +kernel⟩, by decide⟩, im_yX5_talkAt, se_yX5_talkAt⟩
theorem ml_RX3_257 : a_mv RX3 257 yX4_at cX4_at 2 (some .int) 1 := ⟨⟨Or.inl (ws_t 925 (by decide +kernel) rfl), in_RX4, co_yX4_at, ⟨by decide +kernel, by decide +kernel, by decide +kernel⟩, by decide⟩, im_yX4_at, se_yX4_at⟩
theorem ml_RX3_275 : a_ms RX3 275 yX3_talkFor cX3_talkFor 2 (some .int) 2 := ⟨⟨Or.inl (ws_t 926 (by decide +kernel) rfl), in_RX3, co_yX3_talkFor, ⟨by decide +kernel, by decide +kernel, by decide +kernel⟩, by decide⟩, sm_yX3_talkFor⟩
theorem ml_RX3_243 : a_mv RX3 243 yX10_branches cX10_branches 2 (some .int) 1 := ⟨⟨Or.inl (ws_t 929 (by decide +kernel) rfl), in_RX10, co_yX10_branches, ⟨by decide +kernel, by decide +kernel, by decide +kernel⟩, by decide⟩, im_yX10_branches, se_yX10_branches⟩
theorem ml_RX10_63 : a_ms RX10 63 yX10_isChoice cX10_isChoice 1 (some .boolean) 1 := ⟨⟨Or.inl (ws_t 933 (by decide +kernel) rfl), in_RX10, co_yX10_isChoice, ⟨by decide +kernel, by decide +kernel, by decide +kernel⟩, by decide⟩, sm_yX10_isChoice⟩
theorem ml_RX3_251 : a_mv RX3 251 yX0_addAlternatives cX0_addAlternatives 4 (some .int) 1 := ⟨⟨Or.inl (ws_t 934 (by decide +kernel) rfl), in_RX0, co_yX0_addAlternatives, ⟨by decide +kernel, by decide +kernel, by decide +kernel⟩, by decide⟩, im_yX0_addAlternatives, se_yX0_addAlternatives⟩
theorem ml_RX0_84 : a_mv RX0 84 yX4_size cX4_size 1 (some .int) 0 := ⟨⟨Or.inl (ws_t 938 (by decide +kernel) rfl), in_RX4, co_yX4_size, ⟨by decide +kernel, by decide +kernel, by decide +kernel⟩, by decide⟩, im_yX4_size, se_yX4_size⟩
theorem ml_RX0_99 : a_mv RX0 99 yX10_branches cX10_branches 2 (some .int) 1 := ⟨⟨Or.inl (ws_t 939 (by decide +kernel) rfl), in_RX10, co_yX10_branches, ⟨by decide +kernel, by decide +kernel, by decide +kernel⟩, by decide⟩, im_yX10_branches, se_yX10_branches⟩
theorem ml_RX0_102 : a_mv RX0 102 yX10_branchName cX10_branchName 3 (some .int) 2 := ⟨⟨Or.inl (ws_t 940 (by decide +kernel) rfl), in_RX10, co_yX10_branchName, ⟨by decide +kernel, by decide +kernel, by decide +kernel⟩, by decide⟩, im_yX10_branchName, se_yX10_branchName⟩
theorem ml_RX3_254 : a_mv RX3 254 yX3_readAlternative cX3_readAlternative 9 (some .int) 2 := ⟨⟨Or.inl (ws_t 944 (by decide +kernel) rfl), in_RX3, co_yX3_readAlternative, ⟨by decide +kernel, by decide +kernel, by decide +kernel⟩, by decide⟩, im_yX3_readAlternative, se_yX3_readAlternative⟩
theorem ml_RX3_260 : a_mv RX3 260 yX10_findBranch cX10_findBranch 4 (some .int) 2 := ⟨⟨Or.inl (ws_t 948 (by decide +kernel) rfl), in_RX10, co_yX10_findBranch, ⟨by decide +kernel, by decide +kernel, by decide +kernel⟩, by decide⟩, im_yX10_findBranch, se_yX10_findBranch⟩
theorem ml_RX10_67 : a_mv RX10 67 yX10_branches cX10_branches 2 (some .int) 1 := ⟨⟨Or.inl (ws_t 952 (by decide +kernel) rfl), in_RX10, co_yX10_branches, ⟨by decide +kernel, by decide +kernel, by decide +kernel⟩, by decide⟩, im_yX10_branches, se_yX10_branches⟩
theorem ml_RX10_70 : a_mv RX10 70 yX10_branchName cX10_branchName 3 (some .int) 2 := ⟨⟨Or.inl (ws_t 953 (by decide +kernel) rfl), in_RX10, co_yX10_branchName, ⟨by decide +kernel, by decide +kernel, by decide +kernel⟩, by decide⟩, im_yX10_branchName, se_yX10_branchName⟩
theorem ml_RX3_266 : a_mv RX3 266 yX10_branchT cX10_branchT 3 (some .int) 2 := ⟨⟨Or.inl (ws_t 954 (by decide +kernel) rfl), in_RX10, co_yX10_branchT, ⟨by decide +kernel, by decide +kernel, by decide +kernel⟩, by decide⟩, im_yX10_branchT, se_yX10_branchT⟩
theorem ml_RX3_269 : a_mv RX3 269 yX5_setTalk cX5_setTalk 3 none 2 := ⟨⟨Or.inl (ws_t 958 (by decide +kernel) rfl), in_RX5, co_yX5_setTalk, ⟨by decide +kernel, by decide +kernel, by decide +kernel⟩, by decide⟩, im_yX5_setTalk, se_yX5_setTalk⟩
theorem ml_RX3_180 : a_mv RX3 180 yX3_readClose cX3_readClose 2 none 0 := ⟨⟨Or.inl (ws_t 962 (by decide +kernel) rfl), in_RX3, co_yX3_readClose, ⟨by decide +kernel, by decide +kernel, by decide +kernel⟩, by decide⟩, im_yX3_readClose, se_yX3_readClose⟩
theorem ml_RX3_183 : a_mv RX3 183 yX3_readGo cX3_readGo 5 none 1 := ⟨⟨Or.inl (ws_t 966 (by decide +kernel) rfl), in_RX3, co_yX3_readGo, ⟨by decide +kernel, by decide +kernel, by decide +kernel⟩, by decide⟩, im_yX3_readGo, se_yX3_readGo⟩
theorem ml_RX3_294 : a_mv RX3 294 yX3_readDefAhead cX3_readDefAhead 3 (some .int) 0 := ⟨⟨Or.inl (ws_t 970 (by decide +kernel) rfl), in_RX3, co_yX3_readDefAhead, ⟨by decide +kernel, by decide +kernel, by decide +kernel⟩, by decide⟩, im_yX3_readDefAhead, se_yX3_readDefAhead⟩
theorem ml_RX3_297 : a_mv RX3 297 yX3_readArgs cX3_readArgs 8 none 3 := ⟨⟨Or.inl (ws_t 974 (by decide +kernel) rfl), in_RX3, co_yX3_readArgs, ⟨by decide +kernel, by decide +kernel, by decide +kernel⟩, by decide⟩, im_yX3_readArgs, se_yX3_readArgs⟩
theorem ml_RX3_307 : a_mv RX3 307 yX0_paramT cX0_paramT 4 (some .int) 2 := ⟨⟨Or.inl (ws_t 978 (by decide +kernel) rfl), in_RX0, co_yX0_paramT, ⟨by decide +kernel, by decide +kernel, by decide +kernel⟩, by decide⟩, im_yX0_paramT, se_yX0_paramT⟩
theorem ml_RX0_88 : a_mv RX0 88 yX4_at cX4_at 2 (some .int) 1 := ⟨⟨Or.inl (ws_t 982 (by decide +kernel) rfl), in_RX4, co_yX4_at, ⟨by decide +kernel, by decide +kernel, by decide +kernel⟩, by decide⟩, im_yX4_at, se_yX4_at⟩
theorem ml_RX3_310 : a_mv RX3 310 yX3_readChannelArg cX3_readChannelArg 5 (some .int) 1 := ⟨⟨Or.inl (ws_t 983 (by decide +kernel) rfl), in_RX3, co_yX3_readChannelArg, ⟨by decide +kernel, by decide +kernel, by decide +kernel⟩, by decide⟩, im_yX3_readChannelArg, se_yX3_readChannelArg⟩
theorem ml_RX3_282 : a_mv RX3 282 yX5_drop cX5_drop 2 none 1 := ⟨⟨Or.inl (ws_t 987 (by decide +kernel) rfl), in_RX5, co_yX5_drop, ⟨by decide +kernel, by decide +kernel, by decide +kernel⟩, by decide⟩, im_yX5_drop, se_yX5_drop⟩
theorem ml_RX3_186 : a_mv RX3 186 yX3_readSame cX3_readSame 5 none 0 := ⟨⟨Or.inl (ws_t 991 (by decide +kernel) rfl), in_RX3, co_yX3_readSame, ⟨by decide +kernel, by decide +kernel, by decide +kernel⟩, by decide⟩, im_yX3_readSame, se_yX3_readSame⟩
theorem ml_RX3_300 : a_mv RX3 300 yX3_readJoined cX3_readJoined 4 (some .int) 1 := ⟨⟨Or.inl (ws_t 995 (by decide +kernel) rfl), in_RX3, co_yX3_readJoined, ⟨by decide +kernel, by decide +kernel, by decide +kernel⟩, by decide⟩, im_yX3_readJoined, se_yX3_readJoined⟩
theorem ml_RX3_189 : a_mv RX3 189 yX3_readNew cX3_readNew 5 none 1 := ⟨⟨Or.inl (ws_t 999 (by decide +kernel) rfl), in_RX3, co_yX3_readNew, ⟨by decide +kernel, by decide +kernel, by decide +kernel⟩, by decide⟩, im_yX3_readNew, se_yX3_readNew⟩
theorem ml_RX3_192 : a_mv RX3 192 yX3_readSay cX3_readSay 3 none 1 := ⟨⟨Or.inl (ws_t 1003 (by decide +kernel) rfl), in_RX3, co_yX3_readSay, ⟨by decide +kernel, by decide +kernel, by decide +kernel⟩, by decide⟩, im_yX3_readSay, se_yX3_readSay⟩
theorem ml_RX3_195 : a_mv RX3 195 yX3_readTalk cX3_readTalk 8 none 2 := ⟨⟨Or.inl (ws_t 1007 (by decide +kernel) rfl), in_RX3, co_yX3_readTalk, ⟨by decide +kernel, by decide +kernel, by decide +kernel⟩, by decide⟩, im_yX3_readTalk, se_yX3_readTalk⟩
theorem ml_RX3_288 : a_mv RX3 288 yX3_readSent cX3_readSent 5 (some .int) 1 := ⟨⟨Or.inl (ws_t 1011 (by decide +kernel) rfl), in_RX3, co_yX3_readSent, ⟨by decide +kernel, by decide +kernel, by decide +kernel⟩, by decide⟩, im_yX3_readSent, se_yX3_readSent⟩
theorem ml_RX3_291 : a_mv RX3 291 yX3_readPicked cX3_readPicked 6 (some .int) 2 := ⟨⟨Or.inl (ws_t 1015 (by decide +kernel) rfl), in_RX3, co_yX3_readPicked, ⟨by decide +kernel, by decide +kernel, by decide +kernel⟩, by decide⟩, im_yX3_readPicked, se_yX3_readPicked⟩
theorem ml_RX11_86 : a_mv RX11 86 yX2_is cX2_is 2 (some .boolean) 1 := ⟨⟨Or.inl (ws_t 1019 (by decide +kernel) rfl), in_RX2, co_yX2_is, ⟨by decide +kernel, by decide +kernel, by decide +kernel⟩, by decide⟩, im_yX2_is, se_yX2_is⟩
theorem ml_RX11_90 : a_mv RX11 90 yX3_judgeLast cX3_judgeLast 1 none 0 := ⟨⟨Or.inl (ws_t 1020 (by decide +kernel) rfl), in_RX3, co_yX3_judgeLast, ⟨by decide +kernel, by decide +kernel, by decide +kernel⟩, by decide⟩, im_yX3_judgeLast, se_yX3_judgeLast⟩
theorem ml_RX11_93 : a_mv RX11 93 yX11_takeSpare cX11_takeSpare 2 none 0 := ⟨⟨Or.inl (ws_t 1024 (by decide +kernel) rfl), in_RX11, co_yX11_takeSpare, ⟨by decide +kernel, by decide +kernel, by decide +kernel⟩, by decide⟩, im_yX11_takeSpare, se_yX11_takeSpare⟩
theorem ml_RX11_103 : a_mv RX11 103 yX6_start cX6_start 2 none 1 := ⟨⟨Or.inl (ws_t 1028 (by decide +kernel) rfl), in_RX6, co_yX6_start, ⟨by decide +kernel, by decide +kernel, by decide +kernel⟩, by decide⟩, im_yX6_start, se_yX6_start⟩
theorem ml_RX6_64 : a_mv RX6 64 yX1_clear cX1_clear 1 none 0 := ⟨⟨Or.inl (ws_t 1032 (by decide +kernel) rfl), in_RX1, co_yX1_clear, ⟨by decide +kernel, by decide +kernel, by decide +kernel⟩, by decide⟩, im_yX1_clear, se_yX1_clear⟩
theorem ml_RX1_38 : a_mv RX1 38 yX4_clear cX4_clear 1 none 0 := ⟨⟨Or.inl (ws_t 1036 (by decide +kernel) rfl), in_RX4, co_yX4_clear, ⟨by decide +kernel, by decide +kernel, by decide +kernel⟩, by decide⟩, im_yX4_clear, se_yX4_clear⟩
theorem ml_RX6_67 : a_mv RX6 67 yX4_clear cX4_clear 1 none 0 := ⟨⟨Or.inl (ws_t 1037 (by decide +kernel) rfl), in_RX4, co_yX4_clear, ⟨by decide +kernel, by decide +kernel, by decide +kernel⟩, by decide⟩, im_yX4_clear, se_yX4_clear⟩
theorem ml_RX6_79 : a_mv RX6 79 yX6_addProcess cX6_addProcess 2 (some .int) 0 := ⟨⟨Or.inl (ws_t 1038 (by decide +kernel) rfl), in_RX6, co_yX6_addProcess, ⟨by decide +kernel, by decide +kernel, by decide +kernel⟩, by decide⟩, im_yX6_addProcess, se_yX6_addProcess⟩
theorem ml_RX6_118 : a_mv RX6 118 yX4_add cX4_add 2 (some .int) 1 := ⟨⟨Or.inl (ws_t 1042 (by decide +kernel) rfl), in_RX4, co_yX4_add, ⟨by decide +kernel, by decide +kernel, by decide +kernel⟩, by decide⟩, im_yX4_add, se_yX4_add⟩
theorem ml_RX6_121 : a_mv RX6 121 yX1_open cX1_open 2 (some .int) 0 := ⟨⟨Or.inl (ws_t 1043 (by decide +kernel) rfl), in_RX1, co_yX1_open, ⟨by decide +kernel, by decide +kernel, by decide +kernel⟩, by decide⟩, im_yX1_open, se_yX1_open⟩
theorem ml_RX1_45 : a_mv RX1 45 yX4_add cX4_add 2 (some .int) 1 := ⟨⟨Or.inl (ws_t 1047 (by decide +kernel) rfl), in_RX4, co_yX4_add, ⟨by decide +kernel, by decide +kernel, by decide +kernel⟩, by decide⟩, im_yX4_add, se_yX4_add⟩
theorem ml_RX6_124 : a_mv RX6 124 yX6_setSlot cX6_setSlot 4 none 3 := ⟨⟨Or.inl (ws_t 1048 (by decide +kernel) rfl), in_RX6, co_yX6_setSlot, ⟨by decide +kernel, by decide +kernel, by decide +kernel⟩, by decide⟩, im_yX6_setSlot, se_yX6_setSlot⟩
theorem ml_RX6_115 : a_mv RX6 115 yX4_put cX4_put 3 none 2 := ⟨⟨Or.inl (ws_t 1052 (by decide +kernel) rfl), in_RX4, co_yX4_put, ⟨by decide +kernel, by decide +kernel, by decide +kernel⟩, by decide⟩, im_yX4_put, se_yX4_put⟩
theorem ml_RX6_88 : a_mv RX6 88 yX4_size cX4_size 1 (some .int) 0 := ⟨⟨Or.inl (ws_t 1053 (by decide +kernel) rfl), in_RX4, co_yX4_size, ⟨by decide +kernel, by decide +kernel, by decide +kernel⟩, by decide⟩, im_yX4_size, se_yX4_size⟩
theorem ml_RX6_91 : a_mv RX6 91 yX6_goOn cX6_goOn 4 none 2 := ⟨⟨Or.inl (ws_t 1054 (by decide +kernel) rfl), in_RX6, co_yX6_goOn, ⟨by decide +kernel, by decide +kernel, by decide +kernel⟩, by decide⟩, im_yX6_goOn, se_yX6_goOn⟩
theorem ml_RX6_104 : a_mv RX6 104 yX4_at cX4_at 2 (some .int) 1 := ⟨⟨Or.inl (ws_t 1058 (by decide +kernel) rfl), in_RX4, co_yX4_at, ⟨by decide +kernel, by decide +kernel, by decide +kernel⟩, by decide⟩, im_yX4_at, se_yX4_at⟩
theorem ml_RX6_131 : a_mv RX6 131 yX0_channelParams cX0_channelParams 4 (some .int) 1 := ⟨⟨Or.inl (ws_t 1059 (by decide +kernel) rfl), in_RX0, co_yX0_channelParams, ⟨by decide +kernel, by decide +kernel, by decide +kernel⟩, by decide⟩, im_yX0_channelParams, se_yX0_channelParams⟩
theorem ml_RX0_92 : a_mv RX0 92 yX0_paramT cX0_paramT 4 (some .int) 2 := ⟨⟨Or.inl (ws_t 1063 (by decide +kernel) rfl), in_RX0, co_yX0_paramT, ⟨by decide +kernel, by decide +kernel, by decide +kernel⟩, by decide⟩, im_yX0_paramT, se_yX0_paramT⟩
theorem ml_RX6_95 : a_mv RX6 95 yX6_settle cX6_settle 5 none 1 := ⟨⟨Or.inl (ws_t 1064 (by decide +kernel) rfl), in_RX6, co_yX6_settle, ⟨by decide +kernel, by decide +kernel, by decide +kernel⟩, by decide⟩, im_yX6_settle, se_yX6_settle⟩
theorem ml_RX6_140 : a_mv RX6 140 yX6_numberOf cX6_numberOf 3 (some .int) 2 := ⟨⟨Or.inl (ws_t 1068 (by decide +kernel) rfl), in_RX6, co_yX6_numberOf, ⟨by decide +kernel, by decide +kernel, by decide +kernel⟩, by decide⟩, im_yX6_numberOf, se_yX6_numberOf⟩
theorem ml_RX6_150 : a_mv RX6 150 yX8_evaluate cX8_evaluate 5 (some .int) 3 := ⟨⟨Or.inl (ws_t 1072 (by decide +kernel) rfl), in_RX8, co_yX8_evaluate, ⟨by decide +kernel, by decide +kernel, by decide +kernel⟩, by decide⟩, im_yX8_evaluate, se_yX8_evaluate⟩
theorem ml_RX8_46 : a_mv RX8 46 yX8_valueOf cX8_valueOf 7 (some .int) 3 := ⟨⟨Or.inl (ws_t 1076 (by decide +kernel) rfl), in_RX8, co_yX8_valueOf, ⟨by decide +kernel, by decide +kernel, by decide +kernel⟩, by decide⟩, im_yX8_valueOf, se_yX8_valueOf⟩
theorem ml_RX8_50 : a_mv RX8 50 yX4_put cX4_put 3 none 2 := ⟨⟨Or.inl (ws_t 1080 (by decide +kernel) rfl), in_RX4, co_yX4_put, ⟨by decide +kernel, by decide +kernel, by decide +kernel⟩, by decide⟩, im_yX4_put, se_yX4_put⟩
theorem ml_RX6_98 : a_mv RX6 98 yX6_findReady cX6_findReady 2 none 0 := ⟨⟨Or.inl (ws_t 1081 (by decide +kernel) rfl), in_RX6, co_yX6_findReady, ⟨by decide +kernel, by decide +kernel, by decide +kernel⟩, by decide⟩, im_yX6_findReady, se_yX6_findReady⟩
theorem ml_RX6_101 : a_mv RX6 101 yX6_made cX6_made 1 (some .int) 0 := ⟨⟨Or.inl (ws_t 1085 (by decide +kernel) rfl), in_RX6, co_yX6_made, ⟨by decide +kernel, by decide +kernel, by decide +kernel⟩, by decide⟩, im_yX6_made, se_yX6_made⟩
theorem ml_RX6_167 : a_mv RX6 167 yX6_isWaiting cX6_isWaiting 5 (some .boolean) 1 := ⟨⟨Or.inl (ws_t 1089 (by decide +kernel) rfl), in_RX6, co_yX6_isWaiting, ⟨by decide +kernel, by decide +kernel, by decide +kernel⟩, by decide⟩, im_yX6_isWaiting, se_yX6_isWaiting⟩
theorem ml_RX6_156 : a_mv RX6 156 yX6_talkedOver cX6_talkedOver 3 (some .int) 2 := ⟨⟨Or.inl (ws_t 1093 (by decide +kernel) rfl), in_RX6, co_yX6_talkedOver, ⟨by decide +kernel, by decide +kernel, by decide +kernel⟩, by decide⟩, im_yX6_talkedOver, se_yX6_talkedOver⟩
theorem ml_RX6_108 : a_mv RX6 108 yX6_slotOf cX6_slotOf 3 (some .int) 2 := ⟨⟨Or.inl (ws_t 1097 (by decide +kernel) rfl), in_RX6, co_yX6_slotOf, ⟨by decide +kernel, by decide +kernel, by decide +kernel⟩, by decide⟩, im_yX6_slotOf, se_yX6_slotOf⟩
theorem ml_RX6_112 : a_mv RX6 112 yX1_follow cX1_follow 4 (some .int) 1 := ⟨⟨Or.inl (ws_t 1101 (by decide +kernel) rfl), in_RX1, co_yX1_follow, ⟨by decide +kernel, by decide +kernel, by decide +kernel⟩, by decide⟩, im_yX1_follow, se_yX1_follow⟩
theorem ml_RX1_49 : a_mv RX1 49 yX4_at cX4_at 2 (some .int) 1 := ⟨⟨Or.inl (ws_t 1105 (by decide +kernel) rfl), in_RX4, co_yX4_at, ⟨by decide +kernel, by decide +kernel, by decide +kernel⟩, by decide⟩, im_yX4_at, se_yX4_at⟩
theorem ml_RX6_159 : a_mv RX6 159 yX6_sideTaken cX6_sideTaken 2 (some .int) 1 := ⟨⟨Or.inl (ws_t 1106 (by decide +kernel) rfl), in_RX6, co_yX6_sideTaken, ⟨by decide +kernel, by decide +kernel, by decide +kernel⟩, by decide⟩, im_yX6_sideTaken, se_yX6_sideTaken⟩
theorem ml_RX6_162 : a_mv RX6 162 yX1_count cX1_count 3 (some .int) 2 := ⟨⟨Or.inl (ws_t 1110 (by decide +kernel) rfl), in_RX1, co_yX1_count, ⟨by decide +kernel, by decide +kernel, by decide +kernel⟩, by decide⟩, im_yX1_count, se_yX1_count⟩
theorem ml_RL_28 : a_mv RL 28 yX11_fault cX11_fault 2 (some .int) 1 := ⟨⟨Or.inl (ws_t 1114 (by decide +kernel) rfl), in_RX11, co_yX11_fault, ⟨by decide +kernel, by decide +kernel, by decide +kernel⟩, by decide⟩, im_yX11_fault, se_yX11_fault⟩
theorem ml_RL_33 : a_mv RL 33 yX11_look cX11_look 2 (some .int) 1 := ⟨⟨Or.inl (ws_t 1118 (by decide +kernel) rfl), in_RX11, co_yX11_look, ⟨by decide +kernel, by decide +kernel, by decide +kernel⟩, by decide⟩, im_yX11_look, se_yX11_look⟩
theorem ml_RX11_115 : a_mv RX11 115 yX6_made cX6_made 1 (some .int) 0 := ⟨⟨Or.inl (ws_t 1122 (by decide +kernel) rfl), in_RX6, co_yX6_made, ⟨by decide +kernel, by decide +kernel, by decide +kernel⟩, by decide⟩, im_yX6_made, se_yX6_made⟩
theorem ml_RX11_118 : a_mv RX11 118 yX6_alive cX6_alive 3 (some .int) 0 := ⟨⟨Or.inl (ws_t 1123 (by decide +kernel) rfl), in_RX6, co_yX6_alive, ⟨by decide +kernel, by decide +kernel, by decide +kernel⟩, by decide⟩, im_yX6_alive, se_yX6_alive⟩
theorem ml_RX11_125 : a_mv RX11 125 yX1_made cX1_made 1 (some .int) 0 := ⟨⟨Or.inl (ws_t 1127 (by decide +kernel) rfl), in_RX1, co_yX1_made, ⟨by decide +kernel, by decide +kernel, by decide +kernel⟩, by decide⟩, im_yX1_made, se_yX1_made⟩
theorem ml_RX1_41 : a_mv RX1 41 yX4_size cX4_size 1 (some .int) 0 := ⟨⟨Or.inl (ws_t 1131 (by decide +kernel) rfl), in_RX4, co_yX4_size, ⟨by decide +kernel, by decide +kernel, by decide +kernel⟩, by decide⟩, im_yX4_size, se_yX4_size⟩
theorem ml_RL_37 : a_mv RL 37 yX11_def cX11_def 3 (some .int) 2 := ⟨⟨Or.inl (ws_t 1132 (by decide +kernel) rfl), in_RX11, co_yX11_def, ⟨by decide +kernel, by decide +kernel, by decide +kernel⟩, by decide⟩, im_yX11_def, se_yX11_def⟩
theorem ml_RX11_140 : a_mv RX11 140 yX4_at cX4_at 2 (some .int) 1 := ⟨⟨Or.inl (ws_t 1136 (by decide +kernel) rfl), in_RX4, co_yX4_at, ⟨by decide +kernel, by decide +kernel, by decide +kernel⟩, by decide⟩, im_yX4_at, se_yX4_at⟩
theorem ml_RX11_144 : a_mv RX11 144 yX0_isDef cX0_isDef 2 (some .boolean) 1 := ⟨⟨Or.inl (ws_t 1137 (by decide +kernel) rfl), in_RX0, co_yX0_isDef, ⟨by decide +kernel, by decide +kernel, by decide +kernel⟩, by decide⟩, im_yX0_isDef, se_yX0_isDef⟩
theorem ml_RX11_147 : a_mv RX11 147 yX0_channelParams cX0_channelParams 4 (some .int) 1 := ⟨⟨Or.inl (ws_t 1141 (by decide +kernel) rfl), in_RX0, co_yX0_channelParams, ⟨by decide +kernel, by decide +kernel, by decide +kernel⟩, by decide⟩, im_yX0_channelParams, se_yX0_channelParams⟩
theorem ml_RL_42 : a_mv RL 42 yX11_print cX11_print 4 (some .int) 2 := ⟨⟨Or.inl (ws_t 1142 (by decide +kernel) rfl), in_RX11, co_yX11_print, ⟨by decide +kernel, by decide +kernel, by decide +kernel⟩, by decide⟩, im_yX11_print, se_yX11_print⟩
theorem ml_RX11_156 : a_mv RX11 156 yX11_talkOf cX11_talkOf 3 (some .int) 2 := ⟨⟨Or.inl (ws_t 1146 (by decide +kernel) rfl), in_RX11, co_yX11_talkOf, ⟨by decide +kernel, by decide +kernel, by decide +kernel⟩, by decide⟩, im_yX11_talkOf, se_yX11_talkOf⟩
theorem ml_RX11_173 : a_mv RX11 173 yX0_paramT cX0_paramT 4 (some .int) 2 := ⟨⟨Or.inl (ws_t 1150 (by decide +kernel) rfl), in_RX0, co_yX0_paramT, ⟨by decide +kernel, by decide +kernel, by decide +kernel⟩, by decide⟩, im_yX0_paramT, se_yX0_paramT⟩
theorem ml_RX11_164 : a_mv RX11 164 yX10_write cX10_write 6 none 2 := ⟨⟨Or.inl (ws_t 1151 (by decide +kernel) rfl), in_RX10, co_yX10_write, ⟨by decide +kernel, by decide +kernel, by decide +kernel⟩, by decide⟩, im_yX10_write, se_yX10_write⟩
theorem ml_RX10_74 : a_mv RX10 74 yX10_writeAhead cX10_writeAhead 5 (some .int) 3 := ⟨⟨Or.inl (ws_t 1155 (by decide +kernel) rfl), in_RX10, co_yX10_writeAhead, ⟨by decide +kernel, by decide +kernel, by decide +kernel⟩, by decide⟩, im_yX10_writeAhead, se_yX10_writeAhead⟩
theorem ml_RX10_85 : a_mv RX10 85 yX10_writeBranch cX10_writeBranch 6 (some .int) 3 := ⟨⟨Or.inl (ws_t 1159 (by decide +kernel) rfl), in_RX10, co_yX10_writeBranch, ⟨by decide +kernel, by decide +kernel, by decide +kernel⟩, by decide⟩, im_yX10_writeBranch, se_yX10_writeBranch⟩
theorem ml_RX10_90 : a_mv RX10 90 yX4_addText cX4_addText 3 none 1 := ⟨⟨Or.inl (ws_t 1164 (by decide +kernel) rfl), in_RX4, co_yX4_addText, ⟨by decide +kernel, by decide +kernel, by decide +kernel⟩, by decide⟩, im_yX4_addText, se_yX4_addText⟩
theorem ml_RX4_29 : a_mv RX4 29 yJ0_length_8abf5 cJ0_length_8abf5 1 (some .int) 0 := ⟨⟨Or.inl (ws_t 1168 (by decide +kernel) rfl), in_RJ0, co_yJ0_length_8abf5, ⟨by decide +kernel, by decide +kernel, by decide +kernel⟩, by decide⟩, im_yJ0_length_8abf5, se_yJ0_length_8abf5⟩
theorem ml_RX4_35 : a_mv RX4 35 yJ0_charAt_5068e cJ0_charAt_5068e 2 (some .char) 1 := ⟨⟨Or.inl (ws_t 1169 (by decide +kernel) rfl), in_RJ0, co_yJ0_charAt_5068e, ⟨by decide +kernel, by decide +kernel, by decide +kernel⟩, by decide⟩, im_yJ0_charAt_5068e, se_yJ0_charAt_5068e⟩
theorem ml_RX10_102 : a_ms RX10 102 yX11_lettersIn cX11_lettersIn 3 (some .int) 1 := ⟨⟨Or.inr ⟨"TalkHouse", nw_t 1172 (by decide +kernel) rfl⟩, in_RX11, co_yX11_lettersIn, ⟨by decide +kernel, by decide +kernel, by decide +kernel⟩, by decide⟩, sm_yX11_lettersIn⟩
theorem ml_RX11_222 : a_ms RX11 222 yX11_letterOf cX11_letterOf 3 (some .int) 2 := ⟨⟨Or.inl (ws_t 1175 (by decide +kernel) rfl), in_RX11, co_yX11_letterOf, ⟨by decide +kernel, by decide +kernel, by decide +kernel⟩, by decide⟩, sm_yX11_letterOf⟩
theorem ml_RX10_105 : a_ms RX10 105 yX11_letterOf cX11_letterOf 3 (some .int) 2 := ⟨⟨Or.inr ⟨"TalkHouse", nw_t 1178 (by decide +kernel) rfl⟩, in_RX11, co_yX11_letterOf, ⟨by decide +kernel, by decide +kernel, by decide +kernel⟩, by decide⟩, sm_yX11_letterOf⟩
theorem ml_RX10_110 : a_mv RX10 110 yX10_branchT cX10_branchT 3 (some .int) 2 := ⟨⟨Or.inl (ws_t 1180 (by decide +kernel) rfl), in_RX10, co_yX10_branchT, ⟨by decide +kernel, by decide +kernel, by decide +kernel⟩, by decide⟩, im_yX10_branchT, se_yX10_branchT⟩
theorem ml_RX10_78 : a_mv RX10 78 yX4_bump cX4_bump 3 none 2 := ⟨⟨Or.inl (ws_t 1183 (by decide +kernel) rfl), in_RX4, co_yX4_bump, ⟨by decide +kernel, by decide +kernel, by decide +kernel⟩, by decide⟩, im_yX4_bump, se_yX4_bump⟩
theorem ml_RX10_82 : a_mv RX10 82 yX4_cut cX4_cut 2 none 1 := ⟨⟨Or.inl (ws_t 1184 (by decide +kernel) rfl), in_RX4, co_yX4_cut, ⟨by decide +kernel, by decide +kernel, by decide +kernel⟩, by decide⟩, im_yX4_cut, se_yX4_cut⟩
theorem ml_RL_46 : a_mv RL 46 yX11_same cX11_same 6 (some .boolean) 4 := ⟨⟨Or.inl (ws_t 1185 (by decide +kernel) rfl), in_RX11, co_yX11_same, ⟨by decide +kernel, by decide +kernel, by decide +kernel⟩, by decide⟩, im_yX11_same, se_yX11_same⟩
theorem ml_RL_51 : a_mv RL 51 yX11_out cX11_out 2 (some .int) 1 := ⟨⟨Or.inl (ws_t 1189 (by decide +kernel) rfl), in_RX11, co_yX11_out, ⟨by decide +kernel, by decide +kernel, by decide +kernel⟩, by decide⟩, im_yX11_out, se_yX11_out⟩
theorem ml_RL_55 : a_mv RL 55 yX11_begin cX11_begin 1 (some .boolean) 0 := ⟨⟨Or.inl (ws_t 1193 (by decide +kernel) rfl), in_RX11, co_yX11_begin, ⟨by decide +kernel, by decide +kernel, by decide +kernel⟩, by decide⟩, im_yX11_begin, se_yX11_begin⟩
theorem ml_RL_60 : a_mv RL 60 yX11_ready cX11_ready 1 (some .int) 0 := ⟨⟨Or.inl (ws_t 1197 (by decide +kernel) rfl), in_RX11, co_yX11_ready, ⟨by decide +kernel, by decide +kernel, by decide +kernel⟩, by decide⟩, im_yX11_ready, se_yX11_ready⟩
theorem ml_RL_64 : a_mv RL 64 yX11_which cX11_which 2 (some .int) 1 := ⟨⟨Or.inl (ws_t 1201 (by decide +kernel) rfl), in_RX11, co_yX11_which, ⟨by decide +kernel, by decide +kernel, by decide +kernel⟩, by decide⟩, im_yX11_which, se_yX11_which⟩
theorem ml_RL_68 : a_mv RL 68 yX11_step cX11_step 2 (some .int) 1 := ⟨⟨Or.inl (ws_t 1205 (by decide +kernel) rfl), in_RX11, co_yX11_step, ⟨by decide +kernel, by decide +kernel, by decide +kernel⟩, by decide⟩, im_yX11_step, se_yX11_step⟩
theorem ml_RX11_179 : a_mv RX11 179 yX6_advance cX6_advance 4 (some .int) 1 := ⟨⟨Or.inl (ws_t 1209 (by decide +kernel) rfl), in_RX6, co_yX6_advance, ⟨by decide +kernel, by decide +kernel, by decide +kernel⟩, by decide⟩, im_yX6_advance, se_yX6_advance⟩
theorem ml_RX6_171 : a_mv RX6 171 yX4_bump cX4_bump 3 none 2 := ⟨⟨Or.inl (ws_t 1213 (by decide +kernel) rfl), in_RX4, co_yX4_bump, ⟨by decide +kernel, by decide +kernel, by decide +kernel⟩, by decide⟩, im_yX4_bump, se_yX4_bump⟩
theorem ml_RX6_174 : a_mv RX6 174 yX6_doStep cX6_doStep 4 none 1 := ⟨⟨Or.inl (ws_t 1214 (by decide +kernel) rfl), in_RX6, co_yX6_doStep, ⟨by decide +kernel, by decide +kernel, by decide +kernel⟩, by decide⟩, im_yX6_doStep, se_yX6_doStep⟩
theorem ml_RX6_177 : a_mv RX6 177 yX6_lay cX6_lay 6 none 4 := ⟨⟨Or.inl (ws_t 1218 (by decide +kernel) rfl), in_RX6, co_yX6_lay, ⟨by decide +kernel, by decide +kernel, by decide +kernel⟩, by decide⟩, im_yX6_lay, se_yX6_lay⟩
theorem ml_RX6_199 : a_mv RX6 199 yX1_lay cX1_lay 7 none 4 := ⟨⟨Or.inl (ws_t 1222 (by decide +kernel) rfl), in_RX1, co_yX1_lay, ⟨by decide +kernel, by decide +kernel, by decide +kernel⟩, by decide⟩, im_yX1_lay, se_yX1_lay⟩
theorem ml_RX1_52 : a_mv RX1 52 yX4_put cX4_put 3 none 2 := ⟨⟨Or.inl (ws_t 1226 (by decide +kernel) rfl), in_RX4, co_yX4_put, ⟨by decide +kernel, by decide +kernel, by decide +kernel⟩, by decide⟩, im_yX4_put, se_yX4_put⟩
theorem ml_RX1_56 : a_mv RX1 56 yX4_bump cX4_bump 3 none 2 := ⟨⟨Or.inl (ws_t 1227 (by decide +kernel) rfl), in_RX4, co_yX4_bump, ⟨by decide +kernel, by decide +kernel, by decide +kernel⟩, by decide⟩, im_yX4_bump, se_yX4_bump⟩
theorem ml_RX6_181 : a_mv RX6 181 yX6_finish cX6_finish 2 none 1 := ⟨⟨Or.inl (ws_t 1228 (by decide +kernel) rfl), in_RX6, co_yX6_finish, ⟨by decide +kernel, by decide +kernel, by decide +kernel⟩, by decide⟩, im_yX6_finish, se_yX6_finish⟩
theorem ml_RX6_184 : a_mv RX6 184 yX6_gatherArgs cX6_gatherArgs 7 none 2 := ⟨⟨Or.inl (ws_t 1232 (by decide +kernel) rfl), in_RX6, co_yX6_gatherArgs, ⟨by decide +kernel, by decide +kernel, by decide +kernel⟩, by decide⟩, im_yX6_gatherArgs, se_yX6_gatherArgs⟩
theorem ml_RX6_212 : a_mv RX6 212 yX0_paramT cX0_paramT 4 (some .int) 2 := ⟨⟨Or.inl (ws_t 1236 (by decide +kernel) rfl), in_RX0, co_yX0_paramT, ⟨by decide +kernel, by decide +kernel, by decide +kernel⟩, by decide⟩, im_yX0_paramT, se_yX0_paramT⟩
theorem ml_RX6_187 : a_mv RX6 187 yX6_makeProcess cX6_makeProcess 5 none 2 := ⟨⟨Or.inl (ws_t 1237 (by decide +kernel) rfl), in_RX6, co_yX6_makeProcess, ⟨by decide +kernel, by decide +kernel, by decide +kernel⟩, by decide⟩, im_yX6_makeProcess, se_yX6_makeProcess⟩
theorem ml_RX6_190 : a_mv RX6 190 yX1_join cX1_join 3 none 2 := ⟨⟨Or.inl (ws_t 1241 (by decide +kernel) rfl), in_RX1, co_yX1_join, ⟨by decide +kernel, by decide +kernel, by decide +kernel⟩, by decide⟩, im_yX1_join, se_yX1_join⟩
theorem ml_RX1_66 : a_mv RX1 66 yX1_append cX1_append 3 none 2 := ⟨⟨Or.inl (ws_t 1245 (by decide +kernel) rfl), in_RX1, co_yX1_append, ⟨by decide +kernel, by decide +kernel, by decide +kernel⟩, by decide⟩, im_yX1_append, se_yX1_append⟩
theorem ml_RX6_193 : a_mv RX6 193 yX6_keepSaid cX6_keepSaid 3 none 2 := ⟨⟨Or.inl (ws_t 1249 (by decide +kernel) rfl), in_RX6, co_yX6_keepSaid, ⟨by decide +kernel, by decide +kernel, by decide +kernel⟩, by decide⟩, im_yX6_keepSaid, se_yX6_keepSaid⟩
theorem ml_RX6_196 : a_mv RX6 196 yX6_takeMessage cX6_takeMessage 4 none 2 := ⟨⟨Or.inl (ws_t 1253 (by decide +kernel) rfl), in_RX6, co_yX6_takeMessage, ⟨by decide +kernel, by decide +kernel, by decide +kernel⟩, by decide⟩, im_yX6_takeMessage, se_yX6_takeMessage⟩
theorem ml_RX6_200 : a_mv RX6 200 yX1_takeFirst cX1_takeFirst 5 (some .int) 2 := ⟨⟨Or.inl (ws_t 1257 (by decide +kernel) rfl), in_RX1, co_yX1_takeFirst, ⟨by decide +kernel, by decide +kernel, by decide +kernel⟩, by decide⟩, im_yX1_takeFirst, se_yX1_takeFirst⟩
theorem ml_RX6_203 : a_mv RX6 203 yX0_alternative cX0_alternative 5 (some .int) 2 := ⟨⟨Or.inl (ws_t 1261 (by decide +kernel) rfl), in_RX0, co_yX0_alternative, ⟨by decide +kernel, by decide +kernel, by decide +kernel⟩, by decide⟩, im_yX0_alternative, se_yX0_alternative⟩
theorem ml_RL_72 : a_mv RL 72 yX11_run cX11_run 7 (some .int) 2 := ⟨⟨Or.inl (ws_t 1265 (by decide +kernel) rfl), in_RX11, co_yX11_run, ⟨by decide +kernel, by decide +kernel, by decide +kernel⟩, by decide⟩, im_yX11_run, se_yX11_run⟩
theorem kc_RX11_182 : Cond.constant RX11 182 (1103515245) ∈ WS := ws_t 1269 (by decide +kernel) rfl
theorem ml_RL_76 : a_mv RL 76 yX11_process cX11_process 3 (some .int) 2 := ⟨⟨Or.inl (ws_t 1270 (by decide +kernel) rfl), in_RX11, co_yX11_process, ⟨by decide +kernel, by decide +kernel, by decide +kernel⟩, by decide⟩, im_yX11_process, se_yX11_process⟩
theorem ml_RX11_189 : a_mv RX11 189 yX6_isWaiting cX6_isWaiting 5 (some .boolean) 1 := ⟨⟨Or.inl (ws_t 1274 (by decide +kernel) rfl), in_RX6, co_yX6_isWaiting, ⟨by decide +kernel, by decide +kernel, by decide +kernel⟩, by decide⟩, im_yX6_isWaiting, se_yX6_isWaiting⟩
theorem ml_RX11_195 : a_mv RX11 195 yX6_givenBy cX6_givenBy 2 (some .int) 1 := ⟨⟨Or.inl (ws_t 1275 (by decide +kernel) rfl), in_RX6, co_yX6_givenBy, ⟨by decide +kernel, by decide +kernel, by decide +kernel⟩, by decide⟩, im_yX6_givenBy, se_yX6_givenBy⟩
theorem ml_RL_80 : a_mv RL 80 yX11_channel cX11_channel 4 (some .int) 2 := ⟨⟨Or.inl (ws_t 1279 (by decide +kernel) rfl), in_RX11, co_yX11_channel, ⟨by decide +kernel, by decide +kernel, by decide +kernel⟩, by decide⟩, im_yX11_channel, se_yX11_channel⟩
theorem ml_RX11_204 : a_mv RX11 204 yX1_follow cX1_follow 4 (some .int) 1 := ⟨⟨Or.inl (ws_t 1283 (by decide +kernel) rfl), in_RX1, co_yX1_follow, ⟨by decide +kernel, by decide +kernel, by decide +kernel⟩, by decide⟩, im_yX1_follow, se_yX1_follow⟩
theorem ml_RX11_207 : a_mv RX11 207 yX1_count cX1_count 3 (some .int) 2 := ⟨⟨Or.inl (ws_t 1284 (by decide +kernel) rfl), in_RX1, co_yX1_count, ⟨by decide +kernel, by decide +kernel, by decide +kernel⟩, by decide⟩, im_yX1_count, se_yX1_count⟩
theorem ml_RL_84 : a_mv RL 84 yX11_message cX11_message 8 (some .int) 3 := ⟨⟨Or.inl (ws_t 1285 (by decide +kernel) rfl), in_RX11, co_yX11_message, ⟨by decide +kernel, by decide +kernel, by decide +kernel⟩, by decide⟩, im_yX11_message, se_yX11_message⟩
theorem ml_RX11_210 : a_mv RX11 210 yX1_find cX1_find 5 (some .int) 2 := ⟨⟨Or.inl (ws_t 1289 (by decide +kernel) rfl), in_RX1, co_yX1_find, ⟨by decide +kernel, by decide +kernel, by decide +kernel⟩, by decide⟩, im_yX1_find, se_yX1_find⟩
theorem ml_RX1_59 : a_mv RX1 59 yX1_made cX1_made 1 (some .int) 0 := ⟨⟨Or.inl (ws_t 1293 (by decide +kernel) rfl), in_RX1, co_yX1_made, ⟨by decide +kernel, by decide +kernel, by decide +kernel⟩, by decide⟩, im_yX1_made, se_yX1_made⟩
theorem ml_RX1_62 : a_mv RX1 62 yX1_count cX1_count 3 (some .int) 2 := ⟨⟨Or.inl (ws_t 1294 (by decide +kernel) rfl), in_RX1, co_yX1_count, ⟨by decide +kernel, by decide +kernel, by decide +kernel⟩, by decide⟩, im_yX1_count, se_yX1_count⟩
theorem ml_RX11_219 : a_ms RX11 219 yX11_lettersIn cX11_lettersIn 3 (some .int) 1 := ⟨⟨Or.inl (ws_t 1295 (by decide +kernel) rfl), in_RX11, co_yX11_lettersIn, ⟨by decide +kernel, by decide +kernel, by decide +kernel⟩, by decide⟩, sm_yX11_lettersIn⟩
theorem ml_RL_89 : a_mv RL 89 yX11_said cX11_said 3 (some .int) 2 := ⟨⟨Or.inl (ws_t 1296 (by decide +kernel) rfl), in_RX11, co_yX11_said, ⟨by decide +kernel, by decide +kernel, by decide +kernel⟩, by decide⟩, im_yX11_said, se_yX11_said⟩
theorem nl_RL_10 : Cond.classLink RL 10 (a_rc 12) ∈ WS ∧ Cond.instantiable (a_rc 12) (a_nf 12) ∈ WS ∧ Cond.initialized (a_rc 12) ∈ WS := ⟨ws_t 1300 (by decide +kernel) rfl, ws_t 1301 (by decide +kernel) rfl, in_RX12⟩
theorem ml_RL_12 : a_mi RL 12 yX12_init cX12_init 1 0 := ⟨⟨Or.inl (ws_t 1302 (by decide +kernel) rfl), in_RX12, co_yX12_init, ⟨by decide +kernel, by decide +kernel, by decide +kernel⟩, by decide⟩, rfl, im_yX12_init⟩
theorem ol_RX12_1 : Cond.methodLink RX12 1 objectInit ∈ WS := ws_t 1305 (by decide +kernel) rfl
theorem fl_RX12_7 : a_fl RX12 7 12 0 := ⟨by decide, by decide, rfl, Or.inl (ws_t 1306 (by decide +kernel) rfl)⟩
theorem fl_RX12_151 : a_fl RX12 151 12 1 := ⟨by decide, by decide, rfl, Or.inl (ws_t 1307 (by decide +kernel) rfl)⟩
theorem fl_RX12_200 : a_fl RX12 200 12 2 := ⟨by decide, by decide, rfl, Or.inl (ws_t 1308 (by decide +kernel) rfl)⟩
theorem fl_RX12_210 : a_fl RX12 210 12 3 := ⟨by decide, by decide, rfl, Or.inl (ws_t 1309 (by decide +kernel) rfl)⟩
theorem fl_RX12_207 : a_fl RX12 207 12 4 := ⟨by decide, by decide, rfl, Or.inl (ws_t 1310 (by decide +kernel) rfl)⟩
theorem fl_RX12_217 : a_fl RX12 217 12 5 := ⟨by decide, by decide, rfl, Or.inl (ws_t 1311 (by decide +kernel) rfl)⟩
theorem fl_RX12_162 : a_fl RX12 162 12 6 := ⟨by decide, by decide, rfl, Or.inl (ws_t 1312 (by decide +kernel) rfl)⟩
theorem fl_RX12_223 : a_fl RX12 223 12 7 := ⟨by decide, by decide, rfl, Or.inl (ws_t 1313 (by decide +kernel) rfl)⟩
theorem fl_RX12_226 : a_fl RX12 226 12 8 := ⟨by decide, by decide, rfl, Or.inl (ws_t 1314 (by decide +kernel) rfl)⟩
theorem fl_RX12_411 : a_fl RX12 411 12 9 := ⟨by decide, by decide, rfl, Or.inl (ws_t 1315 (by decide +kernel) rfl)⟩
theorem fl_RX12_13 : a_fl RX12 13 12 10 := ⟨by decide, by decide, rfl, Or.inl (ws_t 1316 (by decide +kernel) rfl)⟩
theorem fl_RX12_17 : a_fl RX12 17 12 11 := ⟨by decide, by decide, rfl, Or.inl (ws_t 1317 (by decide +kernel) rfl)⟩
theorem fl_RX12_20 : a_fl RX12 20 12 12 := ⟨by decide, by decide, rfl, Or.inl (ws_t 1318 (by decide +kernel) rfl)⟩
theorem fl_RX12_23 : a_fl RX12 23 12 13 := ⟨by decide, by decide, rfl, Or.inl (ws_t 1319 (by decide +kernel) rfl)⟩
theorem fl_RX12_26 : a_fl RX12 26 12 14 := ⟨by decide, by decide, rfl, Or.inl (ws_t 1320 (by decide +kernel) rfl)⟩
theorem fl_RX12_29 : a_fl RX12 29 12 15 := ⟨by decide, by decide, rfl, Or.inl (ws_t 1321 (by decide +kernel) rfl)⟩
theorem fl_RX12_239 : a_fl RX12 239 12 16 := ⟨by decide, by decide, rfl, Or.inl (ws_t 1322 (by decide +kernel) rfl)⟩
theorem fl_RX12_242 : a_fl RX12 242 12 17 := ⟨by decide, by decide, rfl, Or.inl (ws_t 1323 (by decide +kernel) rfl)⟩
theorem fl_RX12_33 : a_fl RX12 33 12 18 := ⟨by decide, by decide, rfl, Or.inl (ws_t 1324 (by decide +kernel) rfl)⟩
theorem fl_RX12_36 : a_fl RX12 36 12 19 := ⟨by decide, by decide, rfl, Or.inl (ws_t 1325 (by decide +kernel) rfl)⟩
theorem fl_RX12_39 : a_fl RX12 39 12 20 := ⟨by decide, by decide, rfl, Or.inl (ws_t 1326 (by decide +kernel) rfl)⟩
theorem fl_RX12_42 : a_fl RX12 42 12 21 := ⟨by decide, by decide, rfl, Or.inl (ws_t 1327 (by decide +kernel) rfl)⟩
theorem fl_RX12_45 : a_fl RX12 45 12 22 := ⟨by decide, by decide, rfl, Or.inl (ws_t 1328 (by decide +kernel) rfl)⟩
theorem fl_RX12_48 : a_fl RX12 48 12 23 := ⟨by decide, by decide, rfl, Or.inl (ws_t 1329 (by decide +kernel) rfl)⟩
theorem fl_RX12_51 : a_fl RX12 51 12 24 := ⟨by decide, by decide, rfl, Or.inl (ws_t 1330 (by decide +kernel) rfl)⟩
theorem fl_RX12_54 : a_fl RX12 54 12 25 := ⟨by decide, by decide, rfl, Or.inl (ws_t 1331 (by decide +kernel) rfl)⟩
theorem fl_RX12_57 : a_fl RX12 57 12 26 := ⟨by decide, by decide, rfl, Or.inl (ws_t 1332 (by decide +kernel) rfl)⟩
theorem fl_RX12_60 : a_fl RX12 60 12 27 := ⟨by decide, by decide, rfl, Or.inl (ws_t 1333 (by decide +kernel) rfl)⟩
theorem fl_RX12_63 : a_fl RX12 63 12 28 := ⟨by decide, by decide, rfl, Or.inl (ws_t 1334 (by decide +kernel) rfl)⟩
theorem fl_RX12_66 : a_fl RX12 66 12 29 := ⟨by decide, by decide, rfl, Or.inl (ws_t 1335 (by decide +kernel) rfl)⟩
theorem fl_RX12_69 : a_fl RX12 69 12 30 := ⟨by decide, by decide, rfl, Or.inl (ws_t 1336 (by decide +kernel) rfl)⟩
theorem fl_RX12_405 : a_fl RX12 405 12 31 := ⟨by decide, by decide, rfl, Or.inl (ws_t 1337 (by decide +kernel) rfl)⟩
theorem fl_RX12_251 : a_fl RX12 251 12 32 := ⟨by decide, by decide, rfl, Or.inl (ws_t 1338 (by decide +kernel) rfl)⟩
theorem fl_RX12_414 : a_fl RX12 414 12 33 := ⟨by decide, by decide, rfl, Or.inl (ws_t 1339 (by decide +kernel) rfl)⟩
theorem fl_RX12_248 : a_fl RX12 248 12 34 := ⟨by decide, by decide, rfl, Or.inl (ws_t 1340 (by decide +kernel) rfl)⟩
theorem fl_RX12_254 : a_fl RX12 254 12 35 := ⟨by decide, by decide, rfl, Or.inl (ws_t 1341 (by decide +kernel) rfl)⟩
theorem fl_RX12_268 : a_fl RX12 268 12 36 := ⟨by decide, by decide, rfl, Or.inl (ws_t 1342 (by decide +kernel) rfl)⟩
theorem fl_RX12_72 : a_fl RX12 72 12 37 := ⟨by decide, by decide, rfl, Or.inl (ws_t 1343 (by decide +kernel) rfl)⟩
theorem fl_RX12_75 : a_fl RX12 75 12 38 := ⟨by decide, by decide, rfl, Or.inl (ws_t 1344 (by decide +kernel) rfl)⟩
theorem fl_RX12_78 : a_fl RX12 78 12 39 := ⟨by decide, by decide, rfl, Or.inl (ws_t 1345 (by decide +kernel) rfl)⟩
theorem fl_RX12_81 : a_fl RX12 81 12 40 := ⟨by decide, by decide, rfl, Or.inl (ws_t 1346 (by decide +kernel) rfl)⟩
theorem fl_RX12_84 : a_fl RX12 84 12 41 := ⟨by decide, by decide, rfl, Or.inl (ws_t 1347 (by decide +kernel) rfl)⟩
theorem fl_RX12_87 : a_fl RX12 87 12 42 := ⟨by decide, by decide, rfl, Or.inl (ws_t 1348 (by decide +kernel) rfl)⟩
theorem fl_RX12_292 : a_fl RX12 292 12 43 := ⟨by decide, by decide, rfl, Or.inl (ws_t 1349 (by decide +kernel) rfl)⟩
theorem fl_RX12_325 : a_fl RX12 325 12 44 := ⟨by decide, by decide, rfl, Or.inl (ws_t 1350 (by decide +kernel) rfl)⟩
theorem fl_RX12_295 : a_fl RX12 295 12 45 := ⟨by decide, by decide, rfl, Or.inl (ws_t 1351 (by decide +kernel) rfl)⟩
theorem fl_RX12_368 : a_fl RX12 368 12 46 := ⟨by decide, by decide, rfl, Or.inl (ws_t 1352 (by decide +kernel) rfl)⟩
theorem fl_RX12_298 : a_fl RX12 298 12 47 := ⟨by decide, by decide, rfl, Or.inl (ws_t 1353 (by decide +kernel) rfl)⟩
theorem fl_RX12_319 : a_fl RX12 319 12 48 := ⟨by decide, by decide, rfl, Or.inl (ws_t 1354 (by decide +kernel) rfl)⟩
theorem fl_RX12_331 : a_fl RX12 331 12 49 := ⟨by decide, by decide, rfl, Or.inl (ws_t 1355 (by decide +kernel) rfl)⟩
theorem fl_RX12_371 : a_fl RX12 371 12 50 := ⟨by decide, by decide, rfl, Or.inl (ws_t 1356 (by decide +kernel) rfl)⟩
theorem fl_RX12_396 : a_fl RX12 396 12 51 := ⟨by decide, by decide, rfl, Or.inl (ws_t 1357 (by decide +kernel) rfl)⟩
theorem fl_RX12_90 : a_fl RX12 90 12 52 := ⟨by decide, by decide, rfl, Or.inl (ws_t 1358 (by decide +kernel) rfl)⟩
theorem fl_RX12_93 : a_fl RX12 93 12 53 := ⟨by decide, by decide, rfl, Or.inl (ws_t 1359 (by decide +kernel) rfl)⟩
theorem fl_RX12_96 : a_fl RX12 96 12 54 := ⟨by decide, by decide, rfl, Or.inl (ws_t 1360 (by decide +kernel) rfl)⟩
theorem fl_RX12_99 : a_fl RX12 99 12 55 := ⟨by decide, by decide, rfl, Or.inl (ws_t 1361 (by decide +kernel) rfl)⟩
theorem fl_RX12_102 : a_fl RX12 102 12 56 := ⟨by decide, by decide, rfl, Or.inl (ws_t 1362 (by decide +kernel) rfl)⟩
theorem fl_RX12_105 : a_fl RX12 105 12 57 := ⟨by decide, by decide, rfl, Or.inl (ws_t 1363 (by decide +kernel) rfl)⟩
theorem fl_RX12_108 : a_fl RX12 108 12 58 := ⟨by decide, by decide, rfl, Or.inl (ws_t 1364 (by decide +kernel) rfl)⟩
theorem fl_RX12_111 : a_fl RX12 111 12 59 := ⟨by decide, by decide, rfl, Or.inl (ws_t 1365 (by decide +kernel) rfl)⟩
theorem fl_RX12_427 : a_fl RX12 427 12 60 := ⟨by decide, by decide, rfl, Or.inl (ws_t 1366 (by decide +kernel) rfl)⟩
theorem fl_RX12_421 : a_fl RX12 421 12 61 := ⟨by decide, by decide, rfl, Or.inl (ws_t 1367 (by decide +kernel) rfl)⟩
theorem fl_RX12_430 : a_fl RX12 430 12 62 := ⟨by decide, by decide, rfl, Or.inl (ws_t 1368 (by decide +kernel) rfl)⟩
theorem fl_RX12_433 : a_fl RX12 433 12 63 := ⟨by decide, by decide, rfl, Or.inl (ws_t 1369 (by decide +kernel) rfl)⟩
theorem fl_RX12_436 : a_fl RX12 436 12 64 := ⟨by decide, by decide, rfl, Or.inl (ws_t 1370 (by decide +kernel) rfl)⟩
theorem fl_RX12_439 : a_fl RX12 439 12 65 := ⟨by decide, by decide, rfl, Or.inl (ws_t 1371 (by decide +kernel) rfl)⟩
theorem fl_RX12_115 : a_fl RX12 115 12 66 := ⟨by decide, by decide, rfl, Or.inl (ws_t 1372 (by decide +kernel) rfl)⟩
theorem fl_RX12_118 : a_fl RX12 118 12 67 := ⟨by decide, by decide, rfl, Or.inl (ws_t 1373 (by decide +kernel) rfl)⟩
theorem fl_RX12_121 : a_fl RX12 121 12 68 := ⟨by decide, by decide, rfl, Or.inl (ws_t 1374 (by decide +kernel) rfl)⟩
theorem fl_RX12_124 : a_fl RX12 124 12 69 := ⟨by decide, by decide, rfl, Or.inl (ws_t 1375 (by decide +kernel) rfl)⟩
theorem fl_RX12_127 : a_fl RX12 127 12 70 := ⟨by decide, by decide, rfl, Or.inl (ws_t 1376 (by decide +kernel) rfl)⟩
theorem fl_RX12_130 : a_fl RX12 130 12 71 := ⟨by decide, by decide, rfl, Or.inl (ws_t 1377 (by decide +kernel) rfl)⟩
theorem fl_RX12_133 : a_fl RX12 133 12 72 := ⟨by decide, by decide, rfl, Or.inl (ws_t 1378 (by decide +kernel) rfl)⟩
theorem fl_RX12_136 : a_fl RX12 136 12 73 := ⟨by decide, by decide, rfl, Or.inl (ws_t 1379 (by decide +kernel) rfl)⟩
theorem fl_RX12_139 : a_fl RX12 139 12 74 := ⟨by decide, by decide, rfl, Or.inl (ws_t 1380 (by decide +kernel) rfl)⟩
theorem fl_RX12_142 : a_fl RX12 142 12 75 := ⟨by decide, by decide, rfl, Or.inl (ws_t 1381 (by decide +kernel) rfl)⟩
theorem fl_RX12_455 : a_fl RX12 455 12 76 := ⟨by decide, by decide, rfl, Or.inl (ws_t 1382 (by decide +kernel) rfl)⟩
theorem fl_RX12_145 : a_fl RX12 145 12 77 := ⟨by decide, by decide, rfl, Or.inl (ws_t 1383 (by decide +kernel) rfl)⟩
theorem fl_RX12_501 : a_fl RX12 501 12 78 := ⟨by decide, by decide, rfl, Or.inl (ws_t 1384 (by decide +kernel) rfl)⟩
theorem fl_RX12_148 : a_fl RX12 148 12 79 := ⟨by decide, by decide, rfl, Or.inl (ws_t 1385 (by decide +kernel) rfl)⟩
theorem fl_RX12_536 : a_fl RX12 536 12 80 := ⟨by decide, by decide, rfl, Or.inl (ws_t 1386 (by decide +kernel) rfl)⟩
theorem ac_long : Cond.arrayClass .long ∈ WS := ws_t 1550 (by decide +kernel) rfl
theorem ac_boolean : Cond.arrayClass .boolean ∈ WS := ws_t 1551 (by decide +kernel) rfl
theorem ml_RL_27 : a_mv RL 27 yX12_load cX12_load 2 (some .int) 0 := ⟨⟨Or.inl (ws_t 1552 (by decide +kernel) rfl), in_RX12, co_yX12_load, ⟨by decide +kernel, by decide +kernel, by decide +kernel⟩, by decide⟩, im_yX12_load, se_yX12_load⟩
theorem ml_RX12_236 : a_mv RX12 236 yX12_look0 cX12_look0 3 none 0 := ⟨⟨Or.inl (ws_t 1556 (by decide +kernel) rfl), in_RX12, co_yX12_look0, ⟨by decide +kernel, by decide +kernel, by decide +kernel⟩, by decide⟩, im_yX12_look0, se_yX12_look0⟩
theorem ml_RX12_203 : a_mv RX12 203 yX12_see cX12_see 2 (some .int) 1 := ⟨⟨Or.inl (ws_t 1560 (by decide +kernel) rfl), in_RX12, co_yX12_see, ⟨by decide +kernel, by decide +kernel, by decide +kernel⟩, by decide⟩, im_yX12_see, se_yX12_see⟩
theorem ml_RX12_158 : a_ms RX12 158 yX12_isSmall cX12_isSmall 1 (some .boolean) 1 := ⟨⟨Or.inl (ws_t 1564 (by decide +kernel) rfl), in_RX12, co_yX12_isSmall, ⟨by decide +kernel, by decide +kernel, by decide +kernel⟩, by decide⟩, sm_yX12_isSmall⟩
theorem ml_RX12_154 : a_ms RX12 154 yX12_isIn cX12_isIn 3 (some .boolean) 3 := ⟨⟨Or.inl (ws_t 1567 (by decide +kernel) rfl), in_RX12, co_yX12_isIn, ⟨by decide +kernel, by decide +kernel, by decide +kernel⟩, by decide⟩, sm_yX12_isIn⟩
theorem ml_RX12_213 : a_mv RX12 213 yX12_word cX12_word 1 (some .int) 0 := ⟨⟨Or.inl (ws_t 1570 (by decide +kernel) rfl), in_RX12, co_yX12_word, ⟨by decide +kernel, by decide +kernel, by decide +kernel⟩, by decide⟩, im_yX12_word, se_yX12_word⟩
theorem kc_RX12_166 : Cond.constantLong RX12 166 (1954115685) ∈ WS := ws_t 1574 (by decide +kernel) rfl
theorem kc_RX12_168 : Cond.constantLong RX12 168 (6579558) ∈ WS := ws_t 1575 (by decide +kernel) rfl
theorem kc_RX12_170 : Cond.constantLong RX12 170 (6647396) ∈ WS := ws_t 1576 (by decide +kernel) rfl
theorem kc_RX12_172 : Cond.constantLong RX12 172 (7370100) ∈ WS := ws_t 1577 (by decide +kernel) rfl
theorem kc_RX12_174 : Cond.constantLong RX12 174 (6776180) ∈ WS := ws_t 1578 (by decide +kernel) rfl
theorem kc_RX12_176 : Cond.constantLong RX12 176 (1936027236) ∈ WS := ws_t 1579 (by decide +kernel) rfl
theorem kc_RX12_178 : Cond.constantLong RX12 178 (1952541541) ∈ WS := ws_t 1580 (by decide +kernel) rfl
theorem kc_RX12_180 : Cond.constantLong RX12 180 (1885954923) ∈ WS := ws_t 1581 (by decide +kernel) rfl
theorem kc_RX12_182 : Cond.constantLong RX12 182 (1667330917) ∈ WS := ws_t 1582 (by decide +kernel) rfl
theorem kc_RX12_184 : Cond.constantLong RX12 184 (7234935) ∈ WS := ws_t 1583 (by decide +kernel) rfl
theorem kc_RX12_186 : Cond.constantLong RX12 186 (1935764837) ∈ WS := ws_t 1584 (by decide +kernel) rfl
theorem kc_RX12_188 : Cond.constantLong RX12 188 (26479) ∈ WS := ws_t 1585 (by decide +kernel) rfl
theorem kc_RX12_190 : Cond.constantLong RX12 190 (26982) ∈ WS := ws_t 1586 (by decide +kernel) rfl
theorem kc_RX12_192 : Cond.constantLong RX12 192 (1701606245) ∈ WS := ws_t 1587 (by decide +kernel) rfl
theorem kc_RX12_194 : Cond.constantLong RX12 194 (7561593) ∈ WS := ws_t 1588 (by decide +kernel) rfl
theorem kc_RX12_196 : Cond.constantLong RX12 196 (427021005669) ∈ WS := ws_t 1589 (by decide +kernel) rfl
theorem kc_RX12_198 : Cond.constantLong RX12 198 (2002872692) ∈ WS := ws_t 1590 (by decide +kernel) rfl
theorem ml_RX12_220 : a_ms RX12 220 yX12_isLetter cX12_isLetter 1 (some .boolean) 1 := ⟨⟨Or.inl (ws_t 1591 (by decide +kernel) rfl), in_RX12, co_yX12_isLetter, ⟨by decide +kernel, by decide +kernel, by decide +kernel⟩, by decide⟩, sm_yX12_isLetter⟩
theorem ml_RX12_408 : a_mv RX12 408 yX12_text cX12_text 2 (some .boolean) 0 := ⟨⟨Or.inl (ws_t 1594 (by decide +kernel) rfl), in_RX12, co_yX12_text, ⟨by decide +kernel, by decide +kernel, by decide +kernel⟩, by decide⟩, im_yX12_text, se_yX12_text⟩
theorem ml_RX12_399 : a_mv RX12 399 yX12_typeText cX12_typeText 4 (some .boolean) 0 := ⟨⟨Or.inl (ws_t 1598 (by decide +kernel) rfl), in_RX12, co_yX12_typeText, ⟨by decide +kernel, by decide +kernel, by decide +kernel⟩, by decide⟩, im_yX12_typeText, se_yX12_typeText⟩
theorem ml_RX12_232 : a_mv RX12 232 yX12_bad cX12_bad 3 (some .boolean) 2 := ⟨⟨Or.inl (ws_t 1602 (by decide +kernel) rfl), in_RX12, co_yX12_bad, ⟨by decide +kernel, by decide +kernel, by decide +kernel⟩, by decide⟩, im_yX12_bad, se_yX12_bad⟩
theorem ml_RX12_271 : a_mv RX12 271 yX12_findType cX12_findType 4 (some .int) 1 := ⟨⟨Or.inl (ws_t 1606 (by decide +kernel) rfl), in_RX12, co_yX12_findType, ⟨by decide +kernel, by decide +kernel, by decide +kernel⟩, by decide⟩, im_yX12_findType, se_yX12_findType⟩
theorem ml_RX12_278 : a_mv RX12 278 yX12_need cX12_need 2 (some .boolean) 1 := ⟨⟨Or.inl (ws_t 1610 (by decide +kernel) rfl), in_RX12, co_yX12_need, ⟨by decide +kernel, by decide +kernel, by decide +kernel⟩, by decide⟩, im_yX12_need, se_yX12_need⟩
theorem ml_RX12_229 : a_mv RX12 229 yX12_isSign cX12_isSign 2 (some .boolean) 1 := ⟨⟨Or.inl (ws_t 1614 (by decide +kernel) rfl), in_RX12, co_yX12_isSign, ⟨by decide +kernel, by decide +kernel, by decide +kernel⟩, by decide⟩, im_yX12_isSign, se_yX12_isSign⟩
theorem ml_RX12_393 : a_mv RX12 393 yX12_wholeType cX12_wholeType 1 (some .boolean) 0 := ⟨⟨Or.inl (ws_t 1618 (by decide +kernel) rfl), in_RX12, co_yX12_wholeType, ⟨by decide +kernel, by decide +kernel, by decide +kernel⟩, by decide⟩, im_yX12_wholeType, se_yX12_wholeType⟩
theorem ml_RX12_257 : a_mv RX12 257 yX12_readType cX12_readType 3 (some .boolean) 0 := ⟨⟨Or.inl (ws_t 1622 (by decide +kernel) rfl), in_RX12, co_yX12_readType, ⟨by decide +kernel, by decide +kernel, by decide +kernel⟩, by decide⟩, im_yX12_readType, se_yX12_readType⟩
theorem ml_RX12_261 : a_mv RX12 261 yX12_more cX12_more 2 (some .boolean) 1 := ⟨⟨Or.inl (ws_t 1626 (by decide +kernel) rfl), in_RX12, co_yX12_more, ⟨by decide +kernel, by decide +kernel, by decide +kernel⟩, by decide⟩, im_yX12_more, se_yX12_more⟩
theorem ml_RX12_264 : a_mv RX12 264 yX12_node cX12_node 7 (some .int) 4 := ⟨⟨Or.inl (ws_t 1630 (by decide +kernel) rfl), in_RX12, co_yX12_node, ⟨by decide +kernel, by decide +kernel, by decide +kernel⟩, by decide⟩, im_yX12_node, se_yX12_node⟩
theorem ml_RX12_245 : a_mv RX12 245 yX12_partsOf cX12_partsOf 3 (some .int) 1 := ⟨⟨Or.inl (ws_t 1634 (by decide +kernel) rfl), in_RX12, co_yX12_partsOf, ⟨by decide +kernel, by decide +kernel, by decide +kernel⟩, by decide⟩, im_yX12_partsOf, se_yX12_partsOf⟩
theorem ml_RX12_275 : a_mv RX12 275 yX12_choice cX12_choice 9 (some .boolean) 1 := ⟨⟨Or.inl (ws_t 1638 (by decide +kernel) rfl), in_RX12, co_yX12_choice, ⟨by decide +kernel, by decide +kernel, by decide +kernel⟩, by decide⟩, im_yX12_choice, se_yX12_choice⟩
theorem ml_RX12_281 : a_mv RX12 281 yX12_branch cX12_branch 5 (some .int) 2 := ⟨⟨Or.inl (ws_t 1642 (by decide +kernel) rfl), in_RX12, co_yX12_branch, ⟨by decide +kernel, by decide +kernel, by decide +kernel⟩, by decide⟩, im_yX12_branch, se_yX12_branch⟩
theorem ml_RX12_285 : a_ms RX12 285 yX12_aligned cX12_aligned 4 (some .long) 1 := ⟨⟨Or.inl (ws_t 1646 (by decide +kernel) rfl), in_RX12, co_yX12_aligned, ⟨by decide +kernel, by decide +kernel, by decide +kernel⟩, by decide⟩, sm_yX12_aligned⟩
theorem ml_RX12_402 : a_mv RX12 402 yX12_defText cX12_defText 5 (some .boolean) 0 := ⟨⟨Or.inl (ws_t 1649 (by decide +kernel) rfl), in_RX12, co_yX12_defText, ⟨by decide +kernel, by decide +kernel, by decide +kernel⟩, by decide⟩, im_yX12_defText, se_yX12_defText⟩
theorem ml_RX12_387 : a_mv RX12 387 yX12_needWord cX12_needWord 2 (some .boolean) 1 := ⟨⟨Or.inl (ws_t 1653 (by decide +kernel) rfl), in_RX12, co_yX12_needWord, ⟨by decide +kernel, by decide +kernel, by decide +kernel⟩, by decide⟩, im_yX12_needWord, se_yX12_needWord⟩
theorem ml_RX12_365 : a_mv RX12 365 yX12_findDef cX12_findDef 4 (some .int) 1 := ⟨⟨Or.inl (ws_t 1657 (by decide +kernel) rfl), in_RX12, co_yX12_findDef, ⟨by decide +kernel, by decide +kernel, by decide +kernel⟩, by decide⟩, im_yX12_findDef, se_yX12_findDef⟩
theorem ml_RX12_346 : a_mv RX12 346 yX12_isFree cX12_isFree 1 (some .boolean) 0 := ⟨⟨Or.inl (ws_t 1661 (by decide +kernel) rfl), in_RX12, co_yX12_isFree, ⟨by decide +kernel, by decide +kernel, by decide +kernel⟩, by decide⟩, im_yX12_isFree, se_yX12_isFree⟩
theorem ml_RX12_301 : a_mv RX12 301 yX12_slot cX12_slot 4 (some .int) 1 := ⟨⟨Or.inl (ws_t 1665 (by decide +kernel) rfl), in_RX12, co_yX12_slot, ⟨by decide +kernel, by decide +kernel, by decide +kernel⟩, by decide⟩, im_yX12_slot, se_yX12_slot⟩
theorem ml_RX12_349 : a_mv RX12 349 yX12_newSlot cX12_newSlot 5 (some .int) 3 := ⟨⟨Or.inl (ws_t 1669 (by decide +kernel) rfl), in_RX12, co_yX12_newSlot, ⟨by decide +kernel, by decide +kernel, by decide +kernel⟩, by decide⟩, im_yX12_newSlot, se_yX12_newSlot⟩
theorem ml_RX12_384 : a_mv RX12 384 yX12_readProcess cX12_readProcess 5 (some .boolean) 0 := ⟨⟨Or.inl (ws_t 1673 (by decide +kernel) rfl), in_RX12, co_yX12_readProcess, ⟨by decide +kernel, by decide +kernel, by decide +kernel⟩, by decide⟩, im_yX12_readProcess, se_yX12_readProcess⟩
theorem ml_RX12_322 : a_mv RX12 322 yX12_has cX12_has 2 (some .boolean) 0 := ⟨⟨Or.inl (ws_t 1677 (by decide +kernel) rfl), in_RX12, co_yX12_has, ⟨by decide +kernel, by decide +kernel, by decide +kernel⟩, by decide⟩, im_yX12_has, se_yX12_has⟩
theorem ml_RX12_328 : a_mv RX12 328 yX12_act cX12_act 4 (some .boolean) 1 := ⟨⟨Or.inl (ws_t 1681 (by decide +kernel) rfl), in_RX12, co_yX12_act, ⟨by decide +kernel, by decide +kernel, by decide +kernel⟩, by decide⟩, im_yX12_act, se_yX12_act⟩
theorem ml_RX12_304 : a_mv RX12 304 yX12_opens cX12_opens 1 (some .boolean) 0 := ⟨⟨Or.inl (ws_t 1685 (by decide +kernel) rfl), in_RX12, co_yX12_opens, ⟨by decide +kernel, by decide +kernel, by decide +kernel⟩, by decide⟩, im_yX12_opens, se_yX12_opens⟩
theorem ml_RX12_334 : a_mv RX12 334 yX12_cases cX12_cases 9 (some .boolean) 0 := ⟨⟨Or.inl (ws_t 1689 (by decide +kernel) rfl), in_RX12, co_yX12_cases, ⟨by decide +kernel, by decide +kernel, by decide +kernel⟩, by decide⟩, im_yX12_cases, se_yX12_cases⟩
theorem ml_RX12_343 : a_mv RX12 343 yX12_aChannel cX12_aChannel 5 (some .boolean) 2 := ⟨⟨Or.inl (ws_t 1693 (by decide +kernel) rfl), in_RX12, co_yX12_aChannel, ⟨by decide +kernel, by decide +kernel, by decide +kernel⟩, by decide⟩, im_yX12_aChannel, se_yX12_aChannel⟩
theorem ml_RX12_380 : a_mv RX12 380 yX12_save cX12_save 3 none 1 := ⟨⟨Or.inl (ws_t 1697 (by decide +kernel) rfl), in_RX12, co_yX12_save, ⟨by decide +kernel, by decide +kernel, by decide +kernel⟩, by decide⟩, im_yX12_save, se_yX12_save⟩
theorem ml_RX12_390 : a_mv RX12 390 yX12_back cX12_back 3 none 1 := ⟨⟨Or.inl (ws_t 1701 (by decide +kernel) rfl), in_RX12, co_yX12_back, ⟨by decide +kernel, by decide +kernel, by decide +kernel⟩, by decide⟩, im_yX12_back, se_yX12_back⟩
theorem ml_RX12_337 : a_mv RX12 337 yX12_asks cX12_asks 5 (some .boolean) 0 := ⟨⟨Or.inl (ws_t 1705 (by decide +kernel) rfl), in_RX12, co_yX12_asks, ⟨by decide +kernel, by decide +kernel, by decide +kernel⟩, by decide⟩, im_yX12_asks, se_yX12_asks⟩
theorem ml_RX12_310 : a_mv RX12 310 yX12_expression cX12_expression 3 (some .boolean) 0 := ⟨⟨Or.inl (ws_t 1709 (by decide +kernel) rfl), in_RX12, co_yX12_expression, ⟨by decide +kernel, by decide +kernel, by decide +kernel⟩, by decide⟩, im_yX12_expression, se_yX12_expression⟩
theorem ml_RX12_316 : a_mv RX12 316 yX12_sum cX12_sum 3 (some .boolean) 0 := ⟨⟨Or.inl (ws_t 1713 (by decide +kernel) rfl), in_RX12, co_yX12_sum, ⟨by decide +kernel, by decide +kernel, by decide +kernel⟩, by decide⟩, im_yX12_sum, se_yX12_sum⟩
theorem ml_RX12_313 : a_mv RX12 313 yX12_product cX12_product 2 (some .boolean) 0 := ⟨⟨Or.inl (ws_t 1717 (by decide +kernel) rfl), in_RX12, co_yX12_product, ⟨by decide +kernel, by decide +kernel, by decide +kernel⟩, by decide⟩, im_yX12_product, se_yX12_product⟩
theorem ml_RX12_307 : a_mv RX12 307 yX12_unit cX12_unit 2 (some .boolean) 0 := ⟨⟨Or.inl (ws_t 1721 (by decide +kernel) rfl), in_RX12, co_yX12_unit, ⟨by decide +kernel, by decide +kernel, by decide +kernel⟩, by decide⟩, im_yX12_unit, se_yX12_unit⟩
theorem ml_RX12_340 : a_mv RX12 340 yX12_aGiven cX12_aGiven 2 (some .boolean) 1 := ⟨⟨Or.inl (ws_t 1725 (by decide +kernel) rfl), in_RX12, co_yX12_aGiven, ⟨by decide +kernel, by decide +kernel, by decide +kernel⟩, by decide⟩, im_yX12_aGiven, se_yX12_aGiven⟩
theorem ml_RX12_353 : a_mv RX12 353 yX12_sends cX12_sends 4 (some .boolean) 0 := ⟨⟨Or.inl (ws_t 1729 (by decide +kernel) rfl), in_RX12, co_yX12_sends, ⟨by decide +kernel, by decide +kernel, by decide +kernel⟩, by decide⟩, im_yX12_sends, se_yX12_sends⟩
theorem ml_RX12_289 : a_mv RX12 289 yX12_alike cX12_alike 3 (some .boolean) 2 := ⟨⟨Or.inl (ws_t 1733 (by decide +kernel) rfl), in_RX12, co_yX12_alike, ⟨by decide +kernel, by decide +kernel, by decide +kernel⟩, by decide⟩, im_yX12_alike, se_yX12_alike⟩
theorem ml_RX12_356 : a_mv RX12 356 yX12_news cX12_news 5 (some .boolean) 0 := ⟨⟨Or.inl (ws_t 1737 (by decide +kernel) rfl), in_RX12, co_yX12_news, ⟨by decide +kernel, by decide +kernel, by decide +kernel⟩, by decide⟩, im_yX12_news, se_yX12_news⟩
theorem ml_RX12_374 : a_mv RX12 374 yX12_call cX12_call 8 (some .boolean) 0 := ⟨⟨Or.inl (ws_t 1741 (by decide +kernel) rfl), in_RX12, co_yX12_call, ⟨by decide +kernel, by decide +kernel, by decide +kernel⟩, by decide⟩, im_yX12_call, se_yX12_call⟩
theorem ml_RX12_359 : a_mv RX12 359 yX12_goes cX12_goes 2 (some .boolean) 1 := ⟨⟨Or.inl (ws_t 1745 (by decide +kernel) rfl), in_RX12, co_yX12_goes, ⟨by decide +kernel, by decide +kernel, by decide +kernel⟩, by decide⟩, im_yX12_goes, se_yX12_goes⟩
theorem ml_RX12_377 : a_mv RX12 377 yX12_given cX12_given 3 (some .int) 0 := ⟨⟨Or.inl (ws_t 1749 (by decide +kernel) rfl), in_RX12, co_yX12_given, ⟨by decide +kernel, by decide +kernel, by decide +kernel⟩, by decide⟩, im_yX12_given, se_yX12_given⟩
theorem ml_RX12_362 : a_mv RX12 362 yX12_readSame cX12_readSame 4 (some .boolean) 1 := ⟨⟨Or.inl (ws_t 1753 (by decide +kernel) rfl), in_RX12, co_yX12_readSame, ⟨by decide +kernel, by decide +kernel, by decide +kernel⟩, by decide⟩, im_yX12_readSame, se_yX12_readSame⟩
theorem ml_RX12_418 : a_mv RX12 418 yX12_begins cX12_begins 2 none 0 := ⟨⟨Or.inl (ws_t 1757 (by decide +kernel) rfl), in_RX12, co_yX12_begins, ⟨by decide +kernel, by decide +kernel, by decide +kernel⟩, by decide⟩, im_yX12_begins, se_yX12_begins⟩
theorem ml_RX12_442 : a_mv RX12 442 yX12_newChannel cX12_newChannel 3 (some .int) 0 := ⟨⟨Or.inl (ws_t 1761 (by decide +kernel) rfl), in_RX12, co_yX12_newChannel, ⟨by decide +kernel, by decide +kernel, by decide +kernel⟩, by decide⟩, im_yX12_newChannel, se_yX12_newChannel⟩
theorem ml_RX12_445 : a_mv RX12 445 yX12_fresh0 cX12_fresh0 2 none 1 := ⟨⟨Or.inl (ws_t 1765 (by decide +kernel) rfl), in_RX12, co_yX12_fresh0, ⟨by decide +kernel, by decide +kernel, by decide +kernel⟩, by decide⟩, im_yX12_fresh0, se_yX12_fresh0⟩
theorem ml_RX12_448 : a_mv RX12 448 yX12_enters cX12_enters 3 none 2 := ⟨⟨Or.inl (ws_t 1769 (by decide +kernel) rfl), in_RX12, co_yX12_enters, ⟨by decide +kernel, by decide +kernel, by decide +kernel⟩, by decide⟩, im_yX12_enters, se_yX12_enters⟩
theorem ml_RX12_424 : a_mv RX12 424 yX12_def0 cX12_def0 2 (some .int) 1 := ⟨⟨Or.inl (ws_t 1773 (by decide +kernel) rfl), in_RX12, co_yX12_def0, ⟨by decide +kernel, by decide +kernel, by decide +kernel⟩, by decide⟩, im_yX12_def0, se_yX12_def0⟩
theorem ml_RX12_452 : a_mv RX12 452 yX12_settles cX12_settles 3 none 1 := ⟨⟨Or.inl (ws_t 1777 (by decide +kernel) rfl), in_RX12, co_yX12_settles, ⟨by decide +kernel, by decide +kernel, by decide +kernel⟩, by decide⟩, im_yX12_settles, se_yX12_settles⟩
theorem ml_RX12_462 : a_mv RX12 462 yX12_worth cX12_worth 8 (some .int) 2 := ⟨⟨Or.inl (ws_t 1781 (by decide +kernel) rfl), in_RX12, co_yX12_worth, ⟨by decide +kernel, by decide +kernel, by decide +kernel⟩, by decide⟩, im_yX12_worth, se_yX12_worth⟩
theorem ml_RX12_458 : a_mv RX12 458 yX12_value cX12_value 3 (some .int) 2 := ⟨⟨Or.inl (ws_t 1785 (by decide +kernel) rfl), in_RX12, co_yX12_value, ⟨by decide +kernel, by decide +kernel, by decide +kernel⟩, by decide⟩, im_yX12_value, se_yX12_value⟩
theorem ml_RX12_465 : a_ms RX12 465 yX12_both cX12_both 3 (some .int) 3 := ⟨⟨Or.inl (ws_t 1789 (by decide +kernel) rfl), in_RX12, co_yX12_both, ⟨by decide +kernel, by decide +kernel, by decide +kernel⟩, by decide⟩, sm_yX12_both⟩
theorem ml_RL_32 : a_mv RL 32 yX12_fault cX12_fault 2 (some .int) 1 := ⟨⟨Or.inl (ws_t 1792 (by decide +kernel) rfl), in_RX12, co_yX12_fault, ⟨by decide +kernel, by decide +kernel, by decide +kernel⟩, by decide⟩, im_yX12_fault, se_yX12_fault⟩
theorem ml_RL_17 : a_mv RL 17 yX12_feed cX12_feed 8 (some .int) 5 := ⟨⟨Or.inl (ws_t 1796 (by decide +kernel) rfl), in_RX12, co_yX12_feed, ⟨by decide +kernel, by decide +kernel, by decide +kernel⟩, by decide⟩, im_yX12_feed, se_yX12_feed⟩
theorem ml_RL_22 : a_mv RL 22 yX12_end cX12_end 2 (some .boolean) 1 := ⟨⟨Or.inl (ws_t 1800 (by decide +kernel) rfl), in_RX12, co_yX12_end, ⟨by decide +kernel, by decide +kernel, by decide +kernel⟩, by decide⟩, im_yX12_end, se_yX12_end⟩
theorem ml_RL_63 : a_mv RL 63 yX12_ready cX12_ready 3 (some .int) 0 := ⟨⟨Or.inl (ws_t 1804 (by decide +kernel) rfl), in_RX12, co_yX12_ready, ⟨by decide +kernel, by decide +kernel, by decide +kernel⟩, by decide⟩, im_yX12_ready, se_yX12_ready⟩
theorem ml_RX12_481 : a_mv RX12 481 yX12_waits cX12_waits 3 (some .boolean) 1 := ⟨⟨Or.inl (ws_t 1808 (by decide +kernel) rfl), in_RX12, co_yX12_waits, ⟨by decide +kernel, by decide +kernel, by decide +kernel⟩, by decide⟩, im_yX12_waits, se_yX12_waits⟩
theorem ml_RX12_475 : a_ms RX12 475 yX12_isReading cX12_isReading 1 (some .boolean) 1 := ⟨⟨Or.inl (ws_t 1812 (by decide +kernel) rfl), in_RX12, co_yX12_isReading, ⟨by decide +kernel, by decide +kernel, by decide +kernel⟩, by decide⟩, sm_yX12_isReading⟩
theorem ml_RX12_478 : a_mv RX12 478 yX12_reads cX12_reads 3 (some .int) 2 := ⟨⟨Or.inl (ws_t 1815 (by decide +kernel) rfl), in_RX12, co_yX12_reads, ⟨by decide +kernel, by decide +kernel, by decide +kernel⟩, by decide⟩, im_yX12_reads, se_yX12_reads⟩
theorem ml_RX12_469 : a_mv RX12 469 yX12_real cX12_real 3 (some .int) 1 := ⟨⟨Or.inl (ws_t 1819 (by decide +kernel) rfl), in_RX12, co_yX12_real, ⟨by decide +kernel, by decide +kernel, by decide +kernel⟩, by decide⟩, im_yX12_real, se_yX12_real⟩
theorem ml_RX12_472 : a_mv RX12 472 yX12_isGiven cX12_isGiven 3 (some .boolean) 2 := ⟨⟨Or.inl (ws_t 1823 (by decide +kernel) rfl), in_RX12, co_yX12_isGiven, ⟨by decide +kernel, by decide +kernel, by decide +kernel⟩, by decide⟩, im_yX12_isGiven, se_yX12_isGiven⟩
theorem ml_RL_67 : a_mv RL 67 yX12_which cX12_which 4 (some .int) 1 := ⟨⟨Or.inl (ws_t 1827 (by decide +kernel) rfl), in_RX12, co_yX12_which, ⟨by decide +kernel, by decide +kernel, by decide +kernel⟩, by decide⟩, im_yX12_which, se_yX12_which⟩
theorem ml_RX12_484 : a_mv RX12 484 yX12_ready cX12_ready 3 (some .int) 0 := ⟨⟨Or.inl (ws_t 1831 (by decide +kernel) rfl), in_RX12, co_yX12_ready, ⟨by decide +kernel, by decide +kernel, by decide +kernel⟩, by decide⟩, im_yX12_ready, se_yX12_ready⟩
theorem ml_RL_71 : a_mv RL 71 yX12_step cX12_step 3 (some .int) 1 := ⟨⟨Or.inl (ws_t 1832 (by decide +kernel) rfl), in_RX12, co_yX12_step, ⟨by decide +kernel, by decide +kernel, by decide +kernel⟩, by decide⟩, im_yX12_step, se_yX12_step⟩
theorem ml_RX12_517 : a_mv RX12 517 yX12_which cX12_which 4 (some .int) 1 := ⟨⟨Or.inl (ws_t 1836 (by decide +kernel) rfl), in_RX12, co_yX12_which, ⟨by decide +kernel, by decide +kernel, by decide +kernel⟩, by decide⟩, im_yX12_which, se_yX12_which⟩
theorem ml_RX12_520 : a_mv RX12 520 yX12_goesOn cX12_goesOn 7 none 1 := ⟨⟨Or.inl (ws_t 1837 (by decide +kernel) rfl), in_RX12, co_yX12_goesOn, ⟨by decide +kernel, by decide +kernel, by decide +kernel⟩, by decide⟩, im_yX12_goesOn, se_yX12_goesOn⟩
theorem ml_RX12_491 : a_mv RX12 491 yX12_writes cX12_writes 3 (some .int) 2 := ⟨⟨Or.inl (ws_t 1841 (by decide +kernel) rfl), in_RX12, co_yX12_writes, ⟨by decide +kernel, by decide +kernel, by decide +kernel⟩, by decide⟩, im_yX12_writes, se_yX12_writes⟩
theorem ml_RX12_494 : a_mv RX12 494 yX12_lay cX12_lay 7 none 4 := ⟨⟨Or.inl (ws_t 1845 (by decide +kernel) rfl), in_RX12, co_yX12_lay, ⟨by decide +kernel, by decide +kernel, by decide +kernel⟩, by decide⟩, im_yX12_lay, se_yX12_lay⟩
theorem ml_RX12_498 : a_mv RX12 498 yX12_take cX12_take 3 (some .int) 1 := ⟨⟨Or.inl (ws_t 1849 (by decide +kernel) rfl), in_RX12, co_yX12_take, ⟨by decide +kernel, by decide +kernel, by decide +kernel⟩, by decide⟩, im_yX12_take, se_yX12_take⟩
theorem ml_RX12_504 : a_mv RX12 504 yX12_makes cX12_makes 5 none 2 := ⟨⟨Or.inl (ws_t 1853 (by decide +kernel) rfl), in_RX12, co_yX12_makes, ⟨by decide +kernel, by decide +kernel, by decide +kernel⟩, by decide⟩, im_yX12_makes, se_yX12_makes⟩
theorem ml_RX12_507 : a_mv RX12 507 yX12_tells cX12_tells 9 (some .int) 4 := ⟨⟨Or.inl (ws_t 1857 (by decide +kernel) rfl), in_RX12, co_yX12_tells, ⟨by decide +kernel, by decide +kernel, by decide +kernel⟩, by decide⟩, im_yX12_tells, se_yX12_tells⟩
theorem ml_RX12_511 : a_mv RX12 511 yX12_joins cX12_joins 5 none 2 := ⟨⟨Or.inl (ws_t 1861 (by decide +kernel) rfl), in_RX12, co_yX12_joins, ⟨by decide +kernel, by decide +kernel, by decide +kernel⟩, by decide⟩, im_yX12_joins, se_yX12_joins⟩
theorem ml_RX12_487 : a_mv RX12 487 yX12_append cX12_append 6 none 3 := ⟨⟨Or.inl (ws_t 1865 (by decide +kernel) rfl), in_RX12, co_yX12_append, ⟨by decide +kernel, by decide +kernel, by decide +kernel⟩, by decide⟩, im_yX12_append, se_yX12_append⟩
theorem ml_RX12_514 : a_mv RX12 514 yX12_says cX12_says 3 none 2 := ⟨⟨Or.inl (ws_t 1869 (by decide +kernel) rfl), in_RX12, co_yX12_says, ⟨by decide +kernel, by decide +kernel, by decide +kernel⟩, by decide⟩, im_yX12_says, se_yX12_says⟩
theorem ml_RL_75 : a_mv RL 75 yX12_run cX12_run 5 (some .int) 2 := ⟨⟨Or.inl (ws_t 1873 (by decide +kernel) rfl), in_RX12, co_yX12_run, ⟨by decide +kernel, by decide +kernel, by decide +kernel⟩, by decide⟩, im_yX12_run, se_yX12_run⟩
theorem kc_RX12_523 : Cond.constant RX12 523 (1103515245) ∈ WS := ws_t 1877 (by decide +kernel) rfl
theorem ml_RX12_524 : a_mv RX12 524 yX12_step cX12_step 3 (some .int) 1 := ⟨⟨Or.inl (ws_t 1878 (by decide +kernel) rfl), in_RX12, co_yX12_step, ⟨by decide +kernel, by decide +kernel, by decide +kernel⟩, by decide⟩, im_yX12_step, se_yX12_step⟩
theorem ml_RL_59 : a_mv RL 59 yX12_begin cX12_begin 1 (some .boolean) 0 := ⟨⟨Or.inl (ws_t 1879 (by decide +kernel) rfl), in_RX12, co_yX12_begin, ⟨by decide +kernel, by decide +kernel, by decide +kernel⟩, by decide⟩, im_yX12_begin, se_yX12_begin⟩
theorem ml_RL_36 : a_mv RL 36 yX12_look cX12_look 4 (some .int) 1 := ⟨⟨Or.inl (ws_t 1883 (by decide +kernel) rfl), in_RX12, co_yX12_look, ⟨by decide +kernel, by decide +kernel, by decide +kernel⟩, by decide⟩, im_yX12_look, se_yX12_look⟩
theorem ml_RL_41 : a_mv RL 41 yX12_def cX12_def 6 (some .int) 2 := ⟨⟨Or.inl (ws_t 1887 (by decide +kernel) rfl), in_RX12, co_yX12_def, ⟨by decide +kernel, by decide +kernel, by decide +kernel⟩, by decide⟩, im_yX12_def, se_yX12_def⟩
theorem ml_RX12_530 : a_mv RX12 530 yX12_isDef cX12_isDef 2 (some .boolean) 1 := ⟨⟨Or.inl (ws_t 1891 (by decide +kernel) rfl), in_RX12, co_yX12_isDef, ⟨by decide +kernel, by decide +kernel, by decide +kernel⟩, by decide⟩, im_yX12_isDef, se_yX12_isDef⟩
theorem ml_RX12_527 : a_mv RX12 527 yX12_least cX12_least 8 (some .int) 1 := ⟨⟨Or.inl (ws_t 1895 (by decide +kernel) rfl), in_RX12, co_yX12_least, ⟨by decide +kernel, by decide +kernel, by decide +kernel⟩, by decide⟩, im_yX12_least, se_yX12_least⟩
theorem ml_RL_50 : a_mv RL 50 yX12_same cX12_same 5 (some .boolean) 4 := ⟨⟨Or.inl (ws_t 1899 (by decide +kernel) rfl), in_RX12, co_yX12_same, ⟨by decide +kernel, by decide +kernel, by decide +kernel⟩, by decide⟩, im_yX12_same, se_yX12_same⟩
theorem ml_RX12_533 : a_mv RX12 533 yX12_typeOf cX12_typeOf 4 (some .int) 2 := ⟨⟨Or.inl (ws_t 1903 (by decide +kernel) rfl), in_RX12, co_yX12_typeOf, ⟨by decide +kernel, by decide +kernel, by decide +kernel⟩, by decide⟩, im_yX12_typeOf, se_yX12_typeOf⟩
theorem ml_RL_45 : a_mv RL 45 yX12_print cX12_print 4 (some .int) 2 := ⟨⟨Or.inl (ws_t 1907 (by decide +kernel) rfl), in_RX12, co_yX12_print, ⟨by decide +kernel, by decide +kernel, by decide +kernel⟩, by decide⟩, im_yX12_print, se_yX12_print⟩
theorem ml_RX12_548 : a_mv RX12 548 yX12_sayType cX12_sayType 4 none 1 := ⟨⟨Or.inl (ws_t 1911 (by decide +kernel) rfl), in_RX12, co_yX12_sayType, ⟨by decide +kernel, by decide +kernel, by decide +kernel⟩, by decide⟩, im_yX12_sayType, se_yX12_sayType⟩
theorem ml_RX12_544 : a_mv RX12 544 yX12_sayName cX12_sayName 4 none 1 := ⟨⟨Or.inl (ws_t 1915 (by decide +kernel) rfl), in_RX12, co_yX12_sayName, ⟨by decide +kernel, by decide +kernel, by decide +kernel⟩, by decide⟩, im_yX12_sayName, se_yX12_sayName⟩
theorem kc_RX12_539 : Cond.constantLong RX12 539 (255) ∈ WS := ws_t 1919 (by decide +kernel) rfl
theorem ml_RX12_541 : a_mv RX12 541 yX12_say cX12_say 2 none 1 := ⟨⟨Or.inl (ws_t 1920 (by decide +kernel) rfl), in_RX12, co_yX12_say, ⟨by decide +kernel, by decide +kernel, by decide +kernel⟩, by decide⟩, im_yX12_say, se_yX12_say⟩
theorem ml_RL_54 : a_mv RL 54 yX12_out cX12_out 2 (some .int) 1 := ⟨⟨Or.inl (ws_t 1924 (by decide +kernel) rfl), in_RX12, co_yX12_out, ⟨by decide +kernel, by decide +kernel, by decide +kernel⟩, by decide⟩, im_yX12_out, se_yX12_out⟩
theorem ml_RL_79 : a_mv RL 79 yX12_process cX12_process 3 (some .int) 2 := ⟨⟨Or.inl (ws_t 1928 (by decide +kernel) rfl), in_RX12, co_yX12_process, ⟨by decide +kernel, by decide +kernel, by decide +kernel⟩, by decide⟩, im_yX12_process, se_yX12_process⟩
theorem ml_RL_83 : a_mv RL 83 yX12_channel cX12_channel 3 (some .int) 2 := ⟨⟨Or.inl (ws_t 1932 (by decide +kernel) rfl), in_RX12, co_yX12_channel, ⟨by decide +kernel, by decide +kernel, by decide +kernel⟩, by decide⟩, im_yX12_channel, se_yX12_channel⟩
theorem ml_RX12_551 : a_mv RX12 551 yX12_long0 cX12_long0 4 (some .int) 1 := ⟨⟨Or.inl (ws_t 1936 (by decide +kernel) rfl), in_RX12, co_yX12_long0, ⟨by decide +kernel, by decide +kernel, by decide +kernel⟩, by decide⟩, im_yX12_long0, se_yX12_long0⟩
theorem ml_RL_88 : a_mv RL 88 yX12_message cX12_message 8 (some .int) 3 := ⟨⟨Or.inl (ws_t 1940 (by decide +kernel) rfl), in_RX12, co_yX12_message, ⟨by decide +kernel, by decide +kernel, by decide +kernel⟩, by decide⟩, im_yX12_message, se_yX12_message⟩
theorem ml_RL_92 : a_mv RL 92 yX12_said cX12_said 3 (some .int) 2 := ⟨⟨Or.inl (ws_t 1944 (by decide +kernel) rfl), in_RX12, co_yX12_said, ⟨by decide +kernel, by decide +kernel, by decide +kernel⟩, by decide⟩, im_yX12_said, se_yX12_said⟩
theorem oc_init : Cond.code objectInit ⟨#[0xb1]⟩ 1 none ∈ WS := ws_t 27 rfl rfl
theorem oi_init : Cond.instanceMethod objectInit ∈ WS := ws_t 26 (by decide +kernel) rfl
