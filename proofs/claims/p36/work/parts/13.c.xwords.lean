/-! more words by place, more fields -/
theorem dk_wc_X8_checkPlace : Cond.code yX8_checkPlace cX8_checkPlace 2 none ∈ dk_ws := dk_w 384 (by decide +kernel) (by decide +kernel)
theorem dk_wt_X8_checkPlace : Cond.static yX8_checkPlace ∈ dk_ws := dk_w 383 (by decide +kernel) (by decide +kernel)
theorem yy_X8_checkPlace : dk_YS yX8_checkPlace cX8_checkPlace 2 none 2 := ⟨dk_wt_X8_checkPlace, dk_wn_RX8, dk_wc_X8_checkPlace, ⟨by decide, by decide, by decide⟩⟩
theorem dk_wc_X8_checkRange : Cond.code yX8_checkRange cX8_checkRange 3 none ∈ dk_ws := dk_w 569 (by decide +kernel) (by decide +kernel)
theorem dk_wt_X8_checkRange : Cond.static yX8_checkRange ∈ dk_ws := dk_w 568 (by decide +kernel) (by decide +kernel)
theorem yy_X8_checkRange : dk_YS yX8_checkRange cX8_checkRange 3 none 3 := ⟨dk_wt_X8_checkRange, dk_wn_RX8, dk_wc_X8_checkRange, ⟨by decide, by decide, by decide⟩⟩
theorem dk_wc_X8_checkNoWorld : Cond.code yX8_checkNoWorld cX8_checkNoWorld 1 none ∈ dk_ws := dk_w 536 (by decide +kernel) (by decide +kernel)
theorem dk_wt_X8_checkNoWorld : Cond.instanceMethod yX8_checkNoWorld ∈ dk_ws := dk_w 535 (by decide +kernel) (by decide +kernel)
theorem dk_ws_X8_checkNoWorld : Cond.selects RX8 yX8_checkNoWorld yX8_checkNoWorld ∈ dk_ws := dk_w 2 (by decide +kernel) (by decide +kernel)
theorem yy_X8_checkNoWorld : dk_YV yX8_checkNoWorld cX8_checkNoWorld 1 none 0 := ⟨dk_wt_X8_checkNoWorld, dk_ws_X8_checkNoWorld, dk_wn_RX8, dk_wc_X8_checkNoWorld, ⟨by decide, by decide, by decide⟩⟩
theorem dk_wc_X8_checkRoom : Cond.code yX8_checkRoom cX8_checkRoom 2 none ∈ dk_ws := dk_w 606 (by decide +kernel) (by decide +kernel)
theorem dk_wt_X8_checkRoom : Cond.static yX8_checkRoom ∈ dk_ws := dk_w 605 (by decide +kernel) (by decide +kernel)
theorem yy_X8_checkRoom : dk_YS yX8_checkRoom cX8_checkRoom 2 none 2 := ⟨dk_wt_X8_checkRoom, dk_wn_RX8, dk_wc_X8_checkRoom, ⟨by decide, by decide, by decide⟩⟩
theorem dk_wc_X8_addBeast : Cond.code yX8_addBeast cX8_addBeast 7 (some .int) ∈ dk_ws := dk_w 603 (by decide +kernel) (by decide +kernel)
theorem dk_wt_X8_addBeast : Cond.instanceMethod yX8_addBeast ∈ dk_ws := dk_w 601 (by decide +kernel) (by decide +kernel)
theorem dk_ws_X8_addBeast : Cond.selects RX8 yX8_addBeast yX8_addBeast ∈ dk_ws := dk_w 602 (by decide +kernel) (by decide +kernel)
theorem yy_X8_addBeast : dk_YV yX8_addBeast cX8_addBeast 7 (some .int) 5 := ⟨dk_wt_X8_addBeast, dk_ws_X8_addBeast, dk_wn_RX8, dk_wc_X8_addBeast, ⟨by decide, by decide, by decide⟩⟩
theorem dk_wm_X8_44 : Cond.methodLink RX8 44 yX8_checkPlace ∈ dk_ws := dk_w 382 (by decide +kernel) (by decide +kernel)
theorem dk_wm_X8_80 : Cond.methodLink RX8 80 yX8_checkRange ∈ dk_ws := dk_w 567 (by decide +kernel) (by decide +kernel)
theorem dk_wm_X8_59 : Cond.methodLink RX8 59 yX8_checkNoWorld ∈ dk_ws := dk_w 533 (by decide +kernel) (by decide +kernel)
theorem dk_wf_X8_123 : Cond.fieldLink RX8 123 (TX2 9).1 (TX2 9).2.1 (TX2 9).2.2.1 ∈ dk_ws := dk_w 153 (by decide +kernel) (by decide +kernel)
theorem dk_wm_X8_126 : Cond.methodLink RX8 126 yX8_checkRoom ∈ dk_ws := dk_w 604 (by decide +kernel) (by decide +kernel)
theorem dk_wm_X8_66 : Cond.methodLink RX8 66 yX8_spot ∈ dk_ws := dk_w 552 (by decide +kernel) (by decide +kernel)
theorem dk_wm_X8_120 : Cond.methodLink RX8 120 yX2_tell ∈ dk_ws := dk_w 596 (by decide +kernel) (by decide +kernel)
theorem dk_wc_X8_addLamp : Cond.code yX8_addLamp cX8_addLamp 4 (some .int) ∈ dk_ws := dk_w 642 (by decide +kernel) (by decide +kernel)
theorem dk_wt_X8_addLamp : Cond.instanceMethod yX8_addLamp ∈ dk_ws := dk_w 640 (by decide +kernel) (by decide +kernel)
theorem dk_ws_X8_addLamp : Cond.selects RX8 yX8_addLamp yX8_addLamp ∈ dk_ws := dk_w 641 (by decide +kernel) (by decide +kernel)
theorem yy_X8_addLamp : dk_YV yX8_addLamp cX8_addLamp 4 (some .int) 3 := ⟨dk_wt_X8_addLamp, dk_ws_X8_addLamp, dk_wn_RX8, dk_wc_X8_addLamp, ⟨by decide, by decide, by decide⟩⟩
theorem dk_wf_X8_146 : Cond.fieldLink RX8 146 (TX7 4).1 (TX7 4).2.1 (TX7 4).2.2.1 ∈ dk_ws := dk_w 227 (by decide +kernel) (by decide +kernel)
theorem dk_wf_X8_150 : Cond.fieldLink RX8 150 (TX4 2).1 (TX4 2).2.1 (TX4 2).2.2.1 ∈ dk_ws := dk_w 208 (by decide +kernel) (by decide +kernel)
theorem dk_wm_X8_153 : Cond.methodLink RX8 153 yX4_add ∈ dk_ws := dk_w 643 (by decide +kernel) (by decide +kernel)
theorem dk_wc_X8_checkThing : Cond.code yX8_checkThing cX8_checkThing 2 none ∈ dk_ws := dk_w 614 (by decide +kernel) (by decide +kernel)
theorem dk_wt_X8_checkThing : Cond.instanceMethod yX8_checkThing ∈ dk_ws := dk_w 613 (by decide +kernel) (by decide +kernel)
theorem dk_ws_X8_checkThing : Cond.selects RX8 yX8_checkThing yX8_checkThing ∈ dk_ws := dk_w 3 (by decide +kernel) (by decide +kernel)
theorem yy_X8_checkThing : dk_YV yX8_checkThing cX8_checkThing 2 none 1 := ⟨dk_wt_X8_checkThing, dk_ws_X8_checkThing, dk_wn_RX8, dk_wc_X8_checkThing, ⟨by decide, by decide, by decide⟩⟩
theorem dk_wf_X8_136 : Cond.fieldLink RX8 136 (TX7 3).1 (TX7 3).2.1 (TX7 3).2.2.1 ∈ dk_ws := dk_w 225 (by decide +kernel) (by decide +kernel)
theorem dk_wf_X8_140 : Cond.fieldLink RX8 140 (TX6 2).1 (TX6 2).2.1 (TX6 2).2.2.1 ∈ dk_ws := dk_w 190 (by decide +kernel) (by decide +kernel)
theorem dk_wc_X8_checkBag : Cond.code yX8_checkBag cX8_checkBag 2 none ∈ dk_ws := dk_w 618 (by decide +kernel) (by decide +kernel)
theorem dk_wt_X8_checkBag : Cond.instanceMethod yX8_checkBag ∈ dk_ws := dk_w 617 (by decide +kernel) (by decide +kernel)
theorem dk_ws_X8_checkBag : Cond.selects RX8 yX8_checkBag yX8_checkBag ∈ dk_ws := dk_w 4 (by decide +kernel) (by decide +kernel)
theorem yy_X8_checkBag : dk_YV yX8_checkBag cX8_checkBag 2 none 1 := ⟨dk_wt_X8_checkBag, dk_ws_X8_checkBag, dk_wn_RX8, dk_wc_X8_checkBag, ⟨by decide, by decide, by decide⟩⟩
theorem dk_wf_X8_220 : Cond.fieldLink RX8 220 (TX6 0).1 (TX6 0).2.1 (TX6 0).2.2.1 ∈ dk_ws := dk_w 183 (by decide +kernel) (by decide +kernel)
theorem dk_wc_X8_addThing : Cond.code yX8_addThing cX8_addThing 5 (some .int) ∈ dk_ws := dk_w 610 (by decide +kernel) (by decide +kernel)
theorem dk_wt_X8_addThing : Cond.instanceMethod yX8_addThing ∈ dk_ws := dk_w 608 (by decide +kernel) (by decide +kernel)
theorem dk_ws_X8_addThing : Cond.selects RX8 yX8_addThing yX8_addThing ∈ dk_ws := dk_w 609 (by decide +kernel) (by decide +kernel)
theorem yy_X8_addThing : dk_YV yX8_addThing cX8_addThing 5 (some .int) 4 := ⟨dk_wt_X8_addThing, dk_ws_X8_addThing, dk_wn_RX8, dk_wc_X8_addThing, ⟨by decide, by decide, by decide⟩⟩
theorem dk_wm_X8_129 : Cond.methodLink RX8 129 yX8_checkThing ∈ dk_ws := dk_w 611 (by decide +kernel) (by decide +kernel)
theorem dk_wm_X8_133 : Cond.methodLink RX8 133 yX8_checkBag ∈ dk_ws := dk_w 615 (by decide +kernel) (by decide +kernel)
theorem dk_wm_X8_143 : Cond.methodLink RX8 143 yX6_add ∈ dk_ws := dk_w 634 (by decide +kernel) (by decide +kernel)
theorem dk_wc_X8_begin : Cond.code yX8_begin cX8_begin 2 (some .int) ∈ dk_ws := dk_w 658 (by decide +kernel) (by decide +kernel)
theorem dk_wt_X8_begin : Cond.instanceMethod yX8_begin ∈ dk_ws := dk_w 656 (by decide +kernel) (by decide +kernel)
theorem dk_ws_X8_begin : Cond.selects RX8 yX8_begin yX8_begin ∈ dk_ws := dk_w 657 (by decide +kernel) (by decide +kernel)
theorem yy_X8_begin : dk_YV yX8_begin cX8_begin 2 (some .int) 1 := ⟨dk_wt_X8_begin, dk_ws_X8_begin, dk_wn_RX8, dk_wc_X8_begin, ⟨by decide, by decide, by decide⟩⟩
theorem dk_wm_X8_154 : Cond.methodLink RX8 154 yX2_allStandApart ∈ dk_ws := dk_w 659 (by decide +kernel) (by decide +kernel)
theorem dk_wm_X8_158 : Cond.methodLink RX8 158 yX7_allStandFree ∈ dk_ws := dk_w 668 (by decide +kernel) (by decide +kernel)
theorem dk_wm_X8_164 : Cond.methodLink RX8 164 yX8_make ∈ dk_ws := dk_w 681 (by decide +kernel) (by decide +kernel)
theorem dk_wc_X8_cell : Cond.code yX8_cell cX8_cell 3 (some .char) ∈ dk_ws := dk_w 868 (by decide +kernel) (by decide +kernel)
theorem dk_wt_X8_cell : Cond.instanceMethod yX8_cell ∈ dk_ws := dk_w 866 (by decide +kernel) (by decide +kernel)
theorem dk_ws_X8_cell : Cond.selects RX8 yX8_cell yX8_cell ∈ dk_ws := dk_w 867 (by decide +kernel) (by decide +kernel)
theorem yy_X8_cell : dk_YV yX8_cell cX8_cell 3 (some .char) 2 := ⟨dk_wt_X8_cell, dk_ws_X8_cell, dk_wn_RX8, dk_wc_X8_cell, ⟨by decide, by decide, by decide⟩⟩
theorem dk_wf_X8_62 : Cond.fieldLink RX8 62 (TX7 0).1 (TX7 0).2.1 (TX7 0).2.2.1 ∈ dk_ws := dk_w 217 (by decide +kernel) (by decide +kernel)
theorem dk_wm_X8_70 : Cond.methodLink RX8 70 yX1_signAt ∈ dk_ws := dk_w 555 (by decide +kernel) (by decide +kernel)
theorem dk_wc_X8_checkCarried : Cond.code yX8_checkCarried cX8_checkCarried 2 none ∈ dk_ws := dk_w 1048 (by decide +kernel) (by decide +kernel)
theorem dk_wt_X8_checkCarried : Cond.instanceMethod yX8_checkCarried ∈ dk_ws := dk_w 1047 (by decide +kernel) (by decide +kernel)
theorem dk_ws_X8_checkCarried : Cond.selects RX8 yX8_checkCarried yX8_checkCarried ∈ dk_ws := dk_w 27 (by decide +kernel) (by decide +kernel)
theorem yy_X8_checkCarried : dk_YV yX8_checkCarried cX8_checkCarried 2 none 1 := ⟨dk_wt_X8_checkCarried, dk_ws_X8_checkCarried, dk_wn_RX8, dk_wc_X8_checkCarried, ⟨by decide, by decide, by decide⟩⟩
theorem dk_wm_X8_305 : Cond.methodLink RX8 305 yX6_outerPlace ∈ dk_ws := dk_w 1049 (by decide +kernel) (by decide +kernel)
theorem dk_wc_X8_checkCreature : Cond.code yX8_checkCreature cX8_checkCreature 3 none ∈ dk_ws := dk_w 861 (by decide +kernel) (by decide +kernel)
theorem dk_wt_X8_checkCreature : Cond.instanceMethod yX8_checkCreature ∈ dk_ws := dk_w 860 (by decide +kernel) (by decide +kernel)
theorem dk_ws_X8_checkCreature : Cond.selects RX8 yX8_checkCreature yX8_checkCreature ∈ dk_ws := dk_w 13 (by decide +kernel) (by decide +kernel)
theorem yy_X8_checkCreature : dk_YV yX8_checkCreature cX8_checkCreature 3 none 2 := ⟨dk_wt_X8_checkCreature, dk_ws_X8_checkCreature, dk_wn_RX8, dk_wc_X8_checkCreature, ⟨by decide, by decide, by decide⟩⟩
theorem dk_wc_X8_checkInHands : Cond.code yX8_checkInHands cX8_checkInHands 2 none ∈ dk_ws := dk_w 1040 (by decide +kernel) (by decide +kernel)
theorem dk_wt_X8_checkInHands : Cond.instanceMethod yX8_checkInHands ∈ dk_ws := dk_w 1039 (by decide +kernel) (by decide +kernel)
theorem dk_ws_X8_checkInHands : Cond.selects RX8 yX8_checkInHands yX8_checkInHands ∈ dk_ws := dk_w 26 (by decide +kernel) (by decide +kernel)
theorem yy_X8_checkInHands : dk_YV yX8_checkInHands cX8_checkInHands 2 none 1 := ⟨dk_wt_X8_checkInHands, dk_ws_X8_checkInHands, dk_wn_RX8, dk_wc_X8_checkInHands, ⟨by decide, by decide, by decide⟩⟩
theorem dk_wf_X8_189 : Cond.fieldLink RX8 189 (TX6 1).1 (TX6 1).2.1 (TX6 1).2.2.1 ∈ dk_ws := dk_w 187 (by decide +kernel) (by decide +kernel)
theorem dk_wc_X8_checkWay : Cond.code yX8_checkWay cX8_checkWay 1 none ∈ dk_ws := dk_w 909 (by decide +kernel) (by decide +kernel)
theorem dk_wt_X8_checkWay : Cond.static yX8_checkWay ∈ dk_ws := dk_w 908 (by decide +kernel) (by decide +kernel)
theorem yy_X8_checkWay : dk_YS yX8_checkWay cX8_checkWay 1 none 1 := ⟨dk_wt_X8_checkWay, dk_wn_RX8, dk_wc_X8_checkWay, ⟨by decide, by decide, by decide⟩⟩
theorem dk_wc_X8_checkWorld : Cond.code yX8_checkWorld cX8_checkWorld 1 none ∈ dk_ws := dk_w 913 (by decide +kernel) (by decide +kernel)
theorem dk_wt_X8_checkWorld : Cond.instanceMethod yX8_checkWorld ∈ dk_ws := dk_w 912 (by decide +kernel) (by decide +kernel)
theorem dk_ws_X8_checkWorld : Cond.selects RX8 yX8_checkWorld yX8_checkWorld ∈ dk_ws := dk_w 14 (by decide +kernel) (by decide +kernel)
theorem yy_X8_checkWorld : dk_YV yX8_checkWorld cX8_checkWorld 1 none 0 := ⟨dk_wt_X8_checkWorld, dk_ws_X8_checkWorld, dk_wn_RX8, dk_wc_X8_checkWorld, ⟨by decide, by decide, by decide⟩⟩
theorem dk_wc_X8_drink : Cond.code yX8_drink cX8_drink 2 (some .int) ∈ dk_ws := dk_w 1054 (by decide +kernel) (by decide +kernel)
theorem dk_wt_X8_drink : Cond.instanceMethod yX8_drink ∈ dk_ws := dk_w 1052 (by decide +kernel) (by decide +kernel)
theorem dk_ws_X8_drink : Cond.selects RX8 yX8_drink yX8_drink ∈ dk_ws := dk_w 1053 (by decide +kernel) (by decide +kernel)
theorem yy_X8_drink : dk_YV yX8_drink cX8_drink 2 (some .int) 1 := ⟨dk_wt_X8_drink, dk_ws_X8_drink, dk_wn_RX8, dk_wc_X8_drink, ⟨by decide, by decide, by decide⟩⟩
theorem dk_wm_X8_178 : Cond.methodLink RX8 178 yX8_checkWorld ∈ dk_ws := dk_w 910 (by decide +kernel) (by decide +kernel)
theorem dk_wm_X8_210 : Cond.methodLink RX8 210 yX8_checkInHands ∈ dk_ws := dk_w 1037 (by decide +kernel) (by decide +kernel)
theorem dk_wm_X8_223 : Cond.methodLink RX8 223 yX8_isPotion ∈ dk_ws := dk_w 1055 (by decide +kernel) (by decide +kernel)
theorem dk_wm_X8_184 : Cond.methodLink RX8 184 yX8_act ∈ dk_ws := dk_w 914 (by decide +kernel) (by decide +kernel)
theorem dk_wc_X8_drop : Cond.code yX8_drop cX8_drop 2 (some .int) ∈ dk_ws := dk_w 1036 (by decide +kernel) (by decide +kernel)
theorem dk_wt_X8_drop : Cond.instanceMethod yX8_drop ∈ dk_ws := dk_w 1034 (by decide +kernel) (by decide +kernel)
theorem dk_ws_X8_drop : Cond.selects RX8 yX8_drop yX8_drop ∈ dk_ws := dk_w 1035 (by decide +kernel) (by decide +kernel)
theorem yy_X8_drop : dk_YV yX8_drop cX8_drop 2 (some .int) 1 := ⟨dk_wt_X8_drop, dk_ws_X8_drop, dk_wn_RX8, dk_wc_X8_drop, ⟨by decide, by decide, by decide⟩⟩
theorem dk_wc_X8_go : Cond.code yX8_go cX8_go 3 (some .char) ∈ dk_ws := dk_w 906 (by decide +kernel) (by decide +kernel)
theorem dk_wt_X8_go : Cond.instanceMethod yX8_go ∈ dk_ws := dk_w 904 (by decide +kernel) (by decide +kernel)
theorem dk_ws_X8_go : Cond.selects RX8 yX8_go yX8_go ∈ dk_ws := dk_w 905 (by decide +kernel) (by decide +kernel)
theorem yy_X8_go : dk_YV yX8_go cX8_go 3 (some .char) 1 := ⟨dk_wt_X8_go, dk_ws_X8_go, dk_wn_RX8, dk_wc_X8_go, ⟨by decide, by decide, by decide⟩⟩
theorem dk_wm_X8_181 : Cond.methodLink RX8 181 yX8_checkWay ∈ dk_ws := dk_w 907 (by decide +kernel) (by decide +kernel)
theorem dk_wc_X8_healthOf : Cond.code yX8_healthOf cX8_healthOf 2 (some .int) ∈ dk_ws := dk_w 872 (by decide +kernel) (by decide +kernel)
theorem dk_wt_X8_healthOf : Cond.instanceMethod yX8_healthOf ∈ dk_ws := dk_w 870 (by decide +kernel) (by decide +kernel)
theorem dk_ws_X8_healthOf : Cond.selects RX8 yX8_healthOf yX8_healthOf ∈ dk_ws := dk_w 871 (by decide +kernel) (by decide +kernel)
theorem yy_X8_healthOf : dk_YV yX8_healthOf cX8_healthOf 2 (some .int) 1 := ⟨dk_wt_X8_healthOf, dk_ws_X8_healthOf, dk_wn_RX8, dk_wc_X8_healthOf, ⟨by decide, by decide, by decide⟩⟩
theorem dk_wm_X8_237 : Cond.methodLink RX8 237 yX8_checkCreature ∈ dk_ws := dk_w 858 (by decide +kernel) (by decide +kernel)
theorem dk_wf_X8_115 : Cond.fieldLink RX8 115 (TX2 4).1 (TX2 4).2.1 (TX2 4).2.2.1 ∈ dk_ws := dk_w 144 (by decide +kernel) (by decide +kernel)
theorem dk_wc_X8_hurl : Cond.code yX8_hurl cX8_hurl 3 (some .int) ∈ dk_ws := dk_w 1059 (by decide +kernel) (by decide +kernel)
theorem dk_wt_X8_hurl : Cond.instanceMethod yX8_hurl ∈ dk_ws := dk_w 1057 (by decide +kernel) (by decide +kernel)
theorem dk_ws_X8_hurl : Cond.selects RX8 yX8_hurl yX8_hurl ∈ dk_ws := dk_w 1058 (by decide +kernel) (by decide +kernel)
theorem yy_X8_hurl : dk_YV yX8_hurl cX8_hurl 3 (some .int) 2 := ⟨dk_wt_X8_hurl, dk_ws_X8_hurl, dk_wn_RX8, dk_wc_X8_hurl, ⟨by decide, by decide, by decide⟩⟩
theorem dk_wc_X8_isSame : Cond.code yX8_isSame cX8_isSame 1 (some .boolean) ∈ dk_ws := dk_w 1071 (by decide +kernel) (by decide +kernel)
theorem dk_wt_X8_isSame : Cond.instanceMethod yX8_isSame ∈ dk_ws := dk_w 1069 (by decide +kernel) (by decide +kernel)
theorem dk_ws_X8_isSame : Cond.selects RX8 yX8_isSame yX8_isSame ∈ dk_ws := dk_w 1070 (by decide +kernel) (by decide +kernel)
theorem yy_X8_isSame : dk_YV yX8_isSame cX8_isSame 1 (some .boolean) 0 := ⟨dk_wt_X8_isSame, dk_ws_X8_isSame, dk_wn_RX8, dk_wc_X8_isSame, ⟨by decide, by decide, by decide⟩⟩
theorem dk_wm_X8_253 : Cond.methodLink RX8 253 yX8_redo ∈ dk_ws := dk_w 1072 (by decide +kernel) (by decide +kernel)
theorem dk_wm_X8_256 : Cond.methodLink RX8 256 yX7_isLike ∈ dk_ws := dk_w 1076 (by decide +kernel) (by decide +kernel)
theorem dk_wc_X8_pack : Cond.code yX8_pack cX8_pack 3 (some .int) ∈ dk_ws := dk_w 1044 (by decide +kernel) (by decide +kernel)
theorem dk_wt_X8_pack : Cond.instanceMethod yX8_pack ∈ dk_ws := dk_w 1042 (by decide +kernel) (by decide +kernel)
theorem dk_ws_X8_pack : Cond.selects RX8 yX8_pack yX8_pack ∈ dk_ws := dk_w 1043 (by decide +kernel) (by decide +kernel)
theorem yy_X8_pack : dk_YV yX8_pack cX8_pack 3 (some .int) 2 := ⟨dk_wt_X8_pack, dk_ws_X8_pack, dk_wn_RX8, dk_wc_X8_pack, ⟨by decide, by decide, by decide⟩⟩
theorem dk_wm_X8_213 : Cond.methodLink RX8 213 yX8_checkCarried ∈ dk_ws := dk_w 1045 (by decide +kernel) (by decide +kernel)
theorem dk_wm_X8_216 : Cond.methodLink RX8 216 yX6_isWithin ∈ dk_ws := dk_w 1050 (by decide +kernel) (by decide +kernel)
theorem dk_wc_X8_placeOf : Cond.code yX8_placeOf cX8_placeOf 2 (some .int) ∈ dk_ws := dk_w 857 (by decide +kernel) (by decide +kernel)
theorem dk_wt_X8_placeOf : Cond.instanceMethod yX8_placeOf ∈ dk_ws := dk_w 855 (by decide +kernel) (by decide +kernel)
theorem dk_ws_X8_placeOf : Cond.selects RX8 yX8_placeOf yX8_placeOf ∈ dk_ws := dk_w 856 (by decide +kernel) (by decide +kernel)
theorem yy_X8_placeOf : dk_YV yX8_placeOf cX8_placeOf 2 (some .int) 1 := ⟨dk_wt_X8_placeOf, dk_ws_X8_placeOf, dk_wn_RX8, dk_wc_X8_placeOf, ⟨by decide, by decide, by decide⟩⟩
theorem dk_wf_X8_240 : Cond.fieldLink RX8 240 (TX2 0).1 (TX2 0).2.1 (TX2 0).2.2.1 ∈ dk_ws := dk_w 137 (by decide +kernel) (by decide +kernel)
theorem dk_wm_X8_241 : Cond.methodLink RX8 241 yX8_shownPlace ∈ dk_ws := dk_w 862 (by decide +kernel) (by decide +kernel)
theorem dk_wc_X8_pray : Cond.code yX8_pray cX8_pray 1 (some .int) ∈ dk_ws := dk_w 1067 (by decide +kernel) (by decide +kernel)
theorem dk_wt_X8_pray : Cond.instanceMethod yX8_pray ∈ dk_ws := dk_w 1065 (by decide +kernel) (by decide +kernel)
theorem dk_ws_X8_pray : Cond.selects RX8 yX8_pray yX8_pray ∈ dk_ws := dk_w 1066 (by decide +kernel) (by decide +kernel)
theorem yy_X8_pray : dk_YV yX8_pray cX8_pray 1 (some .int) 0 := ⟨dk_wt_X8_pray, dk_ws_X8_pray, dk_wn_RX8, dk_wc_X8_pray, ⟨by decide, by decide, by decide⟩⟩
theorem dk_wc_X8_rest : Cond.code yX8_rest cX8_rest 1 (some .int) ∈ dk_ws := dk_w 1011 (by decide +kernel) (by decide +kernel)
theorem dk_wt_X8_rest : Cond.instanceMethod yX8_rest ∈ dk_ws := dk_w 1009 (by decide +kernel) (by decide +kernel)
theorem dk_ws_X8_rest : Cond.selects RX8 yX8_rest yX8_rest ∈ dk_ws := dk_w 1010 (by decide +kernel) (by decide +kernel)
theorem yy_X8_rest : dk_YV yX8_rest cX8_rest 1 (some .int) 0 := ⟨dk_wt_X8_rest, dk_ws_X8_rest, dk_wn_RX8, dk_wc_X8_rest, ⟨by decide, by decide, by decide⟩⟩
theorem dk_wc_X8_setHero : Cond.code yX8_setHero cX8_setHero 6 (some .int) ∈ dk_ws := dk_w 595 (by decide +kernel) (by decide +kernel)
theorem dk_wt_X8_setHero : Cond.instanceMethod yX8_setHero ∈ dk_ws := dk_w 593 (by decide +kernel) (by decide +kernel)
theorem dk_ws_X8_setHero : Cond.selects RX8 yX8_setHero yX8_setHero ∈ dk_ws := dk_w 594 (by decide +kernel) (by decide +kernel)
theorem yy_X8_setHero : dk_YV yX8_setHero cX8_setHero 6 (some .int) 4 := ⟨dk_wt_X8_setHero, dk_ws_X8_setHero, dk_wn_RX8, dk_wc_X8_setHero, ⟨by decide, by decide, by decide⟩⟩
theorem dk_wc_X8_setKind : Cond.code yX8_setKind cX8_setKind 5 (some .int) ∈ dk_ws := dk_w 566 (by decide +kernel) (by decide +kernel)
theorem dk_wt_X8_setKind : Cond.instanceMethod yX8_setKind ∈ dk_ws := dk_w 564 (by decide +kernel) (by decide +kernel)
theorem dk_ws_X8_setKind : Cond.selects RX8 yX8_setKind yX8_setKind ∈ dk_ws := dk_w 565 (by decide +kernel) (by decide +kernel)
theorem yy_X8_setKind : dk_YV yX8_setKind cX8_setKind 5 (some .int) 3 := ⟨dk_wt_X8_setKind, dk_ws_X8_setKind, dk_wn_RX8, dk_wc_X8_setKind, ⟨by decide, by decide, by decide⟩⟩
theorem dk_wf_X8_84 : Cond.fieldLink RX8 84 (TX7 1).1 (TX7 1).2.1 (TX7 1).2.2.1 ∈ dk_ws := dk_w 220 (by decide +kernel) (by decide +kernel)
theorem dk_wf_X8_88 : Cond.fieldLink RX8 88 (TX3 0).1 (TX3 0).2.1 (TX3 0).2.2.1 ∈ dk_ws := dk_w 108 (by decide +kernel) (by decide +kernel)
theorem dk_wm_X8_98 : Cond.methodLink RX8 98 yX3_tell ∈ dk_ws := dk_w 573 (by decide +kernel) (by decide +kernel)
theorem dk_wc_X8_shout : Cond.code yX8_shout cX8_shout 2 (some .int) ∈ dk_ws := dk_w 1063 (by decide +kernel) (by decide +kernel)
theorem dk_wt_X8_shout : Cond.instanceMethod yX8_shout ∈ dk_ws := dk_w 1061 (by decide +kernel) (by decide +kernel)
theorem dk_ws_X8_shout : Cond.selects RX8 yX8_shout yX8_shout ∈ dk_ws := dk_w 1062 (by decide +kernel) (by decide +kernel)
theorem yy_X8_shout : dk_YV yX8_shout cX8_shout 2 (some .int) 1 := ⟨dk_wt_X8_shout, dk_ws_X8_shout, dk_wn_RX8, dk_wc_X8_shout, ⟨by decide, by decide, by decide⟩⟩
theorem dk_wc_X8_take : Cond.code yX8_take cX8_take 2 (some .int) ∈ dk_ws := dk_w 1015 (by decide +kernel) (by decide +kernel)
theorem dk_wt_X8_take : Cond.instanceMethod yX8_take ∈ dk_ws := dk_w 1013 (by decide +kernel) (by decide +kernel)
theorem dk_ws_X8_take : Cond.selects RX8 yX8_take yX8_take ∈ dk_ws := dk_w 1014 (by decide +kernel) (by decide +kernel)
theorem yy_X8_take : dk_YV yX8_take cX8_take 2 (some .int) 1 := ⟨dk_wt_X8_take, dk_ws_X8_take, dk_wn_RX8, dk_wc_X8_take, ⟨by decide, by decide, by decide⟩⟩
theorem dk_wm_X8_192 : Cond.methodLink RX8 192 yX7_heroSpot ∈ dk_ws := dk_w 1016 (by decide +kernel) (by decide +kernel)
theorem dk_wm_X8_199 : Cond.methodLink RX8 199 yX6_carriedWeight ∈ dk_ws := dk_w 1032 (by decide +kernel) (by decide +kernel)
theorem dk_wm_X8_203 : Cond.methodLink RX8 203 yX6_wholeWeight ∈ dk_ws := dk_w 884 (by decide +kernel) (by decide +kernel)
theorem dk_wc_X8_weightOf : Cond.code yX8_weightOf cX8_weightOf 3 (some .int) ∈ dk_ws := dk_w 883 (by decide +kernel) (by decide +kernel)
theorem dk_wt_X8_weightOf : Cond.instanceMethod yX8_weightOf ∈ dk_ws := dk_w 881 (by decide +kernel) (by decide +kernel)
theorem dk_ws_X8_weightOf : Cond.selects RX8 yX8_weightOf yX8_weightOf ∈ dk_ws := dk_w 882 (by decide +kernel) (by decide +kernel)
theorem yy_X8_weightOf : dk_YV yX8_weightOf cX8_weightOf 3 (some .int) 1 := ⟨dk_wt_X8_weightOf, dk_ws_X8_weightOf, dk_wn_RX8, dk_wc_X8_weightOf, ⟨by decide, by decide, by decide⟩⟩
theorem dk_wc_X8_whereIs : Cond.code yX8_whereIs cX8_whereIs 3 (some .int) ∈ dk_ws := dk_w 879 (by decide +kernel) (by decide +kernel)
theorem dk_wt_X8_whereIs : Cond.instanceMethod yX8_whereIs ∈ dk_ws := dk_w 877 (by decide +kernel) (by decide +kernel)
theorem dk_ws_X8_whereIs : Cond.selects RX8 yX8_whereIs yX8_whereIs ∈ dk_ws := dk_w 878 (by decide +kernel) (by decide +kernel)
theorem yy_X8_whereIs : dk_YV yX8_whereIs cX8_whereIs 3 (some .int) 1 := ⟨dk_wt_X8_whereIs, dk_ws_X8_whereIs, dk_wn_RX8, dk_wc_X8_whereIs, ⟨by decide, by decide, by decide⟩⟩
theorem gf_X8_123 {G : dk_G} {p : Program} {l : Launch} {e : Env} {R : Room} {s : State} {m : MethodId} {args : Array Value} {below : List Frame} {meth : Method} {c : Code} {cells slots : Nat} {Q : State → Prop} {cc : ByteArray} {nL : Nat} {pc n : Nat} {L : List (Option Value)} {st : List Value} {σ : dk_S} {a : Nat} (C : dk_C G p R s m args c cells slots cc nL RX8) (hd : (a, 13) ∈ dk_dom G) (d : decode cc pc = .ok (.getfield 123, 3)) (hn : pc + 3 = n) (k : dk_W G p l e R s m args below meth c cells slots Q n L (.int (σ a 13 9) :: st) σ) : dk_W G p l e R s m args below meth c cells slots Q pc L (dk_r G a 13 :: st) σ :=
  dk_getI (ci := 2) (k0 := 9) (N := 10) (T := TX2) (Cn := RX2) C dk_sh13 rfl rfl (by decide) dk_ui2 dk_wf_X8_123 hd d hn k
theorem pf_X8_123 {G : dk_G} {p : Program} {l : Launch} {e : Env} {R : Room} {s : State} {m : MethodId} {args : Array Value} {below : List Frame} {meth : Method} {c : Code} {cells slots : Nat} {Q : State → Prop} {cc : ByteArray} {nL : Nat} {pc n : Nat} {L : List (Option Value)} {st : List Value} {σ : dk_S} {a : Nat} {x : Int32} (C : dk_C G p R s m args c cells slots cc nL RX8) (hna : narrow .int (.int x) = .int x) (hfit : fits .int (.int x) = true) (hd : (a, 13) ∈ dk_dom G) (d : decode cc pc = .ok (.putfield 123, 3)) (hn : pc + 3 = n) (k : dk_W G p l e R s m args below meth c cells slots Q n L st (dk_row σ a 13 (upd (σ a 13) 9 x))) : dk_W G p l e R s m args below meth c cells slots Q pc L (.int x :: dk_r G a 13 :: st) σ :=
  dk_put (ci := 2) (k0 := 9) (N := 10) (T := TX2) (Cn := RX2) (ty := .int) C dk_sh13 rfl rfl (by decide) dk_ui2 tyX2 tyX2_ok nmX2 dk_wf_X8_123 (by decide) (by decide) hna hfit hd d hn k
theorem gf_X8_146 {G : dk_G} {p : Program} {l : Launch} {e : Env} {R : Room} {s : State} {m : MethodId} {args : Array Value} {below : List Frame} {meth : Method} {c : Code} {cells slots : Nat} {Q : State → Prop} {cc : ByteArray} {nL : Nat} {pc n : Nat} {L : List (Option Value)} {st : List Value} {σ : dk_S} {a : Nat} (C : dk_C G p R s m args c cells slots cc nL RX8) (hd : (a, 0) ∈ dk_dom G) (d : decode cc pc = .ok (.getfield 146, 3)) (hn : pc + 3 = n) (k : dk_W G p l e R s m args below meth c cells slots Q n L (dk_r G a 26 :: st) σ) : dk_W G p l e R s m args below meth c cells slots Q pc L (dk_r G a 0 :: st) σ :=
  dk_getR (ci := 7) (k0 := 4) (N := 10) (T := TX7) (Cn := RX7) C dk_sh0 rfl rfl rfl (by decide) dk_ui7 dk_wf_X8_146 hd d hn k
theorem gf_X8_150 {G : dk_G} {p : Program} {l : Launch} {e : Env} {R : Room} {s : State} {m : MethodId} {args : Array Value} {below : List Frame} {meth : Method} {c : Code} {cells slots : Nat} {Q : State → Prop} {cc : ByteArray} {nL : Nat} {pc n : Nat} {L : List (Option Value)} {st : List Value} {σ : dk_S} {a : Nat} (C : dk_C G p R s m args c cells slots cc nL RX8) (hd : (a, 26) ∈ dk_dom G) (d : decode cc pc = .ok (.getfield 150, 3)) (hn : pc + 3 = n) (k : dk_W G p l e R s m args below meth c cells slots Q n L (.int (σ a 26 2) :: st) σ) : dk_W G p l e R s m args below meth c cells slots Q pc L (dk_r G a 26 :: st) σ :=
  dk_getI (ci := 4) (k0 := 2) (N := 3) (T := TX4) (Cn := RX4) C dk_sh26 rfl rfl (by decide) dk_ui4 dk_wf_X8_150 hd d hn k
theorem gf_X8_136 {G : dk_G} {p : Program} {l : Launch} {e : Env} {R : Room} {s : State} {m : MethodId} {args : Array Value} {below : List Frame} {meth : Method} {c : Code} {cells slots : Nat} {Q : State → Prop} {cc : ByteArray} {nL : Nat} {pc n : Nat} {L : List (Option Value)} {st : List Value} {σ : dk_S} {a : Nat} (C : dk_C G p R s m args c cells slots cc nL RX8) (hd : (a, 0) ∈ dk_dom G) (d : decode cc pc = .ok (.getfield 136, 3)) (hn : pc + 3 = n) (k : dk_W G p l e R s m args below meth c cells slots Q n L (dk_r G a 23 :: st) σ) : dk_W G p l e R s m args below meth c cells slots Q pc L (dk_r G a 0 :: st) σ :=
  dk_getR (ci := 7) (k0 := 3) (N := 10) (T := TX7) (Cn := RX7) C dk_sh0 rfl rfl rfl (by decide) dk_ui7 dk_wf_X8_136 hd d hn k
theorem gf_X8_140 {G : dk_G} {p : Program} {l : Launch} {e : Env} {R : Room} {s : State} {m : MethodId} {args : Array Value} {below : List Frame} {meth : Method} {c : Code} {cells slots : Nat} {Q : State → Prop} {cc : ByteArray} {nL : Nat} {pc n : Nat} {L : List (Option Value)} {st : List Value} {σ : dk_S} {a : Nat} (C : dk_C G p R s m args c cells slots cc nL RX8) (hd : (a, 23) ∈ dk_dom G) (d : decode cc pc = .ok (.getfield 140, 3)) (hn : pc + 3 = n) (k : dk_W G p l e R s m args below meth c cells slots Q n L (.int (σ a 23 2) :: st) σ) : dk_W G p l e R s m args below meth c cells slots Q pc L (dk_r G a 23 :: st) σ :=
  dk_getI (ci := 6) (k0 := 2) (N := 3) (T := TX6) (Cn := RX6) C dk_sh23 rfl rfl (by decide) dk_ui6 dk_wf_X8_140 hd d hn k
theorem gf_X8_220 {G : dk_G} {p : Program} {l : Launch} {e : Env} {R : Room} {s : State} {m : MethodId} {args : Array Value} {below : List Frame} {meth : Method} {c : Code} {cells slots : Nat} {Q : State → Prop} {cc : ByteArray} {nL : Nat} {pc n : Nat} {L : List (Option Value)} {st : List Value} {σ : dk_S} {a : Nat} (C : dk_C G p R s m args c cells slots cc nL RX8) (hd : (a, 23) ∈ dk_dom G) (d : decode cc pc = .ok (.getfield 220, 3)) (hn : pc + 3 = n) (k : dk_W G p l e R s m args below meth c cells slots Q n L (dk_r G a 24 :: st) σ) : dk_W G p l e R s m args below meth c cells slots Q pc L (dk_r G a 23 :: st) σ :=
  dk_getR (ci := 6) (k0 := 0) (N := 3) (T := TX6) (Cn := RX6) C dk_sh23 rfl rfl rfl (by decide) dk_ui6 dk_wf_X8_220 hd d hn k
theorem pf_X8_168 {G : dk_G} {p : Program} {l : Launch} {e : Env} {R : Room} {s : State} {m : MethodId} {args : Array Value} {below : List Frame} {meth : Method} {c : Code} {cells slots : Nat} {Q : State → Prop} {cc : ByteArray} {nL : Nat} {pc n : Nat} {L : List (Option Value)} {st : List Value} {σ : dk_S} {a : Nat} {x : Int32} (C : dk_C G p R s m args c cells slots cc nL RX8) (hna : narrow .int (.int x) = .int x) (hfit : fits .int (.int x) = true) (hd : (a, 41) ∈ dk_dom G) (d : decode cc pc = .ok (.putfield 168, 3)) (hn : pc + 3 = n) (k : dk_W G p l e R s m args below meth c cells slots Q n L st (dk_row σ a 41 (upd (σ a 41) 3 x))) : dk_W G p l e R s m args below meth c cells slots Q pc L (.int x :: dk_r G a 41 :: st) σ :=
  dk_put (ci := 5) (k0 := 3) (N := 4) (T := TX5) (Cn := RX5) (ty := .int) C dk_sh41 rfl rfl (by decide) dk_ui5 tyX5 tyX5_ok nmX5 dk_wf_X8_168 (by decide) (by decide) hna hfit hd d hn k
theorem gf_X8_62 {G : dk_G} {p : Program} {l : Launch} {e : Env} {R : Room} {s : State} {m : MethodId} {args : Array Value} {below : List Frame} {meth : Method} {c : Code} {cells slots : Nat} {Q : State → Prop} {cc : ByteArray} {nL : Nat} {pc n : Nat} {L : List (Option Value)} {st : List Value} {σ : dk_S} {a : Nat} (C : dk_C G p R s m args c cells slots cc nL RX8) (hd : (a, 0) ∈ dk_dom G) (d : decode cc pc = .ok (.getfield 62, 3)) (hn : pc + 3 = n) (k : dk_W G p l e R s m args below meth c cells slots Q n L (dk_r G a 1 :: st) σ) : dk_W G p l e R s m args below meth c cells slots Q pc L (dk_r G a 0 :: st) σ :=
  dk_getR (ci := 7) (k0 := 0) (N := 10) (T := TX7) (Cn := RX7) C dk_sh0 rfl rfl rfl (by decide) dk_ui7 dk_wf_X8_62 hd d hn k
theorem gf_X8_189 {G : dk_G} {p : Program} {l : Launch} {e : Env} {R : Room} {s : State} {m : MethodId} {args : Array Value} {below : List Frame} {meth : Method} {c : Code} {cells slots : Nat} {Q : State → Prop} {cc : ByteArray} {nL : Nat} {pc n : Nat} {L : List (Option Value)} {st : List Value} {σ : dk_S} {a : Nat} (C : dk_C G p R s m args c cells slots cc nL RX8) (hd : (a, 23) ∈ dk_dom G) (d : decode cc pc = .ok (.getfield 189, 3)) (hn : pc + 3 = n) (k : dk_W G p l e R s m args below meth c cells slots Q n L (dk_r G a 25 :: st) σ) : dk_W G p l e R s m args below meth c cells slots Q pc L (dk_r G a 23 :: st) σ :=
  dk_getR (ci := 6) (k0 := 1) (N := 3) (T := TX6) (Cn := RX6) C dk_sh23 rfl rfl rfl (by decide) dk_ui6 dk_wf_X8_189 hd d hn k
theorem gf_X8_115 {G : dk_G} {p : Program} {l : Launch} {e : Env} {R : Room} {s : State} {m : MethodId} {args : Array Value} {below : List Frame} {meth : Method} {c : Code} {cells slots : Nat} {Q : State → Prop} {cc : ByteArray} {nL : Nat} {pc n : Nat} {L : List (Option Value)} {st : List Value} {σ : dk_S} {a : Nat} (C : dk_C G p R s m args c cells slots cc nL RX8) (hd : (a, 13) ∈ dk_dom G) (d : decode cc pc = .ok (.getfield 115, 3)) (hn : pc + 3 = n) (k : dk_W G p l e R s m args below meth c cells slots Q n L (dk_r G a 18 :: st) σ) : dk_W G p l e R s m args below meth c cells slots Q pc L (dk_r G a 13 :: st) σ :=
  dk_getR (ci := 2) (k0 := 4) (N := 10) (T := TX2) (Cn := RX2) C dk_sh13 rfl rfl rfl (by decide) dk_ui2 dk_wf_X8_115 hd d hn k
theorem gf_X8_240 {G : dk_G} {p : Program} {l : Launch} {e : Env} {R : Room} {s : State} {m : MethodId} {args : Array Value} {below : List Frame} {meth : Method} {c : Code} {cells slots : Nat} {Q : State → Prop} {cc : ByteArray} {nL : Nat} {pc n : Nat} {L : List (Option Value)} {st : List Value} {σ : dk_S} {a : Nat} (C : dk_C G p R s m args c cells slots cc nL RX8) (hd : (a, 13) ∈ dk_dom G) (d : decode cc pc = .ok (.getfield 240, 3)) (hn : pc + 3 = n) (k : dk_W G p l e R s m args below meth c cells slots Q n L (dk_r G a 14 :: st) σ) : dk_W G p l e R s m args below meth c cells slots Q pc L (dk_r G a 13 :: st) σ :=
  dk_getR (ci := 2) (k0 := 0) (N := 10) (T := TX2) (Cn := RX2) C dk_sh13 rfl rfl rfl (by decide) dk_ui2 dk_wf_X8_240 hd d hn k
theorem gf_X8_84 {G : dk_G} {p : Program} {l : Launch} {e : Env} {R : Room} {s : State} {m : MethodId} {args : Array Value} {below : List Frame} {meth : Method} {c : Code} {cells slots : Nat} {Q : State → Prop} {cc : ByteArray} {nL : Nat} {pc n : Nat} {L : List (Option Value)} {st : List Value} {σ : dk_S} {a : Nat} (C : dk_C G p R s m args c cells slots cc nL RX8) (hd : (a, 0) ∈ dk_dom G) (d : decode cc pc = .ok (.getfield 84, 3)) (hn : pc + 3 = n) (k : dk_W G p l e R s m args below meth c cells slots Q n L (dk_r G a 7 :: st) σ) : dk_W G p l e R s m args below meth c cells slots Q pc L (dk_r G a 0 :: st) σ :=
  dk_getR (ci := 7) (k0 := 1) (N := 10) (T := TX7) (Cn := RX7) C dk_sh0 rfl rfl rfl (by decide) dk_ui7 dk_wf_X8_84 hd d hn k
theorem gf_X8_88 {G : dk_G} {p : Program} {l : Launch} {e : Env} {R : Room} {s : State} {m : MethodId} {args : Array Value} {below : List Frame} {meth : Method} {c : Code} {cells slots : Nat} {Q : State → Prop} {cc : ByteArray} {nL : Nat} {pc n : Nat} {L : List (Option Value)} {st : List Value} {σ : dk_S} {a : Nat} (C : dk_C G p R s m args c cells slots cc nL RX8) (hd : (a, 7) ∈ dk_dom G) (d : decode cc pc = .ok (.getfield 88, 3)) (hn : pc + 3 = n) (k : dk_W G p l e R s m args below meth c cells slots Q n L (dk_r G a 8 :: st) σ) : dk_W G p l e R s m args below meth c cells slots Q pc L (dk_r G a 7 :: st) σ :=
  dk_getR (ci := 3) (k0 := 0) (N := 5) (T := TX3) (Cn := RX3) C dk_sh7 rfl rfl rfl (by decide) dk_ui3 dk_wf_X8_88 hd d hn k
