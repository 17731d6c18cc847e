/-! ===== the cases of the law ===== -/
theorem qC_X8_bay : Cond.code yX8_bay cX8_bay 3 (some .int) ∈ xT := xT_tb (xt_2 (List.mem_of_getElem? (i := 50) rfl)) (by decide +kernel)
theorem qM_L_13 : Cond.methodLink RL 13 yX8_bay ∈ xT := xT_tb (xt_2 (List.mem_of_getElem? (i := 47) (by decide +kernel))) (by decide +kernel)
theorem qI_X8_bay : Cond.instanceMethod yX8_bay ∈ xT := xT_tb (xt_2 (List.mem_of_getElem? (i := 48) (by decide +kernel))) (by decide +kernel)
theorem qL_X8_bay : Cond.selects RX8 yX8_bay yX8_bay ∈ xT := xT_tb (xt_2 (List.mem_of_getElem? (i := 49) (by decide +kernel))) (by decide +kernel)
theorem qC_X9_bay : Cond.code yX9_bay cX9_bay 2 (some .int) ∈ xT := xT_tb (xt_4 (List.mem_of_getElem? (i := 232) rfl)) (by decide +kernel)
theorem qM_L_17 : Cond.methodLink RL 17 yX9_bay ∈ xT := xT_tb (xt_4 (List.mem_of_getElem? (i := 229) (by decide +kernel))) (by decide +kernel)
theorem qI_X9_bay : Cond.instanceMethod yX9_bay ∈ xT := xT_tb (xt_4 (List.mem_of_getElem? (i := 230) (by decide +kernel))) (by decide +kernel)
theorem qL_X9_bay : Cond.selects RX9 yX9_bay yX9_bay ∈ xT := xT_tb (xt_4 (List.mem_of_getElem? (i := 231) (by decide +kernel))) (by decide +kernel)
theorem qC_X8_lay : Cond.code yX8_lay cX8_lay 6 (some .int) ∈ xT := xT_tb (xt_2 (List.mem_of_getElem? (i := 62) rfl)) (by decide +kernel)
theorem qM_L_18 : Cond.methodLink RL 18 yX8_lay ∈ xT := xT_tb (xt_2 (List.mem_of_getElem? (i := 59) (by decide +kernel))) (by decide +kernel)
theorem qI_X8_lay : Cond.instanceMethod yX8_lay ∈ xT := xT_tb (xt_2 (List.mem_of_getElem? (i := 60) (by decide +kernel))) (by decide +kernel)
theorem qL_X8_lay : Cond.selects RX8 yX8_lay yX8_lay ∈ xT := xT_tb (xt_2 (List.mem_of_getElem? (i := 61) (by decide +kernel))) (by decide +kernel)
theorem qC_X9_lay : Cond.code yX9_lay cX9_lay 4 (some .int) ∈ xT := xT_tb (xt_4 (List.mem_of_getElem? (i := 237) rfl)) (by decide +kernel)
theorem qM_L_22 : Cond.methodLink RL 22 yX9_lay ∈ xT := xT_tb (xt_4 (List.mem_of_getElem? (i := 234) (by decide +kernel))) (by decide +kernel)
theorem qI_X9_lay : Cond.instanceMethod yX9_lay ∈ xT := xT_tb (xt_4 (List.mem_of_getElem? (i := 235) (by decide +kernel))) (by decide +kernel)
theorem qL_X9_lay : Cond.selects RX9 yX9_lay yX9_lay ∈ xT := xT_tb (xt_4 (List.mem_of_getElem? (i := 236) (by decide +kernel))) (by decide +kernel)
theorem qC_X8_ofCell : Cond.code yX8_ofCell cX8_ofCell 3 (some .int) ∈ xT := xT_tb (xt_2 (List.mem_of_getElem? (i := 70) rfl)) (by decide +kernel)
theorem qM_L_23 : Cond.methodLink RL 23 yX8_ofCell ∈ xT := xT_tb (xt_2 (List.mem_of_getElem? (i := 67) (by decide +kernel))) (by decide +kernel)
theorem qI_X8_ofCell : Cond.instanceMethod yX8_ofCell ∈ xT := xT_tb (xt_2 (List.mem_of_getElem? (i := 68) (by decide +kernel))) (by decide +kernel)
theorem qL_X8_ofCell : Cond.selects RX8 yX8_ofCell yX8_ofCell ∈ xT := xT_tb (xt_2 (List.mem_of_getElem? (i := 69) (by decide +kernel))) (by decide +kernel)
theorem qC_X9_ofCell : Cond.code yX9_ofCell cX9_ofCell 3 (some .int) ∈ xT := xT_tb (xt_5 (List.mem_of_getElem? (i := 5) rfl)) (by decide +kernel)
theorem qM_L_27 : Cond.methodLink RL 27 yX9_ofCell ∈ xT := xT_tb (xt_5 (List.mem_of_getElem? (i := 2) (by decide +kernel))) (by decide +kernel)
theorem qI_X9_ofCell : Cond.instanceMethod yX9_ofCell ∈ xT := xT_tb (xt_5 (List.mem_of_getElem? (i := 3) (by decide +kernel))) (by decide +kernel)
theorem qL_X9_ofCell : Cond.selects RX9 yX9_ofCell yX9_ofCell ∈ xT := xT_tb (xt_5 (List.mem_of_getElem? (i := 4) (by decide +kernel))) (by decide +kernel)
theorem qC_X8_set : Cond.code yX8_set cX8_set 4 (some .int) ∈ xT := xT_tb (xt_2 (List.mem_of_getElem? (i := 119) rfl)) (by decide +kernel)
theorem qM_L_28 : Cond.methodLink RL 28 yX8_set ∈ xT := xT_tb (xt_2 (List.mem_of_getElem? (i := 116) (by decide +kernel))) (by decide +kernel)
theorem qI_X8_set : Cond.instanceMethod yX8_set ∈ xT := xT_tb (xt_2 (List.mem_of_getElem? (i := 117) (by decide +kernel))) (by decide +kernel)
theorem qL_X8_set : Cond.selects RX8 yX8_set yX8_set ∈ xT := xT_tb (xt_2 (List.mem_of_getElem? (i := 118) (by decide +kernel))) (by decide +kernel)
theorem qC_X9_set : Cond.code yX9_set cX9_set 4 (some .int) ∈ xT := xT_tb (xt_5 (List.mem_of_getElem? (i := 43) rfl)) (by decide +kernel)
theorem qM_L_31 : Cond.methodLink RL 31 yX9_set ∈ xT := xT_tb (xt_5 (List.mem_of_getElem? (i := 40) (by decide +kernel))) (by decide +kernel)
theorem qI_X9_set : Cond.instanceMethod yX9_set ∈ xT := xT_tb (xt_5 (List.mem_of_getElem? (i := 41) (by decide +kernel))) (by decide +kernel)
theorem qL_X9_set : Cond.selects RX9 yX9_set yX9_set ∈ xT := xT_tb (xt_5 (List.mem_of_getElem? (i := 42) (by decide +kernel))) (by decide +kernel)
theorem qC_X8_ship : Cond.code yX8_ship cX8_ship 5 (some .int) ∈ xT := xT_tb (xt_2 (List.mem_of_getElem? (i := 127) rfl)) (by decide +kernel)
theorem qM_L_32 : Cond.methodLink RL 32 yX8_ship ∈ xT := xT_tb (xt_2 (List.mem_of_getElem? (i := 124) (by decide +kernel))) (by decide +kernel)
theorem qI_X8_ship : Cond.instanceMethod yX8_ship ∈ xT := xT_tb (xt_2 (List.mem_of_getElem? (i := 125) (by decide +kernel))) (by decide +kernel)
theorem qL_X8_ship : Cond.selects RX8 yX8_ship yX8_ship ∈ xT := xT_tb (xt_2 (List.mem_of_getElem? (i := 126) (by decide +kernel))) (by decide +kernel)
theorem qC_X9_ship : Cond.code yX9_ship cX9_ship 4 (some .int) ∈ xT := xT_tb (xt_5 (List.mem_of_getElem? (i := 54) rfl)) (by decide +kernel)
theorem qM_L_35 : Cond.methodLink RL 35 yX9_ship ∈ xT := xT_tb (xt_5 (List.mem_of_getElem? (i := 51) (by decide +kernel))) (by decide +kernel)
theorem qI_X9_ship : Cond.instanceMethod yX9_ship ∈ xT := xT_tb (xt_5 (List.mem_of_getElem? (i := 52) (by decide +kernel))) (by decide +kernel)
theorem qL_X9_ship : Cond.selects RX9 yX9_ship yX9_ship ∈ xT := xT_tb (xt_5 (List.mem_of_getElem? (i := 53) (by decide +kernel))) (by decide +kernel)
theorem qC_X8_ofShip : Cond.code yX8_ofShip cX8_ofShip 3 (some .int) ∈ xT := xT_tb (xt_2 (List.mem_of_getElem? (i := 134) rfl)) (by decide +kernel)
theorem qM_L_36 : Cond.methodLink RL 36 yX8_ofShip ∈ xT := xT_tb (xt_2 (List.mem_of_getElem? (i := 131) (by decide +kernel))) (by decide +kernel)
theorem qI_X8_ofShip : Cond.instanceMethod yX8_ofShip ∈ xT := xT_tb (xt_2 (List.mem_of_getElem? (i := 132) (by decide +kernel))) (by decide +kernel)
theorem qL_X8_ofShip : Cond.selects RX8 yX8_ofShip yX8_ofShip ∈ xT := xT_tb (xt_2 (List.mem_of_getElem? (i := 133) (by decide +kernel))) (by decide +kernel)
theorem qC_X9_ofShip : Cond.code yX9_ofShip cX9_ofShip 4 (some .int) ∈ xT := xT_tb (xt_5 (List.mem_of_getElem? (i := 68) rfl)) (by decide +kernel)
theorem qM_L_39 : Cond.methodLink RL 39 yX9_ofShip ∈ xT := xT_tb (xt_5 (List.mem_of_getElem? (i := 65) (by decide +kernel))) (by decide +kernel)
theorem qI_X9_ofShip : Cond.instanceMethod yX9_ofShip ∈ xT := xT_tb (xt_5 (List.mem_of_getElem? (i := 66) (by decide +kernel))) (by decide +kernel)
theorem qL_X9_ofShip : Cond.selects RX9 yX9_ofShip yX9_ofShip ∈ xT := xT_tb (xt_5 (List.mem_of_getElem? (i := 67) (by decide +kernel))) (by decide +kernel)
theorem qC_X8_change : Cond.code yX8_change cX8_change 6 (some .int) ∈ xT := xT_tb (xt_2 (List.mem_of_getElem? (i := 158) rfl)) (by decide +kernel)
theorem qM_L_40 : Cond.methodLink RL 40 yX8_change ∈ xT := xT_tb (xt_2 (List.mem_of_getElem? (i := 155) (by decide +kernel))) (by decide +kernel)
theorem qI_X8_change : Cond.instanceMethod yX8_change ∈ xT := xT_tb (xt_2 (List.mem_of_getElem? (i := 156) (by decide +kernel))) (by decide +kernel)
theorem qL_X8_change : Cond.selects RX8 yX8_change yX8_change ∈ xT := xT_tb (xt_2 (List.mem_of_getElem? (i := 157) (by decide +kernel))) (by decide +kernel)
theorem qC_X9_change : Cond.code yX9_change cX9_change 5 (some .int) ∈ xT := xT_tb (xt_5 (List.mem_of_getElem? (i := 80) rfl)) (by decide +kernel)
theorem qM_L_43 : Cond.methodLink RL 43 yX9_change ∈ xT := xT_tb (xt_5 (List.mem_of_getElem? (i := 77) (by decide +kernel))) (by decide +kernel)
theorem qI_X9_change : Cond.instanceMethod yX9_change ∈ xT := xT_tb (xt_5 (List.mem_of_getElem? (i := 78) (by decide +kernel))) (by decide +kernel)
theorem qL_X9_change : Cond.selects RX9 yX9_change yX9_change ∈ xT := xT_tb (xt_5 (List.mem_of_getElem? (i := 79) (by decide +kernel))) (by decide +kernel)
theorem qC_X8_become : Cond.code yX8_become cX8_become 4 (some .int) ∈ xT := xT_tb (xt_2 (List.mem_of_getElem? (i := 166) rfl)) (by decide +kernel)
theorem qM_L_44 : Cond.methodLink RL 44 yX8_become ∈ xT := xT_tb (xt_2 (List.mem_of_getElem? (i := 163) (by decide +kernel))) (by decide +kernel)
theorem qI_X8_become : Cond.instanceMethod yX8_become ∈ xT := xT_tb (xt_2 (List.mem_of_getElem? (i := 164) (by decide +kernel))) (by decide +kernel)
theorem qL_X8_become : Cond.selects RX8 yX8_become yX8_become ∈ xT := xT_tb (xt_2 (List.mem_of_getElem? (i := 165) (by decide +kernel))) (by decide +kernel)
theorem qC_X9_become : Cond.code yX9_become cX9_become 3 (some .int) ∈ xT := xT_tb (xt_5 (List.mem_of_getElem? (i := 84) rfl)) (by decide +kernel)
theorem qM_L_47 : Cond.methodLink RL 47 yX9_become ∈ xT := xT_tb (xt_5 (List.mem_of_getElem? (i := 81) (by decide +kernel))) (by decide +kernel)
theorem qI_X9_become : Cond.instanceMethod yX9_become ∈ xT := xT_tb (xt_5 (List.mem_of_getElem? (i := 82) (by decide +kernel))) (by decide +kernel)
theorem qL_X9_become : Cond.selects RX9 yX9_become yX9_become ∈ xT := xT_tb (xt_5 (List.mem_of_getElem? (i := 83) (by decide +kernel))) (by decide +kernel)
theorem qC_X8_as : Cond.code yX8_as cX8_as 3 (some .int) ∈ xT := xT_tb (xt_2 (List.mem_of_getElem? (i := 170) rfl)) (by decide +kernel)
theorem qM_L_48 : Cond.methodLink RL 48 yX8_as ∈ xT := xT_tb (xt_2 (List.mem_of_getElem? (i := 167) (by decide +kernel))) (by decide +kernel)
theorem qI_X8_as : Cond.instanceMethod yX8_as ∈ xT := xT_tb (xt_2 (List.mem_of_getElem? (i := 168) (by decide +kernel))) (by decide +kernel)
theorem qL_X8_as : Cond.selects RX8 yX8_as yX8_as ∈ xT := xT_tb (xt_2 (List.mem_of_getElem? (i := 169) (by decide +kernel))) (by decide +kernel)
theorem qC_X9_as : Cond.code yX9_as cX9_as 3 (some .int) ∈ xT := xT_tb (xt_5 (List.mem_of_getElem? (i := 88) rfl)) (by decide +kernel)
theorem qM_L_51 : Cond.methodLink RL 51 yX9_as ∈ xT := xT_tb (xt_5 (List.mem_of_getElem? (i := 85) (by decide +kernel))) (by decide +kernel)
theorem qI_X9_as : Cond.instanceMethod yX9_as ∈ xT := xT_tb (xt_5 (List.mem_of_getElem? (i := 86) (by decide +kernel))) (by decide +kernel)
theorem qL_X9_as : Cond.selects RX9 yX9_as yX9_as ∈ xT := xT_tb (xt_5 (List.mem_of_getElem? (i := 87) (by decide +kernel))) (by decide +kernel)
theorem qC_X8_feed : Cond.code yX8_feed cX8_feed 5 (some .int) ∈ xT := xT_tb (xt_2 (List.mem_of_getElem? (i := 179) rfl)) (by decide +kernel)
theorem qM_L_54 : Cond.methodLink RL 54 yX8_feed ∈ xT := xT_tb (xt_2 (List.mem_of_getElem? (i := 176) (by decide +kernel))) (by decide +kernel)
theorem qI_X8_feed : Cond.instanceMethod yX8_feed ∈ xT := xT_tb (xt_2 (List.mem_of_getElem? (i := 177) (by decide +kernel))) (by decide +kernel)
theorem qL_X8_feed : Cond.selects RX8 yX8_feed yX8_feed ∈ xT := xT_tb (xt_2 (List.mem_of_getElem? (i := 178) (by decide +kernel))) (by decide +kernel)
theorem qC_X9_feed : Cond.code yX9_feed cX9_feed 5 (some .int) ∈ xT := xT_tb (xt_4 (List.mem_of_getElem? (i := 101) rfl)) (by decide +kernel)
theorem qM_L_58 : Cond.methodLink RL 58 yX9_feed ∈ xT := xT_tb (xt_4 (List.mem_of_getElem? (i := 98) (by decide +kernel))) (by decide +kernel)
theorem qI_X9_feed : Cond.instanceMethod yX9_feed ∈ xT := xT_tb (xt_4 (List.mem_of_getElem? (i := 99) (by decide +kernel))) (by decide +kernel)
theorem qL_X9_feed : Cond.selects RX9 yX9_feed yX9_feed ∈ xT := xT_tb (xt_4 (List.mem_of_getElem? (i := 100) (by decide +kernel))) (by decide +kernel)
theorem qC_X8_text : Cond.code yX8_text cX8_text 3 (some .int) ∈ xT := xT_tb (xt_2 (List.mem_of_getElem? (i := 183) rfl)) (by decide +kernel)
theorem qM_L_59 : Cond.methodLink RL 59 yX8_text ∈ xT := xT_tb (xt_2 (List.mem_of_getElem? (i := 180) (by decide +kernel))) (by decide +kernel)
theorem qI_X8_text : Cond.instanceMethod yX8_text ∈ xT := xT_tb (xt_2 (List.mem_of_getElem? (i := 181) (by decide +kernel))) (by decide +kernel)
theorem qL_X8_text : Cond.selects RX8 yX8_text yX8_text ∈ xT := xT_tb (xt_2 (List.mem_of_getElem? (i := 182) (by decide +kernel))) (by decide +kernel)
theorem qC_X9_text : Cond.code yX9_text cX9_text 3 (some .int) ∈ xT := xT_tb (xt_4 (List.mem_of_getElem? (i := 116) rfl)) (by decide +kernel)
theorem qM_L_62 : Cond.methodLink RL 62 yX9_text ∈ xT := xT_tb (xt_4 (List.mem_of_getElem? (i := 113) (by decide +kernel))) (by decide +kernel)
theorem qI_X9_text : Cond.instanceMethod yX9_text ∈ xT := xT_tb (xt_4 (List.mem_of_getElem? (i := 114) (by decide +kernel))) (by decide +kernel)
theorem qL_X9_text : Cond.selects RX9 yX9_text yX9_text ∈ xT := xT_tb (xt_4 (List.mem_of_getElem? (i := 115) (by decide +kernel))) (by decide +kernel)
theorem qC_X8_law : Cond.code yX8_law cX8_law 5 (some .int) ∈ xT := xT_tb (xt_3 (List.mem_of_getElem? (i := 12) rfl)) (by decide +kernel)
theorem qM_L_63 : Cond.methodLink RL 63 yX8_law ∈ xT := xT_tb (xt_3 (List.mem_of_getElem? (i := 9) (by decide +kernel))) (by decide +kernel)
theorem qI_X8_law : Cond.instanceMethod yX8_law ∈ xT := xT_tb (xt_3 (List.mem_of_getElem? (i := 10) (by decide +kernel))) (by decide +kernel)
theorem qL_X8_law : Cond.selects RX8 yX8_law yX8_law ∈ xT := xT_tb (xt_3 (List.mem_of_getElem? (i := 11) (by decide +kernel))) (by decide +kernel)
theorem qC_X9_law : Cond.code yX9_law cX9_law 5 (some .int) ∈ xT := xT_tb (xt_4 (List.mem_of_getElem? (i := 208) rfl)) (by decide +kernel)
theorem qM_L_67 : Cond.methodLink RL 67 yX9_law ∈ xT := xT_tb (xt_4 (List.mem_of_getElem? (i := 205) (by decide +kernel))) (by decide +kernel)
theorem qI_X9_law : Cond.instanceMethod yX9_law ∈ xT := xT_tb (xt_4 (List.mem_of_getElem? (i := 206) (by decide +kernel))) (by decide +kernel)
theorem qL_X9_law : Cond.selects RX9 yX9_law yX9_law ∈ xT := xT_tb (xt_4 (List.mem_of_getElem? (i := 207) (by decide +kernel))) (by decide +kernel)
theorem qC_X8_hours : Cond.code yX8_hours cX8_hours 3 (some .int) ∈ xT := xT_tb (xt_3 (List.mem_of_getElem? (i := 17) rfl)) (by decide +kernel)
theorem qM_L_68 : Cond.methodLink RL 68 yX8_hours ∈ xT := xT_tb (xt_3 (List.mem_of_getElem? (i := 14) (by decide +kernel))) (by decide +kernel)
theorem qI_X8_hours : Cond.instanceMethod yX8_hours ∈ xT := xT_tb (xt_3 (List.mem_of_getElem? (i := 15) (by decide +kernel))) (by decide +kernel)
theorem qL_X8_hours : Cond.selects RX8 yX8_hours yX8_hours ∈ xT := xT_tb (xt_3 (List.mem_of_getElem? (i := 16) (by decide +kernel))) (by decide +kernel)
theorem qC_X9_hours : Cond.code yX9_hours cX9_hours 2 (some .int) ∈ xT := xT_tb (xt_5 (List.mem_of_getElem? (i := 99) rfl)) (by decide +kernel)
theorem qM_L_71 : Cond.methodLink RL 71 yX9_hours ∈ xT := xT_tb (xt_5 (List.mem_of_getElem? (i := 96) (by decide +kernel))) (by decide +kernel)
theorem qI_X9_hours : Cond.instanceMethod yX9_hours ∈ xT := xT_tb (xt_5 (List.mem_of_getElem? (i := 97) (by decide +kernel))) (by decide +kernel)
theorem qL_X9_hours : Cond.selects RX9 yX9_hours yX9_hours ∈ xT := xT_tb (xt_5 (List.mem_of_getElem? (i := 98) (by decide +kernel))) (by decide +kernel)
theorem qC_X8_loose : Cond.code yX8_loose cX8_loose 3 (some .int) ∈ xT := xT_tb (xt_3 (List.mem_of_getElem? (i := 40) rfl)) (by decide +kernel)
theorem qM_L_72 : Cond.methodLink RL 72 yX8_loose ∈ xT := xT_tb (xt_3 (List.mem_of_getElem? (i := 37) (by decide +kernel))) (by decide +kernel)
theorem qI_X8_loose : Cond.instanceMethod yX8_loose ∈ xT := xT_tb (xt_3 (List.mem_of_getElem? (i := 38) (by decide +kernel))) (by decide +kernel)
theorem qL_X8_loose : Cond.selects RX8 yX8_loose yX8_loose ∈ xT := xT_tb (xt_3 (List.mem_of_getElem? (i := 39) (by decide +kernel))) (by decide +kernel)
theorem qC_X9_loose : Cond.code yX9_loose cX9_loose 3 (some .int) ∈ xT := xT_tb (xt_5 (List.mem_of_getElem? (i := 122) rfl)) (by decide +kernel)
theorem qM_L_75 : Cond.methodLink RL 75 yX9_loose ∈ xT := xT_tb (xt_5 (List.mem_of_getElem? (i := 119) (by decide +kernel))) (by decide +kernel)
theorem qI_X9_loose : Cond.instanceMethod yX9_loose ∈ xT := xT_tb (xt_5 (List.mem_of_getElem? (i := 120) (by decide +kernel))) (by decide +kernel)
theorem qL_X9_loose : Cond.selects RX9 yX9_loose yX9_loose ∈ xT := xT_tb (xt_5 (List.mem_of_getElem? (i := 121) (by decide +kernel))) (by decide +kernel)
theorem qC_X8_depth : Cond.code yX8_depth cX8_depth 3 (some .int) ∈ xT := xT_tb (xt_3 (List.mem_of_getElem? (i := 49) rfl)) (by decide +kernel)
theorem qM_L_76 : Cond.methodLink RL 76 yX8_depth ∈ xT := xT_tb (xt_3 (List.mem_of_getElem? (i := 46) (by decide +kernel))) (by decide +kernel)
theorem qI_X8_depth : Cond.instanceMethod yX8_depth ∈ xT := xT_tb (xt_3 (List.mem_of_getElem? (i := 47) (by decide +kernel))) (by decide +kernel)
theorem qL_X8_depth : Cond.selects RX8 yX8_depth yX8_depth ∈ xT := xT_tb (xt_3 (List.mem_of_getElem? (i := 48) (by decide +kernel))) (by decide +kernel)
theorem qC_X9_depth : Cond.code yX9_depth cX9_depth 3 (some .int) ∈ xT := xT_tb (xt_5 (List.mem_of_getElem? (i := 50) rfl)) (by decide +kernel)
theorem qM_L_79 : Cond.methodLink RL 79 yX9_depth ∈ xT := xT_tb (xt_5 (List.mem_of_getElem? (i := 47) (by decide +kernel))) (by decide +kernel)
theorem qI_X9_depth : Cond.instanceMethod yX9_depth ∈ xT := xT_tb (xt_5 (List.mem_of_getElem? (i := 48) (by decide +kernel))) (by decide +kernel)
theorem qL_X9_depth : Cond.selects RX9 yX9_depth yX9_depth ∈ xT := xT_tb (xt_5 (List.mem_of_getElem? (i := 49) (by decide +kernel))) (by decide +kernel)
theorem qC_X8_then : Cond.code yX8_then cX8_then 4 (some .int) ∈ xT := xT_tb (xt_3 (List.mem_of_getElem? (i := 53) rfl)) (by decide +kernel)
theorem qM_L_80 : Cond.methodLink RL 80 yX8_then ∈ xT := xT_tb (xt_3 (List.mem_of_getElem? (i := 50) (by decide +kernel))) (by decide +kernel)
theorem qI_X8_then : Cond.instanceMethod yX8_then ∈ xT := xT_tb (xt_3 (List.mem_of_getElem? (i := 51) (by decide +kernel))) (by decide +kernel)
theorem qL_X8_then : Cond.selects RX8 yX8_then yX8_then ∈ xT := xT_tb (xt_3 (List.mem_of_getElem? (i := 52) (by decide +kernel))) (by decide +kernel)
theorem qC_X9_then : Cond.code yX9_then cX9_then 4 (some .int) ∈ xT := xT_tb (xt_5 (List.mem_of_getElem? (i := 131) rfl)) (by decide +kernel)
theorem qM_L_83 : Cond.methodLink RL 83 yX9_then ∈ xT := xT_tb (xt_5 (List.mem_of_getElem? (i := 128) (by decide +kernel))) (by decide +kernel)
theorem qI_X9_then : Cond.instanceMethod yX9_then ∈ xT := xT_tb (xt_5 (List.mem_of_getElem? (i := 129) (by decide +kernel))) (by decide +kernel)
theorem qL_X9_then : Cond.selects RX9 yX9_then yX9_then ∈ xT := xT_tb (xt_5 (List.mem_of_getElem? (i := 130) (by decide +kernel))) (by decide +kernel)
theorem qC_X8_lost : Cond.code yX8_lost cX8_lost 4 (some .int) ∈ xT := xT_tb (xt_3 (List.mem_of_getElem? (i := 66) rfl)) (by decide +kernel)
theorem qM_L_84 : Cond.methodLink RL 84 yX8_lost ∈ xT := xT_tb (xt_3 (List.mem_of_getElem? (i := 63) (by decide +kernel))) (by decide +kernel)
theorem qI_X8_lost : Cond.instanceMethod yX8_lost ∈ xT := xT_tb (xt_3 (List.mem_of_getElem? (i := 64) (by decide +kernel))) (by decide +kernel)
theorem qL_X8_lost : Cond.selects RX8 yX8_lost yX8_lost ∈ xT := xT_tb (xt_3 (List.mem_of_getElem? (i := 65) (by decide +kernel))) (by decide +kernel)
theorem qC_X9_lost : Cond.code yX9_lost cX9_lost 5 (some .int) ∈ xT := xT_tb (xt_5 (List.mem_of_getElem? (i := 145) rfl)) (by decide +kernel)
theorem qM_L_87 : Cond.methodLink RL 87 yX9_lost ∈ xT := xT_tb (xt_5 (List.mem_of_getElem? (i := 142) (by decide +kernel))) (by decide +kernel)
theorem qI_X9_lost : Cond.instanceMethod yX9_lost ∈ xT := xT_tb (xt_5 (List.mem_of_getElem? (i := 143) (by decide +kernel))) (by decide +kernel)
theorem qL_X9_lost : Cond.selects RX9 yX9_lost yX9_lost ∈ xT := xT_tb (xt_5 (List.mem_of_getElem? (i := 144) (by decide +kernel))) (by decide +kernel)
theorem qC_X8_setting : Cond.code yX8_setting cX8_setting 4 (some .int) ∈ xT := xT_tb (xt_3 (List.mem_of_getElem? (i := 82) rfl)) (by decide +kernel)
theorem qM_L_88 : Cond.methodLink RL 88 yX8_setting ∈ xT := xT_tb (xt_3 (List.mem_of_getElem? (i := 79) (by decide +kernel))) (by decide +kernel)
theorem qI_X8_setting : Cond.instanceMethod yX8_setting ∈ xT := xT_tb (xt_3 (List.mem_of_getElem? (i := 80) (by decide +kernel))) (by decide +kernel)
theorem qL_X8_setting : Cond.selects RX8 yX8_setting yX8_setting ∈ xT := xT_tb (xt_3 (List.mem_of_getElem? (i := 81) (by decide +kernel))) (by decide +kernel)
theorem qC_X9_setting : Cond.code yX9_setting cX9_setting 5 (some .int) ∈ xT := xT_tb (xt_5 (List.mem_of_getElem? (i := 154) rfl)) (by decide +kernel)
theorem qM_L_91 : Cond.methodLink RL 91 yX9_setting ∈ xT := xT_tb (xt_5 (List.mem_of_getElem? (i := 151) (by decide +kernel))) (by decide +kernel)
theorem qI_X9_setting : Cond.instanceMethod yX9_setting ∈ xT := xT_tb (xt_5 (List.mem_of_getElem? (i := 152) (by decide +kernel))) (by decide +kernel)
theorem qL_X9_setting : Cond.selects RX9 yX9_setting yX9_setting ∈ xT := xT_tb (xt_5 (List.mem_of_getElem? (i := 153) (by decide +kernel))) (by decide +kernel)
theorem qC_X8_leastFalse : Cond.code yX8_leastFalse cX8_leastFalse 6 (some .int) ∈ xT := xT_tb (xt_3 (List.mem_of_getElem? (i := 86) rfl)) (by decide +kernel)
theorem qM_L_92 : Cond.methodLink RL 92 yX8_leastFalse ∈ xT := xT_tb (xt_3 (List.mem_of_getElem? (i := 83) (by decide +kernel))) (by decide +kernel)
theorem qI_X8_leastFalse : Cond.instanceMethod yX8_leastFalse ∈ xT := xT_tb (xt_3 (List.mem_of_getElem? (i := 84) (by decide +kernel))) (by decide +kernel)
theorem qL_X8_leastFalse : Cond.selects RX8 yX8_leastFalse yX8_leastFalse ∈ xT := xT_tb (xt_3 (List.mem_of_getElem? (i := 85) (by decide +kernel))) (by decide +kernel)
theorem qC_X9_leastFalse : Cond.code yX9_leastFalse cX9_leastFalse 4 (some .int) ∈ xT := xT_tb (xt_5 (List.mem_of_getElem? (i := 162) rfl)) (by decide +kernel)
theorem qM_L_95 : Cond.methodLink RL 95 yX9_leastFalse ∈ xT := xT_tb (xt_5 (List.mem_of_getElem? (i := 159) (by decide +kernel))) (by decide +kernel)
theorem qI_X9_leastFalse : Cond.instanceMethod yX9_leastFalse ∈ xT := xT_tb (xt_5 (List.mem_of_getElem? (i := 160) (by decide +kernel))) (by decide +kernel)
theorem qL_X9_leastFalse : Cond.selects RX9 yX9_leastFalse yX9_leastFalse ∈ xT := xT_tb (xt_5 (List.mem_of_getElem? (i := 161) (by decide +kernel))) (by decide +kernel)
theorem qC_X8_which : Cond.code yX8_which cX8_which 7 (some .int) ∈ xT := xT_tb (xt_3 (List.mem_of_getElem? (i := 94) rfl)) (by decide +kernel)
theorem qM_L_96 : Cond.methodLink RL 96 yX8_which ∈ xT := xT_tb (xt_3 (List.mem_of_getElem? (i := 91) (by decide +kernel))) (by decide +kernel)
theorem qI_X8_which : Cond.instanceMethod yX8_which ∈ xT := xT_tb (xt_3 (List.mem_of_getElem? (i := 92) (by decide +kernel))) (by decide +kernel)
theorem qL_X8_which : Cond.selects RX8 yX8_which yX8_which ∈ xT := xT_tb (xt_3 (List.mem_of_getElem? (i := 93) (by decide +kernel))) (by decide +kernel)
theorem qC_X9_which : Cond.code yX9_which cX9_which 7 (some .int) ∈ xT := xT_tb (xt_5 (List.mem_of_getElem? (i := 170) rfl)) (by decide +kernel)
theorem qM_L_99 : Cond.methodLink RL 99 yX9_which ∈ xT := xT_tb (xt_5 (List.mem_of_getElem? (i := 167) (by decide +kernel))) (by decide +kernel)
theorem qI_X9_which : Cond.instanceMethod yX9_which ∈ xT := xT_tb (xt_5 (List.mem_of_getElem? (i := 168) (by decide +kernel))) (by decide +kernel)
theorem qL_X9_which : Cond.selects RX9 yX9_which yX9_which ∈ xT := xT_tb (xt_5 (List.mem_of_getElem? (i := 169) (by decide +kernel))) (by decide +kernel)
theorem qC_X8_struck : Cond.code yX8_struck cX8_struck 2 (some .int) ∈ xT := xT_tb (xt_3 (List.mem_of_getElem? (i := 109) rfl)) (by decide +kernel)
theorem qM_L_100 : Cond.methodLink RL 100 yX8_struck ∈ xT := xT_tb (xt_3 (List.mem_of_getElem? (i := 106) (by decide +kernel))) (by decide +kernel)
theorem qI_X8_struck : Cond.instanceMethod yX8_struck ∈ xT := xT_tb (xt_3 (List.mem_of_getElem? (i := 107) (by decide +kernel))) (by decide +kernel)
theorem qL_X8_struck : Cond.selects RX8 yX8_struck yX8_struck ∈ xT := xT_tb (xt_3 (List.mem_of_getElem? (i := 108) (by decide +kernel))) (by decide +kernel)
theorem qC_X9_struck : Cond.code yX9_struck cX9_struck 2 (some .int) ∈ xT := xT_tb (xt_5 (List.mem_of_getElem? (i := 181) rfl)) (by decide +kernel)
theorem qM_L_103 : Cond.methodLink RL 103 yX9_struck ∈ xT := xT_tb (xt_5 (List.mem_of_getElem? (i := 178) (by decide +kernel))) (by decide +kernel)
theorem qI_X9_struck : Cond.instanceMethod yX9_struck ∈ xT := xT_tb (xt_5 (List.mem_of_getElem? (i := 179) (by decide +kernel))) (by decide +kernel)
theorem qL_X9_struck : Cond.selects RX9 yX9_struck yX9_struck ∈ xT := xT_tb (xt_5 (List.mem_of_getElem? (i := 180) (by decide +kernel))) (by decide +kernel)
theorem qC_X8_dark : Cond.code yX8_dark cX8_dark 6 (some .int) ∈ xT := xT_tb (xt_3 (List.mem_of_getElem? (i := 114) rfl)) (by decide +kernel)
theorem qM_L_104 : Cond.methodLink RL 104 yX8_dark ∈ xT := xT_tb (xt_3 (List.mem_of_getElem? (i := 111) (by decide +kernel))) (by decide +kernel)
theorem qI_X8_dark : Cond.instanceMethod yX8_dark ∈ xT := xT_tb (xt_3 (List.mem_of_getElem? (i := 112) (by decide +kernel))) (by decide +kernel)
theorem qL_X8_dark : Cond.selects RX8 yX8_dark yX8_dark ∈ xT := xT_tb (xt_3 (List.mem_of_getElem? (i := 113) (by decide +kernel))) (by decide +kernel)
theorem qC_X9_dark : Cond.code yX9_dark cX9_dark 5 (some .int) ∈ xT := xT_tb (xt_5 (List.mem_of_getElem? (i := 185) rfl)) (by decide +kernel)
theorem qM_L_107 : Cond.methodLink RL 107 yX9_dark ∈ xT := xT_tb (xt_5 (List.mem_of_getElem? (i := 182) (by decide +kernel))) (by decide +kernel)
theorem qI_X9_dark : Cond.instanceMethod yX9_dark ∈ xT := xT_tb (xt_5 (List.mem_of_getElem? (i := 183) (by decide +kernel))) (by decide +kernel)
theorem qL_X9_dark : Cond.selects RX9 yX9_dark yX9_dark ∈ xT := xT_tb (xt_5 (List.mem_of_getElem? (i := 184) (by decide +kernel))) (by decide +kernel)
theorem qC_X8_deep : Cond.code yX8_deep cX8_deep 4 (some .int) ∈ xT := xT_tb (xt_3 (List.mem_of_getElem? (i := 119) rfl)) (by decide +kernel)
theorem qM_L_108 : Cond.methodLink RL 108 yX8_deep ∈ xT := xT_tb (xt_3 (List.mem_of_getElem? (i := 116) (by decide +kernel))) (by decide +kernel)
theorem qI_X8_deep : Cond.instanceMethod yX8_deep ∈ xT := xT_tb (xt_3 (List.mem_of_getElem? (i := 117) (by decide +kernel))) (by decide +kernel)
theorem qL_X8_deep : Cond.selects RX8 yX8_deep yX8_deep ∈ xT := xT_tb (xt_3 (List.mem_of_getElem? (i := 118) (by decide +kernel))) (by decide +kernel)
theorem qC_X9_deep : Cond.code yX9_deep cX9_deep 4 (some .int) ∈ xT := xT_tb (xt_5 (List.mem_of_getElem? (i := 189) rfl)) (by decide +kernel)
theorem qM_L_111 : Cond.methodLink RL 111 yX9_deep ∈ xT := xT_tb (xt_5 (List.mem_of_getElem? (i := 186) (by decide +kernel))) (by decide +kernel)
theorem qI_X9_deep : Cond.instanceMethod yX9_deep ∈ xT := xT_tb (xt_5 (List.mem_of_getElem? (i := 187) (by decide +kernel))) (by decide +kernel)
theorem qL_X9_deep : Cond.selects RX9 yX9_deep yX9_deep ∈ xT := xT_tb (xt_5 (List.mem_of_getElem? (i := 188) (by decide +kernel))) (by decide +kernel)
theorem qC_X8_draws : Cond.code yX8_draws cX8_draws 4 (some .int) ∈ xT := xT_tb (xt_3 (List.mem_of_getElem? (i := 123) rfl)) (by decide +kernel)
theorem qM_L_112 : Cond.methodLink RL 112 yX8_draws ∈ xT := xT_tb (xt_3 (List.mem_of_getElem? (i := 120) (by decide +kernel))) (by decide +kernel)
theorem qI_X8_draws : Cond.instanceMethod yX8_draws ∈ xT := xT_tb (xt_3 (List.mem_of_getElem? (i := 121) (by decide +kernel))) (by decide +kernel)
theorem qL_X8_draws : Cond.selects RX8 yX8_draws yX8_draws ∈ xT := xT_tb (xt_3 (List.mem_of_getElem? (i := 122) (by decide +kernel))) (by decide +kernel)
theorem qC_X9_draws : Cond.code yX9_draws cX9_draws 4 (some .int) ∈ xT := xT_tb (xt_5 (List.mem_of_getElem? (i := 193) rfl)) (by decide +kernel)
theorem qM_L_115 : Cond.methodLink RL 115 yX9_draws ∈ xT := xT_tb (xt_5 (List.mem_of_getElem? (i := 190) (by decide +kernel))) (by decide +kernel)
theorem qI_X9_draws : Cond.instanceMethod yX9_draws ∈ xT := xT_tb (xt_5 (List.mem_of_getElem? (i := 191) (by decide +kernel))) (by decide +kernel)
theorem qL_X9_draws : Cond.selects RX9 yX9_draws yX9_draws ∈ xT := xT_tb (xt_5 (List.mem_of_getElem? (i := 192) (by decide +kernel))) (by decide +kernel)
theorem qC_X8_traffic : Cond.code yX8_traffic cX8_traffic 8 (some .int) ∈ xT := xT_tb (xt_3 (List.mem_of_getElem? (i := 127) rfl)) (by decide +kernel)
theorem qM_L_116 : Cond.methodLink RL 116 yX8_traffic ∈ xT := xT_tb (xt_3 (List.mem_of_getElem? (i := 124) (by decide +kernel))) (by decide +kernel)
theorem qI_X8_traffic : Cond.instanceMethod yX8_traffic ∈ xT := xT_tb (xt_3 (List.mem_of_getElem? (i := 125) (by decide +kernel))) (by decide +kernel)
theorem qL_X8_traffic : Cond.selects RX8 yX8_traffic yX8_traffic ∈ xT := xT_tb (xt_3 (List.mem_of_getElem? (i := 126) (by decide +kernel))) (by decide +kernel)
theorem qC_X9_traffic : Cond.code yX9_traffic cX9_traffic 7 (some .int) ∈ xT := xT_tb (xt_5 (List.mem_of_getElem? (i := 197) rfl)) (by decide +kernel)
theorem qM_L_119 : Cond.methodLink RL 119 yX9_traffic ∈ xT := xT_tb (xt_5 (List.mem_of_getElem? (i := 194) (by decide +kernel))) (by decide +kernel)
theorem qI_X9_traffic : Cond.instanceMethod yX9_traffic ∈ xT := xT_tb (xt_5 (List.mem_of_getElem? (i := 195) (by decide +kernel))) (by decide +kernel)
theorem qL_X9_traffic : Cond.selects RX9 yX9_traffic yX9_traffic ∈ xT := xT_tb (xt_5 (List.mem_of_getElem? (i := 196) (by decide +kernel))) (by decide +kernel)
theorem qC_X8_odds : Cond.code yX8_odds cX8_odds 6 (some .int) ∈ xT := xT_tb (xt_3 (List.mem_of_getElem? (i := 131) rfl)) (by decide +kernel)
theorem qM_L_120 : Cond.methodLink RL 120 yX8_odds ∈ xT := xT_tb (xt_3 (List.mem_of_getElem? (i := 128) (by decide +kernel))) (by decide +kernel)
theorem qI_X8_odds : Cond.instanceMethod yX8_odds ∈ xT := xT_tb (xt_3 (List.mem_of_getElem? (i := 129) (by decide +kernel))) (by decide +kernel)
theorem qL_X8_odds : Cond.selects RX8 yX8_odds yX8_odds ∈ xT := xT_tb (xt_3 (List.mem_of_getElem? (i := 130) (by decide +kernel))) (by decide +kernel)
theorem qC_X9_odds : Cond.code yX9_odds cX9_odds 8 (some .int) ∈ xT := xT_tb (xt_5 (List.mem_of_getElem? (i := 201) rfl)) (by decide +kernel)
theorem qM_L_123 : Cond.methodLink RL 123 yX9_odds ∈ xT := xT_tb (xt_5 (List.mem_of_getElem? (i := 198) (by decide +kernel))) (by decide +kernel)
theorem qI_X9_odds : Cond.instanceMethod yX9_odds ∈ xT := xT_tb (xt_5 (List.mem_of_getElem? (i := 199) (by decide +kernel))) (by decide +kernel)
theorem qL_X9_odds : Cond.selects RX9 yX9_odds yX9_odds ∈ xT := xT_tb (xt_5 (List.mem_of_getElem? (i := 200) (by decide +kernel))) (by decide +kernel)
theorem qC_X8_seed : Cond.code yX8_seed cX8_seed 3 (some .int) ∈ xT := xT_tb (xt_3 (List.mem_of_getElem? (i := 138) rfl)) (by decide +kernel)
theorem qM_L_124 : Cond.methodLink RL 124 yX8_seed ∈ xT := xT_tb (xt_3 (List.mem_of_getElem? (i := 135) (by decide +kernel))) (by decide +kernel)
theorem qI_X8_seed : Cond.instanceMethod yX8_seed ∈ xT := xT_tb (xt_3 (List.mem_of_getElem? (i := 136) (by decide +kernel))) (by decide +kernel)
theorem qL_X8_seed : Cond.selects RX8 yX8_seed yX8_seed ∈ xT := xT_tb (xt_3 (List.mem_of_getElem? (i := 137) (by decide +kernel))) (by decide +kernel)
theorem qC_X9_seed : Cond.code yX9_seed cX9_seed 2 (some .int) ∈ xT := xT_tb (xt_5 (List.mem_of_getElem? (i := 205) rfl)) (by decide +kernel)
theorem qM_L_127 : Cond.methodLink RL 127 yX9_seed ∈ xT := xT_tb (xt_5 (List.mem_of_getElem? (i := 202) (by decide +kernel))) (by decide +kernel)
theorem qI_X9_seed : Cond.instanceMethod yX9_seed ∈ xT := xT_tb (xt_5 (List.mem_of_getElem? (i := 203) (by decide +kernel))) (by decide +kernel)
theorem qL_X9_seed : Cond.selects RX9 yX9_seed yX9_seed ∈ xT := xT_tb (xt_5 (List.mem_of_getElem? (i := 204) (by decide +kernel))) (by decide +kernel)
theorem qC_X8_voice : Cond.code yX8_voice cX8_voice 4 (some .int) ∈ xT := xT_tb (xt_3 (List.mem_of_getElem? (i := 142) rfl)) (by decide +kernel)
theorem qM_L_128 : Cond.methodLink RL 128 yX8_voice ∈ xT := xT_tb (xt_3 (List.mem_of_getElem? (i := 139) (by decide +kernel))) (by decide +kernel)
theorem qI_X8_voice : Cond.instanceMethod yX8_voice ∈ xT := xT_tb (xt_3 (List.mem_of_getElem? (i := 140) (by decide +kernel))) (by decide +kernel)
theorem qL_X8_voice : Cond.selects RX8 yX8_voice yX8_voice ∈ xT := xT_tb (xt_3 (List.mem_of_getElem? (i := 141) (by decide +kernel))) (by decide +kernel)
theorem qC_X9_voice : Cond.code yX9_voice cX9_voice 4 (some .int) ∈ xT := xT_tb (xt_5 (List.mem_of_getElem? (i := 209) rfl)) (by decide +kernel)
theorem qM_L_131 : Cond.methodLink RL 131 yX9_voice ∈ xT := xT_tb (xt_5 (List.mem_of_getElem? (i := 206) (by decide +kernel))) (by decide +kernel)
theorem qI_X9_voice : Cond.instanceMethod yX9_voice ∈ xT := xT_tb (xt_5 (List.mem_of_getElem? (i := 207) (by decide +kernel))) (by decide +kernel)
theorem qL_X9_voice : Cond.selects RX9 yX9_voice yX9_voice ∈ xT := xT_tb (xt_5 (List.mem_of_getElem? (i := 208) (by decide +kernel))) (by decide +kernel)
theorem qC_X8_trace : Cond.code yX8_trace cX8_trace 2 (some .int) ∈ xT := xT_tb (xt_3 (List.mem_of_getElem? (i := 169) rfl)) (by decide +kernel)
theorem qM_L_132 : Cond.methodLink RL 132 yX8_trace ∈ xT := xT_tb (xt_3 (List.mem_of_getElem? (i := 166) (by decide +kernel))) (by decide +kernel)
theorem qI_X8_trace : Cond.instanceMethod yX8_trace ∈ xT := xT_tb (xt_3 (List.mem_of_getElem? (i := 167) (by decide +kernel))) (by decide +kernel)
theorem qL_X8_trace : Cond.selects RX8 yX8_trace yX8_trace ∈ xT := xT_tb (xt_3 (List.mem_of_getElem? (i := 168) (by decide +kernel))) (by decide +kernel)
theorem qC_X9_trace : Cond.code yX9_trace cX9_trace 2 (some .int) ∈ xT := xT_tb (xt_5 (List.mem_of_getElem? (i := 237) rfl)) (by decide +kernel)
theorem qM_L_135 : Cond.methodLink RL 135 yX9_trace ∈ xT := xT_tb (xt_5 (List.mem_of_getElem? (i := 234) (by decide +kernel))) (by decide +kernel)
theorem qI_X9_trace : Cond.instanceMethod yX9_trace ∈ xT := xT_tb (xt_5 (List.mem_of_getElem? (i := 235) (by decide +kernel))) (by decide +kernel)
theorem qL_X9_trace : Cond.selects RX9 yX9_trace yX9_trace ∈ xT := xT_tb (xt_5 (List.mem_of_getElem? (i := 236) (by decide +kernel))) (by decide +kernel)
theorem qC_X8_sheet : Cond.code yX8_sheet cX8_sheet 4 (some .int) ∈ xT := xT_tb (xt_3 (List.mem_of_getElem? (i := 173) rfl)) (by decide +kernel)
theorem qM_L_136 : Cond.methodLink RL 136 yX8_sheet ∈ xT := xT_tb (xt_3 (List.mem_of_getElem? (i := 170) (by decide +kernel))) (by decide +kernel)
theorem qI_X8_sheet : Cond.instanceMethod yX8_sheet ∈ xT := xT_tb (xt_3 (List.mem_of_getElem? (i := 171) (by decide +kernel))) (by decide +kernel)
theorem qL_X8_sheet : Cond.selects RX8 yX8_sheet yX8_sheet ∈ xT := xT_tb (xt_3 (List.mem_of_getElem? (i := 172) (by decide +kernel))) (by decide +kernel)
theorem qC_X9_sheet : Cond.code yX9_sheet cX9_sheet 5 (some .int) ∈ xT := xT_tb (xt_6 (List.mem_of_getElem? (i := 1) rfl)) (by decide +kernel)
theorem qM_L_139 : Cond.methodLink RL 139 yX9_sheet ∈ xT := xT_tb (xt_5 (List.mem_of_getElem? (i := 238) (by decide +kernel))) (by decide +kernel)
theorem qI_X9_sheet : Cond.instanceMethod yX9_sheet ∈ xT := xT_tb (xt_5 (List.mem_of_getElem? (i := 239) (by decide +kernel))) (by decide +kernel)
theorem qL_X9_sheet : Cond.selects RX9 yX9_sheet yX9_sheet ∈ xT := xT_tb (xt_6 (List.mem_of_getElem? (i := 0) (by decide +kernel))) (by decide +kernel)
theorem qC_X8_put : Cond.code yX8_put cX8_put 5 (some .int) ∈ xT := xT_tb (xt_3 (List.mem_of_getElem? (i := 181) rfl)) (by decide +kernel)
theorem qM_L_140 : Cond.methodLink RL 140 yX8_put ∈ xT := xT_tb (xt_3 (List.mem_of_getElem? (i := 178) (by decide +kernel))) (by decide +kernel)
theorem qI_X8_put : Cond.instanceMethod yX8_put ∈ xT := xT_tb (xt_3 (List.mem_of_getElem? (i := 179) (by decide +kernel))) (by decide +kernel)
theorem qL_X8_put : Cond.selects RX8 yX8_put yX8_put ∈ xT := xT_tb (xt_3 (List.mem_of_getElem? (i := 180) (by decide +kernel))) (by decide +kernel)
theorem qC_X9_put : Cond.code yX9_put cX9_put 4 (some .int) ∈ xT := xT_tb (xt_6 (List.mem_of_getElem? (i := 5) rfl)) (by decide +kernel)
theorem qM_L_143 : Cond.methodLink RL 143 yX9_put ∈ xT := xT_tb (xt_6 (List.mem_of_getElem? (i := 2) (by decide +kernel))) (by decide +kernel)
theorem qI_X9_put : Cond.instanceMethod yX9_put ∈ xT := xT_tb (xt_6 (List.mem_of_getElem? (i := 3) (by decide +kernel))) (by decide +kernel)
theorem qL_X9_put : Cond.selects RX9 yX9_put yX9_put ∈ xT := xT_tb (xt_6 (List.mem_of_getElem? (i := 4) (by decide +kernel))) (by decide +kernel)
theorem qC_X8_move : Cond.code yX8_move cX8_move 8 (some .int) ∈ xT := xT_tb (xt_3 (List.mem_of_getElem? (i := 189) rfl)) (by decide +kernel)
theorem qM_L_144 : Cond.methodLink RL 144 yX8_move ∈ xT := xT_tb (xt_3 (List.mem_of_getElem? (i := 186) (by decide +kernel))) (by decide +kernel)
theorem qI_X8_move : Cond.instanceMethod yX8_move ∈ xT := xT_tb (xt_3 (List.mem_of_getElem? (i := 187) (by decide +kernel))) (by decide +kernel)
theorem qL_X8_move : Cond.selects RX8 yX8_move yX8_move ∈ xT := xT_tb (xt_3 (List.mem_of_getElem? (i := 188) (by decide +kernel))) (by decide +kernel)
theorem qC_X9_move : Cond.code yX9_move cX9_move 7 (some .int) ∈ xT := xT_tb (xt_6 (List.mem_of_getElem? (i := 9) rfl)) (by decide +kernel)
theorem qM_L_148 : Cond.methodLink RL 148 yX9_move ∈ xT := xT_tb (xt_6 (List.mem_of_getElem? (i := 6) (by decide +kernel))) (by decide +kernel)
theorem qI_X9_move : Cond.instanceMethod yX9_move ∈ xT := xT_tb (xt_6 (List.mem_of_getElem? (i := 7) (by decide +kernel))) (by decide +kernel)
theorem qL_X9_move : Cond.selects RX9 yX9_move yX9_move ∈ xT := xT_tb (xt_6 (List.mem_of_getElem? (i := 8) (by decide +kernel))) (by decide +kernel)
theorem qC_X8_beds : Cond.code yX8_beds cX8_beds 5 (some .int) ∈ xT := xT_tb (xt_3 (List.mem_of_getElem? (i := 198) rfl)) (by decide +kernel)
theorem qM_L_149 : Cond.methodLink RL 149 yX8_beds ∈ xT := xT_tb (xt_3 (List.mem_of_getElem? (i := 195) (by decide +kernel))) (by decide +kernel)
theorem qI_X8_beds : Cond.instanceMethod yX8_beds ∈ xT := xT_tb (xt_3 (List.mem_of_getElem? (i := 196) (by decide +kernel))) (by decide +kernel)
theorem qL_X8_beds : Cond.selects RX8 yX8_beds yX8_beds ∈ xT := xT_tb (xt_3 (List.mem_of_getElem? (i := 197) (by decide +kernel))) (by decide +kernel)
theorem qC_X9_beds : Cond.code yX9_beds cX9_beds 3 (some .int) ∈ xT := xT_tb (xt_6 (List.mem_of_getElem? (i := 13) rfl)) (by decide +kernel)
theorem qM_L_152 : Cond.methodLink RL 152 yX9_beds ∈ xT := xT_tb (xt_6 (List.mem_of_getElem? (i := 10) (by decide +kernel))) (by decide +kernel)
theorem qI_X9_beds : Cond.instanceMethod yX9_beds ∈ xT := xT_tb (xt_6 (List.mem_of_getElem? (i := 11) (by decide +kernel))) (by decide +kernel)
theorem qL_X9_beds : Cond.selects RX9 yX9_beds yX9_beds ∈ xT := xT_tb (xt_6 (List.mem_of_getElem? (i := 12) (by decide +kernel))) (by decide +kernel)
theorem qC_X8_judge : Cond.code yX8_judge cX8_judge 5 (some .int) ∈ xT := xT_tb (xt_3 (List.mem_of_getElem? (i := 203) rfl)) (by decide +kernel)
theorem qM_L_153 : Cond.methodLink RL 153 yX8_judge ∈ xT := xT_tb (xt_3 (List.mem_of_getElem? (i := 200) (by decide +kernel))) (by decide +kernel)
theorem qI_X8_judge : Cond.instanceMethod yX8_judge ∈ xT := xT_tb (xt_3 (List.mem_of_getElem? (i := 201) (by decide +kernel))) (by decide +kernel)
theorem qL_X8_judge : Cond.selects RX8 yX8_judge yX8_judge ∈ xT := xT_tb (xt_3 (List.mem_of_getElem? (i := 202) (by decide +kernel))) (by decide +kernel)
theorem qC_X9_judge : Cond.code yX9_judge cX9_judge 3 (some .int) ∈ xT := xT_tb (xt_6 (List.mem_of_getElem? (i := 17) rfl)) (by decide +kernel)
theorem qM_L_156 : Cond.methodLink RL 156 yX9_judge ∈ xT := xT_tb (xt_6 (List.mem_of_getElem? (i := 14) (by decide +kernel))) (by decide +kernel)
theorem qI_X9_judge : Cond.instanceMethod yX9_judge ∈ xT := xT_tb (xt_6 (List.mem_of_getElem? (i := 15) (by decide +kernel))) (by decide +kernel)
theorem qL_X9_judge : Cond.selects RX9 yX9_judge yX9_judge ∈ xT := xT_tb (xt_6 (List.mem_of_getElem? (i := 16) (by decide +kernel))) (by decide +kernel)
theorem qC_X8_image : Cond.code yX8_image cX8_image 1 (some .int) ∈ xT := xT_tb (xt_3 (List.mem_of_getElem? (i := 207) rfl)) (by decide +kernel)
theorem qM_L_157 : Cond.methodLink RL 157 yX8_image ∈ xT := xT_tb (xt_3 (List.mem_of_getElem? (i := 204) (by decide +kernel))) (by decide +kernel)
theorem qI_X8_image : Cond.instanceMethod yX8_image ∈ xT := xT_tb (xt_3 (List.mem_of_getElem? (i := 205) (by decide +kernel))) (by decide +kernel)
theorem qL_X8_image : Cond.selects RX8 yX8_image yX8_image ∈ xT := xT_tb (xt_3 (List.mem_of_getElem? (i := 206) (by decide +kernel))) (by decide +kernel)
theorem qC_X9_image : Cond.code yX9_image cX9_image 1 (some .int) ∈ xT := xT_tb (xt_6 (List.mem_of_getElem? (i := 21) rfl)) (by decide +kernel)
theorem qM_L_161 : Cond.methodLink RL 161 yX9_image ∈ xT := xT_tb (xt_6 (List.mem_of_getElem? (i := 18) (by decide +kernel))) (by decide +kernel)
theorem qI_X9_image : Cond.instanceMethod yX9_image ∈ xT := xT_tb (xt_6 (List.mem_of_getElem? (i := 19) (by decide +kernel))) (by decide +kernel)
theorem qL_X9_image : Cond.selects RX9 yX9_image yX9_image ∈ xT := xT_tb (xt_6 (List.mem_of_getElem? (i := 20) (by decide +kernel))) (by decide +kernel)
theorem qC_X8_restore : Cond.code yX8_restore cX8_restore 1 (some .int) ∈ xT := xT_tb (xt_3 (List.mem_of_getElem? (i := 222) rfl)) (by decide +kernel)
theorem qM_L_162 : Cond.methodLink RL 162 yX8_restore ∈ xT := xT_tb (xt_3 (List.mem_of_getElem? (i := 219) (by decide +kernel))) (by decide +kernel)
theorem qI_X8_restore : Cond.instanceMethod yX8_restore ∈ xT := xT_tb (xt_3 (List.mem_of_getElem? (i := 220) (by decide +kernel))) (by decide +kernel)
theorem qL_X8_restore : Cond.selects RX8 yX8_restore yX8_restore ∈ xT := xT_tb (xt_3 (List.mem_of_getElem? (i := 221) (by decide +kernel))) (by decide +kernel)
theorem qC_X9_restore : Cond.code yX9_restore cX9_restore 1 (some .int) ∈ xT := xT_tb (xt_6 (List.mem_of_getElem? (i := 25) rfl)) (by decide +kernel)
theorem qM_L_165 : Cond.methodLink RL 165 yX9_restore ∈ xT := xT_tb (xt_6 (List.mem_of_getElem? (i := 22) (by decide +kernel))) (by decide +kernel)
theorem qI_X9_restore : Cond.instanceMethod yX9_restore ∈ xT := xT_tb (xt_6 (List.mem_of_getElem? (i := 23) (by decide +kernel))) (by decide +kernel)
theorem qL_X9_restore : Cond.selects RX9 yX9_restore yX9_restore ∈ xT := xT_tb (xt_6 (List.mem_of_getElem? (i := 24) (by decide +kernel))) (by decide +kernel)
theorem qC_X8_tell : Cond.code yX8_tell cX8_tell 2 (some .int) ∈ xT := xT_tb (xt_3 (List.mem_of_getElem? (i := 226) rfl)) (by decide +kernel)
theorem qM_L_166 : Cond.methodLink RL 166 yX8_tell ∈ xT := xT_tb (xt_3 (List.mem_of_getElem? (i := 223) (by decide +kernel))) (by decide +kernel)
theorem qI_X8_tell : Cond.instanceMethod yX8_tell ∈ xT := xT_tb (xt_3 (List.mem_of_getElem? (i := 224) (by decide +kernel))) (by decide +kernel)
theorem qL_X8_tell : Cond.selects RX8 yX8_tell yX8_tell ∈ xT := xT_tb (xt_3 (List.mem_of_getElem? (i := 225) (by decide +kernel))) (by decide +kernel)
theorem qC_X9_tell : Cond.code yX9_tell cX9_tell 2 (some .int) ∈ xT := xT_tb (xt_6 (List.mem_of_getElem? (i := 29) rfl)) (by decide +kernel)
theorem qM_L_169 : Cond.methodLink RL 169 yX9_tell ∈ xT := xT_tb (xt_6 (List.mem_of_getElem? (i := 26) (by decide +kernel))) (by decide +kernel)
theorem qI_X9_tell : Cond.instanceMethod yX9_tell ∈ xT := xT_tb (xt_6 (List.mem_of_getElem? (i := 27) (by decide +kernel))) (by decide +kernel)
theorem qL_X9_tell : Cond.selects RX9 yX9_tell yX9_tell ∈ xT := xT_tb (xt_6 (List.mem_of_getElem? (i := 28) (by decide +kernel))) (by decide +kernel)
theorem qC_X8_check : Cond.code yX8_check cX8_check 3 (some .int) ∈ xT := xT_tb (xt_3 (List.mem_of_getElem? (i := 230) rfl)) (by decide +kernel)
theorem qM_L_170 : Cond.methodLink RL 170 yX8_check ∈ xT := xT_tb (xt_3 (List.mem_of_getElem? (i := 227) (by decide +kernel))) (by decide +kernel)
theorem qI_X8_check : Cond.instanceMethod yX8_check ∈ xT := xT_tb (xt_3 (List.mem_of_getElem? (i := 228) (by decide +kernel))) (by decide +kernel)
theorem qL_X8_check : Cond.selects RX8 yX8_check yX8_check ∈ xT := xT_tb (xt_3 (List.mem_of_getElem? (i := 229) (by decide +kernel))) (by decide +kernel)
theorem qC_X9_check : Cond.code yX9_check cX9_check 4 (some .int) ∈ xT := xT_tb (xt_6 (List.mem_of_getElem? (i := 33) rfl)) (by decide +kernel)
theorem qM_L_173 : Cond.methodLink RL 173 yX9_check ∈ xT := xT_tb (xt_6 (List.mem_of_getElem? (i := 30) (by decide +kernel))) (by decide +kernel)
theorem qI_X9_check : Cond.instanceMethod yX9_check ∈ xT := xT_tb (xt_6 (List.mem_of_getElem? (i := 31) (by decide +kernel))) (by decide +kernel)
theorem qL_X9_check : Cond.selects RX9 yX9_check yX9_check ∈ xT := xT_tb (xt_6 (List.mem_of_getElem? (i := 32) (by decide +kernel))) (by decide +kernel)
theorem qC_X8_count : Cond.code yX8_count cX8_count 2 (some .int) ∈ xT := xT_tb (xt_3 (List.mem_of_getElem? (i := 234) rfl)) (by decide +kernel)
theorem qM_L_174 : Cond.methodLink RL 174 yX8_count ∈ xT := xT_tb (xt_3 (List.mem_of_getElem? (i := 231) (by decide +kernel))) (by decide +kernel)
theorem qI_X8_count : Cond.instanceMethod yX8_count ∈ xT := xT_tb (xt_3 (List.mem_of_getElem? (i := 232) (by decide +kernel))) (by decide +kernel)
theorem qL_X8_count : Cond.selects RX8 yX8_count yX8_count ∈ xT := xT_tb (xt_3 (List.mem_of_getElem? (i := 233) (by decide +kernel))) (by decide +kernel)
theorem qC_X9_count : Cond.code yX9_count cX9_count 2 (some .int) ∈ xT := xT_tb (xt_6 (List.mem_of_getElem? (i := 37) rfl)) (by decide +kernel)
theorem qM_L_177 : Cond.methodLink RL 177 yX9_count ∈ xT := xT_tb (xt_6 (List.mem_of_getElem? (i := 34) (by decide +kernel))) (by decide +kernel)
theorem qI_X9_count : Cond.instanceMethod yX9_count ∈ xT := xT_tb (xt_6 (List.mem_of_getElem? (i := 35) (by decide +kernel))) (by decide +kernel)
theorem qL_X9_count : Cond.selects RX9 yX9_count yX9_count ∈ xT := xT_tb (xt_6 (List.mem_of_getElem? (i := 36) (by decide +kernel))) (by decide +kernel)
theorem qC_X8_told : Cond.code yX8_told cX8_told 2 (some .int) ∈ xT := xT_tb (xt_3 (List.mem_of_getElem? (i := 238) rfl)) (by decide +kernel)
theorem qM_L_178 : Cond.methodLink RL 178 yX8_told ∈ xT := xT_tb (xt_3 (List.mem_of_getElem? (i := 235) (by decide +kernel))) (by decide +kernel)
theorem qI_X8_told : Cond.instanceMethod yX8_told ∈ xT := xT_tb (xt_3 (List.mem_of_getElem? (i := 236) (by decide +kernel))) (by decide +kernel)
theorem qL_X8_told : Cond.selects RX8 yX8_told yX8_told ∈ xT := xT_tb (xt_3 (List.mem_of_getElem? (i := 237) (by decide +kernel))) (by decide +kernel)
theorem qC_X9_told : Cond.code yX9_told cX9_told 2 (some .int) ∈ xT := xT_tb (xt_6 (List.mem_of_getElem? (i := 41) rfl)) (by decide +kernel)
theorem qM_L_181 : Cond.methodLink RL 181 yX9_told ∈ xT := xT_tb (xt_6 (List.mem_of_getElem? (i := 38) (by decide +kernel))) (by decide +kernel)
theorem qI_X9_told : Cond.instanceMethod yX9_told ∈ xT := xT_tb (xt_6 (List.mem_of_getElem? (i := 39) (by decide +kernel))) (by decide +kernel)
theorem qL_X9_told : Cond.selects RX9 yX9_told yX9_told ∈ xT := xT_tb (xt_6 (List.mem_of_getElem? (i := 40) (by decide +kernel))) (by decide +kernel)
theorem qn_long : Cond.constantLong R_law 52 4294967295 ∈ xT := xT_tb (xt_6 (List.mem_of_getElem? (i := 42) (by decide +kernel))) (by decide +kernel)
theorem cw_L_13 : xCV RL 13 yX8_bay cX8_bay 3 (some .int) 1 := ⟨⟨⟨by decide, by decide, by decide +kernel⟩, qC_X8_bay, qJ_X8, by decide⟩, qM_L_13, qI_X8_bay, qL_X8_bay⟩
theorem cw_L_17 : xCV RL 17 yX9_bay cX9_bay 2 (some .int) 1 := ⟨⟨⟨by decide, by decide, by decide +kernel⟩, qC_X9_bay, qJ_X9, by decide⟩, qM_L_17, qI_X9_bay, qL_X9_bay⟩
theorem cw_L_18 : xCV RL 18 yX8_lay cX8_lay 6 (some .int) 3 := ⟨⟨⟨by decide, by decide, by decide +kernel⟩, qC_X8_lay, qJ_X8, by decide⟩, qM_L_18, qI_X8_lay, qL_X8_lay⟩
theorem cw_L_22 : xCV RL 22 yX9_lay cX9_lay 4 (some .int) 3 := ⟨⟨⟨by decide, by decide, by decide +kernel⟩, qC_X9_lay, qJ_X9, by decide⟩, qM_L_22, qI_X9_lay, qL_X9_lay⟩
theorem cw_L_23 : xCV RL 23 yX8_ofCell cX8_ofCell 3 (some .int) 2 := ⟨⟨⟨by decide, by decide, by decide +kernel⟩, qC_X8_ofCell, qJ_X8, by decide⟩, qM_L_23, qI_X8_ofCell, qL_X8_ofCell⟩
theorem cw_L_27 : xCV RL 27 yX9_ofCell cX9_ofCell 3 (some .int) 2 := ⟨⟨⟨by decide, by decide, by decide +kernel⟩, qC_X9_ofCell, qJ_X9, by decide⟩, qM_L_27, qI_X9_ofCell, qL_X9_ofCell⟩
theorem cw_L_28 : xCV RL 28 yX8_set cX8_set 4 (some .int) 2 := ⟨⟨⟨by decide, by decide, by decide +kernel⟩, qC_X8_set, qJ_X8, by decide⟩, qM_L_28, qI_X8_set, qL_X8_set⟩
theorem cw_L_31 : xCV RL 31 yX9_set cX9_set 4 (some .int) 2 := ⟨⟨⟨by decide, by decide, by decide +kernel⟩, qC_X9_set, qJ_X9, by decide⟩, qM_L_31, qI_X9_set, qL_X9_set⟩
theorem cw_L_32 : xCV RL 32 yX8_ship cX8_ship 5 (some .int) 3 := ⟨⟨⟨by decide, by decide, by decide +kernel⟩, qC_X8_ship, qJ_X8, by decide⟩, qM_L_32, qI_X8_ship, qL_X8_ship⟩
theorem cw_L_35 : xCV RL 35 yX9_ship cX9_ship 4 (some .int) 3 := ⟨⟨⟨by decide, by decide, by decide +kernel⟩, qC_X9_ship, qJ_X9, by decide⟩, qM_L_35, qI_X9_ship, qL_X9_ship⟩
theorem cw_L_36 : xCV RL 36 yX8_ofShip cX8_ofShip 3 (some .int) 2 := ⟨⟨⟨by decide, by decide, by decide +kernel⟩, qC_X8_ofShip, qJ_X8, by decide⟩, qM_L_36, qI_X8_ofShip, qL_X8_ofShip⟩
theorem cw_L_39 : xCV RL 39 yX9_ofShip cX9_ofShip 4 (some .int) 2 := ⟨⟨⟨by decide, by decide, by decide +kernel⟩, qC_X9_ofShip, qJ_X9, by decide⟩, qM_L_39, qI_X9_ofShip, qL_X9_ofShip⟩
theorem cw_L_40 : xCV RL 40 yX8_change cX8_change 6 (some .int) 3 := ⟨⟨⟨by decide, by decide, by decide +kernel⟩, qC_X8_change, qJ_X8, by decide⟩, qM_L_40, qI_X8_change, qL_X8_change⟩
theorem cw_L_43 : xCV RL 43 yX9_change cX9_change 5 (some .int) 3 := ⟨⟨⟨by decide, by decide, by decide +kernel⟩, qC_X9_change, qJ_X9, by decide⟩, qM_L_43, qI_X9_change, qL_X9_change⟩
theorem cw_L_44 : xCV RL 44 yX8_become cX8_become 4 (some .int) 2 := ⟨⟨⟨by decide, by decide, by decide +kernel⟩, qC_X8_become, qJ_X8, by decide⟩, qM_L_44, qI_X8_become, qL_X8_become⟩
theorem cw_L_47 : xCV RL 47 yX9_become cX9_become 3 (some .int) 2 := ⟨⟨⟨by decide, by decide, by decide +kernel⟩, qC_X9_become, qJ_X9, by decide⟩, qM_L_47, qI_X9_become, qL_X9_become⟩
theorem cw_L_48 : xCV RL 48 yX8_as cX8_as 3 (some .int) 2 := ⟨⟨⟨by decide, by decide, by decide +kernel⟩, qC_X8_as, qJ_X8, by decide⟩, qM_L_48, qI_X8_as, qL_X8_as⟩
theorem cw_L_51 : xCV RL 51 yX9_as cX9_as 3 (some .int) 2 := ⟨⟨⟨by decide, by decide, by decide +kernel⟩, qC_X9_as, qJ_X9, by decide⟩, qM_L_51, qI_X9_as, qL_X9_as⟩
theorem cw_L_54 : xCV RL 54 yX8_feed cX8_feed 5 (some .int) 2 := ⟨⟨⟨by decide, by decide, by decide +kernel⟩, qC_X8_feed, qJ_X8, by decide⟩, qM_L_54, qI_X8_feed, qL_X8_feed⟩
theorem cw_L_58 : xCV RL 58 yX9_feed cX9_feed 5 (some .int) 2 := ⟨⟨⟨by decide, by decide, by decide +kernel⟩, qC_X9_feed, qJ_X9, by decide⟩, qM_L_58, qI_X9_feed, qL_X9_feed⟩
theorem cw_L_59 : xCV RL 59 yX8_text cX8_text 3 (some .int) 1 := ⟨⟨⟨by decide, by decide, by decide +kernel⟩, qC_X8_text, qJ_X8, by decide⟩, qM_L_59, qI_X8_text, qL_X8_text⟩
theorem cw_L_62 : xCV RL 62 yX9_text cX9_text 3 (some .int) 1 := ⟨⟨⟨by decide, by decide, by decide +kernel⟩, qC_X9_text, qJ_X9, by decide⟩, qM_L_62, qI_X9_text, qL_X9_text⟩
theorem cw_L_63 : xCV RL 63 yX8_law cX8_law 5 (some .int) 4 := ⟨⟨⟨by decide, by decide, by decide +kernel⟩, qC_X8_law, qJ_X8, by decide⟩, qM_L_63, qI_X8_law, qL_X8_law⟩
theorem cw_L_67 : xCV RL 67 yX9_law cX9_law 5 (some .int) 4 := ⟨⟨⟨by decide, by decide, by decide +kernel⟩, qC_X9_law, qJ_X9, by decide⟩, qM_L_67, qI_X9_law, qL_X9_law⟩
theorem cw_L_68 : xCV RL 68 yX8_hours cX8_hours 3 (some .int) 1 := ⟨⟨⟨by decide, by decide, by decide +kernel⟩, qC_X8_hours, qJ_X8, by decide⟩, qM_L_68, qI_X8_hours, qL_X8_hours⟩
theorem cw_L_71 : xCV RL 71 yX9_hours cX9_hours 2 (some .int) 1 := ⟨⟨⟨by decide, by decide, by decide +kernel⟩, qC_X9_hours, qJ_X9, by decide⟩, qM_L_71, qI_X9_hours, qL_X9_hours⟩
theorem cw_L_72 : xCV RL 72 yX8_loose cX8_loose 3 (some .int) 1 := ⟨⟨⟨by decide, by decide, by decide +kernel⟩, qC_X8_loose, qJ_X8, by decide⟩, qM_L_72, qI_X8_loose, qL_X8_loose⟩
theorem cw_L_75 : xCV RL 75 yX9_loose cX9_loose 3 (some .int) 1 := ⟨⟨⟨by decide, by decide, by decide +kernel⟩, qC_X9_loose, qJ_X9, by decide⟩, qM_L_75, qI_X9_loose, qL_X9_loose⟩
theorem cw_L_76 : xCV RL 76 yX8_depth cX8_depth 3 (some .int) 2 := ⟨⟨⟨by decide, by decide, by decide +kernel⟩, qC_X8_depth, qJ_X8, by decide⟩, qM_L_76, qI_X8_depth, qL_X8_depth⟩
theorem cw_L_79 : xCV RL 79 yX9_depth cX9_depth 3 (some .int) 2 := ⟨⟨⟨by decide, by decide, by decide +kernel⟩, qC_X9_depth, qJ_X9, by decide⟩, qM_L_79, qI_X9_depth, qL_X9_depth⟩
theorem cw_L_80 : xCV RL 80 yX8_then cX8_then 4 (some .int) 3 := ⟨⟨⟨by decide, by decide, by decide +kernel⟩, qC_X8_then, qJ_X8, by decide⟩, qM_L_80, qI_X8_then, qL_X8_then⟩
theorem cw_L_83 : xCV RL 83 yX9_then cX9_then 4 (some .int) 3 := ⟨⟨⟨by decide, by decide, by decide +kernel⟩, qC_X9_then, qJ_X9, by decide⟩, qM_L_83, qI_X9_then, qL_X9_then⟩
theorem cw_L_84 : xCV RL 84 yX8_lost cX8_lost 4 (some .int) 1 := ⟨⟨⟨by decide, by decide, by decide +kernel⟩, qC_X8_lost, qJ_X8, by decide⟩, qM_L_84, qI_X8_lost, qL_X8_lost⟩
theorem cw_L_87 : xCV RL 87 yX9_lost cX9_lost 5 (some .int) 1 := ⟨⟨⟨by decide, by decide, by decide +kernel⟩, qC_X9_lost, qJ_X9, by decide⟩, qM_L_87, qI_X9_lost, qL_X9_lost⟩
theorem cw_L_88 : xCV RL 88 yX8_setting cX8_setting 4 (some .int) 2 := ⟨⟨⟨by decide, by decide, by decide +kernel⟩, qC_X8_setting, qJ_X8, by decide⟩, qM_L_88, qI_X8_setting, qL_X8_setting⟩
theorem cw_L_91 : xCV RL 91 yX9_setting cX9_setting 5 (some .int) 2 := ⟨⟨⟨by decide, by decide, by decide +kernel⟩, qC_X9_setting, qJ_X9, by decide⟩, qM_L_91, qI_X9_setting, qL_X9_setting⟩
theorem cw_L_92 : xCV RL 92 yX8_leastFalse cX8_leastFalse 6 (some .int) 1 := ⟨⟨⟨by decide, by decide, by decide +kernel⟩, qC_X8_leastFalse, qJ_X8, by decide⟩, qM_L_92, qI_X8_leastFalse, qL_X8_leastFalse⟩
theorem cw_L_95 : xCV RL 95 yX9_leastFalse cX9_leastFalse 4 (some .int) 1 := ⟨⟨⟨by decide, by decide, by decide +kernel⟩, qC_X9_leastFalse, qJ_X9, by decide⟩, qM_L_95, qI_X9_leastFalse, qL_X9_leastFalse⟩
theorem cw_L_96 : xCV RL 96 yX8_which cX8_which 7 (some .int) 2 := ⟨⟨⟨by decide, by decide, by decide +kernel⟩, qC_X8_which, qJ_X8, by decide⟩, qM_L_96, qI_X8_which, qL_X8_which⟩
theorem cw_L_99 : xCV RL 99 yX9_which cX9_which 7 (some .int) 2 := ⟨⟨⟨by decide, by decide, by decide +kernel⟩, qC_X9_which, qJ_X9, by decide⟩, qM_L_99, qI_X9_which, qL_X9_which⟩
theorem cw_L_100 : xCV RL 100 yX8_struck cX8_struck 2 (some .int) 1 := ⟨⟨⟨by decide, by decide, by decide +kernel⟩, qC_X8_struck, qJ_X8, by decide⟩, qM_L_100, qI_X8_struck, qL_X8_struck⟩
theorem cw_L_103 : xCV RL 103 yX9_struck cX9_struck 2 (some .int) 1 := ⟨⟨⟨by decide, by decide, by decide +kernel⟩, qC_X9_struck, qJ_X9, by decide⟩, qM_L_103, qI_X9_struck, qL_X9_struck⟩
theorem cw_L_104 : xCV RL 104 yX8_dark cX8_dark 6 (some .int) 1 := ⟨⟨⟨by decide, by decide, by decide +kernel⟩, qC_X8_dark, qJ_X8, by decide⟩, qM_L_104, qI_X8_dark, qL_X8_dark⟩
theorem cw_L_107 : xCV RL 107 yX9_dark cX9_dark 5 (some .int) 1 := ⟨⟨⟨by decide, by decide, by decide +kernel⟩, qC_X9_dark, qJ_X9, by decide⟩, qM_L_107, qI_X9_dark, qL_X9_dark⟩
theorem cw_L_108 : xCV RL 108 yX8_deep cX8_deep 4 (some .int) 2 := ⟨⟨⟨by decide, by decide, by decide +kernel⟩, qC_X8_deep, qJ_X8, by decide⟩, qM_L_108, qI_X8_deep, qL_X8_deep⟩
theorem cw_L_111 : xCV RL 111 yX9_deep cX9_deep 4 (some .int) 2 := ⟨⟨⟨by decide, by decide, by decide +kernel⟩, qC_X9_deep, qJ_X9, by decide⟩, qM_L_111, qI_X9_deep, qL_X9_deep⟩
theorem cw_L_112 : xCV RL 112 yX8_draws cX8_draws 4 (some .int) 1 := ⟨⟨⟨by decide, by decide, by decide +kernel⟩, qC_X8_draws, qJ_X8, by decide⟩, qM_L_112, qI_X8_draws, qL_X8_draws⟩
theorem cw_L_115 : xCV RL 115 yX9_draws cX9_draws 4 (some .int) 1 := ⟨⟨⟨by decide, by decide, by decide +kernel⟩, qC_X9_draws, qJ_X9, by decide⟩, qM_L_115, qI_X9_draws, qL_X9_draws⟩
theorem cw_L_116 : xCV RL 116 yX8_traffic cX8_traffic 8 (some .int) 2 := ⟨⟨⟨by decide, by decide, by decide +kernel⟩, qC_X8_traffic, qJ_X8, by decide⟩, qM_L_116, qI_X8_traffic, qL_X8_traffic⟩
theorem cw_L_119 : xCV RL 119 yX9_traffic cX9_traffic 7 (some .int) 2 := ⟨⟨⟨by decide, by decide, by decide +kernel⟩, qC_X9_traffic, qJ_X9, by decide⟩, qM_L_119, qI_X9_traffic, qL_X9_traffic⟩
theorem cw_L_120 : xCV RL 120 yX8_odds cX8_odds 6 (some .int) 3 := ⟨⟨⟨by decide, by decide, by decide +kernel⟩, qC_X8_odds, qJ_X8, by decide⟩, qM_L_120, qI_X8_odds, qL_X8_odds⟩
theorem cw_L_123 : xCV RL 123 yX9_odds cX9_odds 8 (some .int) 3 := ⟨⟨⟨by decide, by decide, by decide +kernel⟩, qC_X9_odds, qJ_X9, by decide⟩, qM_L_123, qI_X9_odds, qL_X9_odds⟩
theorem cw_L_124 : xCV RL 124 yX8_seed cX8_seed 3 (some .int) 1 := ⟨⟨⟨by decide, by decide, by decide +kernel⟩, qC_X8_seed, qJ_X8, by decide⟩, qM_L_124, qI_X8_seed, qL_X8_seed⟩
theorem cw_L_127 : xCV RL 127 yX9_seed cX9_seed 2 (some .int) 1 := ⟨⟨⟨by decide, by decide, by decide +kernel⟩, qC_X9_seed, qJ_X9, by decide⟩, qM_L_127, qI_X9_seed, qL_X9_seed⟩
theorem cw_L_128 : xCV RL 128 yX8_voice cX8_voice 4 (some .int) 3 := ⟨⟨⟨by decide, by decide, by decide +kernel⟩, qC_X8_voice, qJ_X8, by decide⟩, qM_L_128, qI_X8_voice, qL_X8_voice⟩
theorem cw_L_131 : xCV RL 131 yX9_voice cX9_voice 4 (some .int) 3 := ⟨⟨⟨by decide, by decide, by decide +kernel⟩, qC_X9_voice, qJ_X9, by decide⟩, qM_L_131, qI_X9_voice, qL_X9_voice⟩
theorem cw_L_132 : xCV RL 132 yX8_trace cX8_trace 2 (some .int) 1 := ⟨⟨⟨by decide, by decide, by decide +kernel⟩, qC_X8_trace, qJ_X8, by decide⟩, qM_L_132, qI_X8_trace, qL_X8_trace⟩
theorem cw_L_135 : xCV RL 135 yX9_trace cX9_trace 2 (some .int) 1 := ⟨⟨⟨by decide, by decide, by decide +kernel⟩, qC_X9_trace, qJ_X9, by decide⟩, qM_L_135, qI_X9_trace, qL_X9_trace⟩
theorem cw_L_136 : xCV RL 136 yX8_sheet cX8_sheet 4 (some .int) 3 := ⟨⟨⟨by decide, by decide, by decide +kernel⟩, qC_X8_sheet, qJ_X8, by decide⟩, qM_L_136, qI_X8_sheet, qL_X8_sheet⟩
theorem cw_L_139 : xCV RL 139 yX9_sheet cX9_sheet 5 (some .int) 3 := ⟨⟨⟨by decide, by decide, by decide +kernel⟩, qC_X9_sheet, qJ_X9, by decide⟩, qM_L_139, qI_X9_sheet, qL_X9_sheet⟩
theorem cw_L_140 : xCV RL 140 yX8_put cX8_put 5 (some .int) 3 := ⟨⟨⟨by decide, by decide, by decide +kernel⟩, qC_X8_put, qJ_X8, by decide⟩, qM_L_140, qI_X8_put, qL_X8_put⟩
theorem cw_L_143 : xCV RL 143 yX9_put cX9_put 4 (some .int) 3 := ⟨⟨⟨by decide, by decide, by decide +kernel⟩, qC_X9_put, qJ_X9, by decide⟩, qM_L_143, qI_X9_put, qL_X9_put⟩
theorem cw_L_144 : xCV RL 144 yX8_move cX8_move 8 (some .int) 5 := ⟨⟨⟨by decide, by decide, by decide +kernel⟩, qC_X8_move, qJ_X8, by decide⟩, qM_L_144, qI_X8_move, qL_X8_move⟩
theorem cw_L_148 : xCV RL 148 yX9_move cX9_move 7 (some .int) 5 := ⟨⟨⟨by decide, by decide, by decide +kernel⟩, qC_X9_move, qJ_X9, by decide⟩, qM_L_148, qI_X9_move, qL_X9_move⟩
theorem cw_L_149 : xCV RL 149 yX8_beds cX8_beds 5 (some .int) 1 := ⟨⟨⟨by decide, by decide, by decide +kernel⟩, qC_X8_beds, qJ_X8, by decide⟩, qM_L_149, qI_X8_beds, qL_X8_beds⟩
theorem cw_L_152 : xCV RL 152 yX9_beds cX9_beds 3 (some .int) 1 := ⟨⟨⟨by decide, by decide, by decide +kernel⟩, qC_X9_beds, qJ_X9, by decide⟩, qM_L_152, qI_X9_beds, qL_X9_beds⟩
theorem cw_L_153 : xCV RL 153 yX8_judge cX8_judge 5 (some .int) 1 := ⟨⟨⟨by decide, by decide, by decide +kernel⟩, qC_X8_judge, qJ_X8, by decide⟩, qM_L_153, qI_X8_judge, qL_X8_judge⟩
theorem cw_L_156 : xCV RL 156 yX9_judge cX9_judge 3 (some .int) 1 := ⟨⟨⟨by decide, by decide, by decide +kernel⟩, qC_X9_judge, qJ_X9, by decide⟩, qM_L_156, qI_X9_judge, qL_X9_judge⟩
theorem cw_L_157 : xCV RL 157 yX8_image cX8_image 1 (some .int) 0 := ⟨⟨⟨by decide, by decide, by decide +kernel⟩, qC_X8_image, qJ_X8, by decide⟩, qM_L_157, qI_X8_image, qL_X8_image⟩
theorem cw_L_161 : xCV RL 161 yX9_image cX9_image 1 (some .int) 0 := ⟨⟨⟨by decide, by decide, by decide +kernel⟩, qC_X9_image, qJ_X9, by decide⟩, qM_L_161, qI_X9_image, qL_X9_image⟩
theorem cw_L_162 : xCV RL 162 yX8_restore cX8_restore 1 (some .int) 0 := ⟨⟨⟨by decide, by decide, by decide +kernel⟩, qC_X8_restore, qJ_X8, by decide⟩, qM_L_162, qI_X8_restore, qL_X8_restore⟩
theorem cw_L_165 : xCV RL 165 yX9_restore cX9_restore 1 (some .int) 0 := ⟨⟨⟨by decide, by decide, by decide +kernel⟩, qC_X9_restore, qJ_X9, by decide⟩, qM_L_165, qI_X9_restore, qL_X9_restore⟩
theorem cw_L_166 : xCV RL 166 yX8_tell cX8_tell 2 (some .int) 1 := ⟨⟨⟨by decide, by decide, by decide +kernel⟩, qC_X8_tell, qJ_X8, by decide⟩, qM_L_166, qI_X8_tell, qL_X8_tell⟩
theorem cw_L_169 : xCV RL 169 yX9_tell cX9_tell 2 (some .int) 1 := ⟨⟨⟨by decide, by decide, by decide +kernel⟩, qC_X9_tell, qJ_X9, by decide⟩, qM_L_169, qI_X9_tell, qL_X9_tell⟩
theorem cw_L_170 : xCV RL 170 yX8_check cX8_check 3 (some .int) 0 := ⟨⟨⟨by decide, by decide, by decide +kernel⟩, qC_X8_check, qJ_X8, by decide⟩, qM_L_170, qI_X8_check, qL_X8_check⟩
theorem cw_L_173 : xCV RL 173 yX9_check cX9_check 4 (some .int) 0 := ⟨⟨⟨by decide, by decide, by decide +kernel⟩, qC_X9_check, qJ_X9, by decide⟩, qM_L_173, qI_X9_check, qL_X9_check⟩
theorem cw_L_174 : xCV RL 174 yX8_count cX8_count 2 (some .int) 1 := ⟨⟨⟨by decide, by decide, by decide +kernel⟩, qC_X8_count, qJ_X8, by decide⟩, qM_L_174, qI_X8_count, qL_X8_count⟩
theorem cw_L_177 : xCV RL 177 yX9_count cX9_count 2 (some .int) 1 := ⟨⟨⟨by decide, by decide, by decide +kernel⟩, qC_X9_count, qJ_X9, by decide⟩, qM_L_177, qI_X9_count, qL_X9_count⟩
theorem cw_L_178 : xCV RL 178 yX8_told cX8_told 2 (some .int) 1 := ⟨⟨⟨by decide, by decide, by decide +kernel⟩, qC_X8_told, qJ_X8, by decide⟩, qM_L_178, qI_X8_told, qL_X8_told⟩
theorem cw_L_181 : xCV RL 181 yX9_told cX9_told 2 (some .int) 1 := ⟨⟨⟨by decide, by decide, by decide +kernel⟩, qC_X9_told, qJ_X9, by decide⟩, qM_L_181, qI_X9_told, qL_X9_told⟩
theorem lc_0 {p : Program} {l : Launch} {e : Env} {s : State} {m : MethodId} {below : List Frame} {meth : Method} {c : Code} {b L : Nat} {xs : Nat → Int32} {G1 G2 : xG} {i : Int32} {σ1 σ2 : xS} {k : Nat} (hC : lC p s m meth c b L xs G1 G2) (hk : k + 6 ≤ L) (hi : i = nI k) (hR : Rel σ1 σ2) (kk : ∀ a b1, Rel a b1 → lw p l e s m below meth c b G1 G2 i 1468 [] a b1) : lw p l e s m below meth c b G1 G2 i 208 [] σ1 σ2 := by
  obtain ⟨r, c1, m1, hf, hg, hR1⟩ := op_bay (xs (k + 1)) σ1 σ2 hR
  refine l_al1 (pc := 208) hC dL_law_208 ?_
  refine l_arg (pc := 209) (j := 1) (n := 214) hC hk hi (by decide) (by decide) rfl dL_law_209 dL_law_210 dL_law_211 dL_law_212 dL_law_213 ?_
  refine l_call1 (pc := 214) (As := [.int (xs (k + 1))]) (rest := []) hC (kX8_bay l hC.2.2.2.2.2.1 hf) cw_L_13 (by decide) rfl dL_law_214 rfl (Nat.le_of_ble_eq_true rfl) ?_
  refine l_al2 (pc := 217) hC dL_law_217 ?_
  refine l_arg (pc := 218) (j := 1) (n := 223) hC hk hi (by decide) (by decide) rfl dL_law_218 dL_law_219 dL_law_220 dL_law_221 dL_law_222 ?_
  refine l_call2 (pc := 223) (As := [.int (xs (k + 1))]) (rest := [.int r]) hC (kX9_bay l hC.2.2.2.2.2.2.1 hg) cw_L_17 (by decide) rfl dL_law_223 rfl (Nat.le_of_ble_eq_true rfl) ?_
  exact l_cmp (pc := 226) hC dL_law_226 (by decide) (kk c1 m1 hR1)
theorem lc_1 {p : Program} {l : Launch} {e : Env} {s : State} {m : MethodId} {below : List Frame} {meth : Method} {c : Code} {b L : Nat} {xs : Nat → Int32} {G1 G2 : xG} {i : Int32} {σ1 σ2 : xS} {k : Nat} (hC : lC p s m meth c b L xs G1 G2) (hk : k + 6 ≤ L) (hi : i = nI k) (hR : Rel σ1 σ2) (kk : ∀ a b1, Rel a b1 → lw p l e s m below meth c b G1 G2 i 1468 [] a b1) : lw p l e s m below meth c b G1 G2 i 231 [] σ1 σ2 := by
  obtain ⟨r, c1, m1, hf, hg, hR1⟩ := op_lay (xs (k + 1)) (xs (k + 2)) (xs (k + 3)) σ1 σ2 hR
  refine l_al1 (pc := 231) hC dL_law_231 ?_
  refine l_arg (pc := 232) (j := 1) (n := 237) hC hk hi (by decide) (by decide) rfl dL_law_232 dL_law_233 dL_law_234 dL_law_235 dL_law_236 ?_
  refine l_arg (pc := 237) (j := 2) (n := 242) hC hk hi (by decide) (by decide) rfl dL_law_237 dL_law_238 dL_law_239 dL_law_240 dL_law_241 ?_
  refine l_arg (pc := 242) (j := 3) (n := 247) hC hk hi (by decide) (by decide) rfl dL_law_242 dL_law_243 dL_law_244 dL_law_245 dL_law_246 ?_
  refine l_call1 (pc := 247) (As := [.int (xs (k + 1)), .int (xs (k + 2)), .int (xs (k + 3))]) (rest := []) hC (kX8_lay l hC.2.2.2.2.2.1 hf) cw_L_18 (by decide) rfl dL_law_247 rfl (Nat.le_of_ble_eq_true rfl) ?_
  refine l_al2 (pc := 250) hC dL_law_250 ?_
  refine l_arg (pc := 251) (j := 1) (n := 256) hC hk hi (by decide) (by decide) rfl dL_law_251 dL_law_252 dL_law_253 dL_law_254 dL_law_255 ?_
  refine l_arg (pc := 256) (j := 2) (n := 261) hC hk hi (by decide) (by decide) rfl dL_law_256 dL_law_257 dL_law_258 dL_law_259 dL_law_260 ?_
  refine l_arg (pc := 261) (j := 3) (n := 266) hC hk hi (by decide) (by decide) rfl dL_law_261 dL_law_262 dL_law_263 dL_law_264 dL_law_265 ?_
  refine l_call2 (pc := 266) (As := [.int (xs (k + 1)), .int (xs (k + 2)), .int (xs (k + 3))]) (rest := [.int r]) hC (kX9_lay l hC.2.2.2.2.2.2.1 hg) cw_L_22 (by decide) rfl dL_law_266 rfl (Nat.le_of_ble_eq_true rfl) ?_
  exact l_cmp (pc := 269) hC dL_law_269 (by decide) (kk c1 m1 hR1)
theorem lc_2 {p : Program} {l : Launch} {e : Env} {s : State} {m : MethodId} {below : List Frame} {meth : Method} {c : Code} {b L : Nat} {xs : Nat → Int32} {G1 G2 : xG} {i : Int32} {σ1 σ2 : xS} {k : Nat} (hC : lC p s m meth c b L xs G1 G2) (hk : k + 6 ≤ L) (hi : i = nI k) (hR : Rel σ1 σ2) (kk : ∀ a b1, Rel a b1 → lw p l e s m below meth c b G1 G2 i 1468 [] a b1) : lw p l e s m below meth c b G1 G2 i 274 [] σ1 σ2 := by
  obtain ⟨r, c1, m1, hf, hg, hR1⟩ := op_ofCell (xs (k + 1)) (xs (k + 2)) σ1 σ2 hR
  refine l_al1 (pc := 274) hC dL_law_274 ?_
  refine l_arg (pc := 275) (j := 1) (n := 280) hC hk hi (by decide) (by decide) rfl dL_law_275 dL_law_276 dL_law_277 dL_law_278 dL_law_279 ?_
  refine l_arg (pc := 280) (j := 2) (n := 285) hC hk hi (by decide) (by decide) rfl dL_law_280 dL_law_281 dL_law_282 dL_law_283 dL_law_284 ?_
  refine l_call1 (pc := 285) (As := [.int (xs (k + 1)), .int (xs (k + 2))]) (rest := []) hC (kX8_ofCell l hC.2.2.2.2.2.1 hf) cw_L_23 (by decide) rfl dL_law_285 rfl (Nat.le_of_ble_eq_true rfl) ?_
  refine l_al2 (pc := 288) hC dL_law_288 ?_
  refine l_arg (pc := 289) (j := 1) (n := 294) hC hk hi (by decide) (by decide) rfl dL_law_289 dL_law_290 dL_law_291 dL_law_292 dL_law_293 ?_
  refine l_arg (pc := 294) (j := 2) (n := 299) hC hk hi (by decide) (by decide) rfl dL_law_294 dL_law_295 dL_law_296 dL_law_297 dL_law_298 ?_
  refine l_call2 (pc := 299) (As := [.int (xs (k + 1)), .int (xs (k + 2))]) (rest := [.int r]) hC (kX9_ofCell l hC.2.2.2.2.2.2.1 hg) cw_L_27 (by decide) rfl dL_law_299 rfl (Nat.le_of_ble_eq_true rfl) ?_
  exact l_cmp (pc := 302) hC dL_law_302 (by decide) (kk c1 m1 hR1)
theorem lc_3 {p : Program} {l : Launch} {e : Env} {s : State} {m : MethodId} {below : List Frame} {meth : Method} {c : Code} {b L : Nat} {xs : Nat → Int32} {G1 G2 : xG} {i : Int32} {σ1 σ2 : xS} {k : Nat} (hC : lC p s m meth c b L xs G1 G2) (hk : k + 6 ≤ L) (hi : i = nI k) (hR : Rel σ1 σ2) (kk : ∀ a b1, Rel a b1 → lw p l e s m below meth c b G1 G2 i 1468 [] a b1) : lw p l e s m below meth c b G1 G2 i 307 [] σ1 σ2 := by
  obtain ⟨r, c1, m1, hf, hg, hR1⟩ := op_set (xs (k + 1)) (xs (k + 2)) σ1 σ2 hR
  refine l_al1 (pc := 307) hC dL_law_307 ?_
  refine l_arg (pc := 308) (j := 1) (n := 313) hC hk hi (by decide) (by decide) rfl dL_law_308 dL_law_309 dL_law_310 dL_law_311 dL_law_312 ?_
  refine l_arg (pc := 313) (j := 2) (n := 318) hC hk hi (by decide) (by decide) rfl dL_law_313 dL_law_314 dL_law_315 dL_law_316 dL_law_317 ?_
  refine l_call1 (pc := 318) (As := [.int (xs (k + 1)), .int (xs (k + 2))]) (rest := []) hC (kX8_set l hC.2.2.2.2.2.1 hf) cw_L_28 (by decide) rfl dL_law_318 rfl (Nat.le_of_ble_eq_true rfl) ?_
  refine l_al2 (pc := 321) hC dL_law_321 ?_
  refine l_arg (pc := 322) (j := 1) (n := 327) hC hk hi (by decide) (by decide) rfl dL_law_322 dL_law_323 dL_law_324 dL_law_325 dL_law_326 ?_
  refine l_arg (pc := 327) (j := 2) (n := 332) hC hk hi (by decide) (by decide) rfl dL_law_327 dL_law_328 dL_law_329 dL_law_330 dL_law_331 ?_
  refine l_call2 (pc := 332) (As := [.int (xs (k + 1)), .int (xs (k + 2))]) (rest := [.int r]) hC (kX9_set l hC.2.2.2.2.2.2.1 hg) cw_L_31 (by decide) rfl dL_law_332 rfl (Nat.le_of_ble_eq_true rfl) ?_
  exact l_cmp (pc := 335) hC dL_law_335 (by decide) (kk c1 m1 hR1)
theorem lc_4 {p : Program} {l : Launch} {e : Env} {s : State} {m : MethodId} {below : List Frame} {meth : Method} {c : Code} {b L : Nat} {xs : Nat → Int32} {G1 G2 : xG} {i : Int32} {σ1 σ2 : xS} {k : Nat} (hC : lC p s m meth c b L xs G1 G2) (hk : k + 6 ≤ L) (hi : i = nI k) (hR : Rel σ1 σ2) (kk : ∀ a b1, Rel a b1 → lw p l e s m below meth c b G1 G2 i 1468 [] a b1) : lw p l e s m below meth c b G1 G2 i 340 [] σ1 σ2 := by
  obtain ⟨r, c1, m1, hf, hg, hR1⟩ := op_ship (xs (k + 1)) (xs (k + 2)) (xs (k + 3)) σ1 σ2 hR
  refine l_al1 (pc := 340) hC dL_law_340 ?_
  refine l_arg (pc := 341) (j := 1) (n := 346) hC hk hi (by decide) (by decide) rfl dL_law_341 dL_law_342 dL_law_343 dL_law_344 dL_law_345 ?_
  refine l_arg (pc := 346) (j := 2) (n := 351) hC hk hi (by decide) (by decide) rfl dL_law_346 dL_law_347 dL_law_348 dL_law_349 dL_law_350 ?_
  refine l_arg (pc := 351) (j := 3) (n := 356) hC hk hi (by decide) (by decide) rfl dL_law_351 dL_law_352 dL_law_353 dL_law_354 dL_law_355 ?_
  refine l_call1 (pc := 356) (As := [.int (xs (k + 1)), .int (xs (k + 2)), .int (xs (k + 3))]) (rest := []) hC (kX8_ship l hC.2.2.2.2.2.1 hf) cw_L_32 (by decide) rfl dL_law_356 rfl (Nat.le_of_ble_eq_true rfl) ?_
  refine l_al2 (pc := 359) hC dL_law_359 ?_
  refine l_arg (pc := 360) (j := 1) (n := 365) hC hk hi (by decide) (by decide) rfl dL_law_360 dL_law_361 dL_law_362 dL_law_363 dL_law_364 ?_
  refine l_arg (pc := 365) (j := 2) (n := 370) hC hk hi (by decide) (by decide) rfl dL_law_365 dL_law_366 dL_law_367 dL_law_368 dL_law_369 ?_
  refine l_arg (pc := 370) (j := 3) (n := 375) hC hk hi (by decide) (by decide) rfl dL_law_370 dL_law_371 dL_law_372 dL_law_373 dL_law_374 ?_
  refine l_call2 (pc := 375) (As := [.int (xs (k + 1)), .int (xs (k + 2)), .int (xs (k + 3))]) (rest := [.int r]) hC (kX9_ship l hC.2.2.2.2.2.2.1 hg) cw_L_35 (by decide) rfl dL_law_375 rfl (Nat.le_of_ble_eq_true rfl) ?_
  exact l_cmp (pc := 378) hC dL_law_378 (by decide) (kk c1 m1 hR1)
theorem lc_5 {p : Program} {l : Launch} {e : Env} {s : State} {m : MethodId} {below : List Frame} {meth : Method} {c : Code} {b L : Nat} {xs : Nat → Int32} {G1 G2 : xG} {i : Int32} {σ1 σ2 : xS} {k : Nat} (hC : lC p s m meth c b L xs G1 G2) (hk : k + 6 ≤ L) (hi : i = nI k) (hR : Rel σ1 σ2) (kk : ∀ a b1, Rel a b1 → lw p l e s m below meth c b G1 G2 i 1468 [] a b1) : lw p l e s m below meth c b G1 G2 i 383 [] σ1 σ2 := by
  obtain ⟨r, c1, m1, hf, hg, hR1⟩ := op_ofShip (xs (k + 1)) (xs (k + 2)) σ1 σ2 hR
  refine l_al1 (pc := 383) hC dL_law_383 ?_
  refine l_arg (pc := 384) (j := 1) (n := 389) hC hk hi (by decide) (by decide) rfl dL_law_384 dL_law_385 dL_law_386 dL_law_387 dL_law_388 ?_
  refine l_arg (pc := 389) (j := 2) (n := 394) hC hk hi (by decide) (by decide) rfl dL_law_389 dL_law_390 dL_law_391 dL_law_392 dL_law_393 ?_
  refine l_call1 (pc := 394) (As := [.int (xs (k + 1)), .int (xs (k + 2))]) (rest := []) hC (kX8_ofShip l hC.2.2.2.2.2.1 hf) cw_L_36 (by decide) rfl dL_law_394 rfl (Nat.le_of_ble_eq_true rfl) ?_
  refine l_al2 (pc := 397) hC dL_law_397 ?_
  refine l_arg (pc := 398) (j := 1) (n := 403) hC hk hi (by decide) (by decide) rfl dL_law_398 dL_law_399 dL_law_400 dL_law_401 dL_law_402 ?_
  refine l_arg (pc := 403) (j := 2) (n := 408) hC hk hi (by decide) (by decide) rfl dL_law_403 dL_law_404 dL_law_405 dL_law_406 dL_law_407 ?_
  refine l_call2 (pc := 408) (As := [.int (xs (k + 1)), .int (xs (k + 2))]) (rest := [.int r]) hC (kX9_ofShip l hC.2.2.2.2.2.2.1 hg) cw_L_39 (by decide) rfl dL_law_408 rfl (Nat.le_of_ble_eq_true rfl) ?_
  exact l_cmp (pc := 411) hC dL_law_411 (by decide) (kk c1 m1 hR1)
theorem lc_6 {p : Program} {l : Launch} {e : Env} {s : State} {m : MethodId} {below : List Frame} {meth : Method} {c : Code} {b L : Nat} {xs : Nat → Int32} {G1 G2 : xG} {i : Int32} {σ1 σ2 : xS} {k : Nat} (hC : lC p s m meth c b L xs G1 G2) (hk : k + 6 ≤ L) (hi : i = nI k) (hR : Rel σ1 σ2) (kk : ∀ a b1, Rel a b1 → lw p l e s m below meth c b G1 G2 i 1468 [] a b1) : lw p l e s m below meth c b G1 G2 i 416 [] σ1 σ2 := by
  obtain ⟨r, c1, m1, hf, hg, hR1⟩ := op_change (xs (k + 1)) (xs (k + 2)) (xs (k + 3)) σ1 σ2 hR
  refine l_al1 (pc := 416) hC dL_law_416 ?_
  refine l_arg (pc := 417) (j := 1) (n := 422) hC hk hi (by decide) (by decide) rfl dL_law_417 dL_law_418 dL_law_419 dL_law_420 dL_law_421 ?_
  refine l_arg (pc := 422) (j := 2) (n := 427) hC hk hi (by decide) (by decide) rfl dL_law_422 dL_law_423 dL_law_424 dL_law_425 dL_law_426 ?_
  refine l_arg (pc := 427) (j := 3) (n := 432) hC hk hi (by decide) (by decide) rfl dL_law_427 dL_law_428 dL_law_429 dL_law_430 dL_law_431 ?_
  refine l_call1 (pc := 432) (As := [.int (xs (k + 1)), .int (xs (k + 2)), .int (xs (k + 3))]) (rest := []) hC (kX8_change l hC.2.2.2.2.2.1 hf) cw_L_40 (by decide) rfl dL_law_432 rfl (Nat.le_of_ble_eq_true rfl) ?_
  refine l_al2 (pc := 435) hC dL_law_435 ?_
  refine l_arg (pc := 436) (j := 1) (n := 441) hC hk hi (by decide) (by decide) rfl dL_law_436 dL_law_437 dL_law_438 dL_law_439 dL_law_440 ?_
  refine l_arg (pc := 441) (j := 2) (n := 446) hC hk hi (by decide) (by decide) rfl dL_law_441 dL_law_442 dL_law_443 dL_law_444 dL_law_445 ?_
  refine l_arg (pc := 446) (j := 3) (n := 451) hC hk hi (by decide) (by decide) rfl dL_law_446 dL_law_447 dL_law_448 dL_law_449 dL_law_450 ?_
  refine l_call2 (pc := 451) (As := [.int (xs (k + 1)), .int (xs (k + 2)), .int (xs (k + 3))]) (rest := [.int r]) hC (kX9_change l hC.2.2.2.2.2.2.1 hg) cw_L_43 (by decide) rfl dL_law_451 rfl (Nat.le_of_ble_eq_true rfl) ?_
  exact l_cmp (pc := 454) hC dL_law_454 (by decide) (kk c1 m1 hR1)
theorem lc_7 {p : Program} {l : Launch} {e : Env} {s : State} {m : MethodId} {below : List Frame} {meth : Method} {c : Code} {b L : Nat} {xs : Nat → Int32} {G1 G2 : xG} {i : Int32} {σ1 σ2 : xS} {k : Nat} (hC : lC p s m meth c b L xs G1 G2) (hk : k + 6 ≤ L) (hi : i = nI k) (hR : Rel σ1 σ2) (kk : ∀ a b1, Rel a b1 → lw p l e s m below meth c b G1 G2 i 1468 [] a b1) : lw p l e s m below meth c b G1 G2 i 459 [] σ1 σ2 := by
  obtain ⟨r, c1, m1, hf, hg, hR1⟩ := op_become (xs (k + 1)) (xs (k + 2)) σ1 σ2 hR
  refine l_al1 (pc := 459) hC dL_law_459 ?_
  refine l_arg (pc := 460) (j := 1) (n := 465) hC hk hi (by decide) (by decide) rfl dL_law_460 dL_law_461 dL_law_462 dL_law_463 dL_law_464 ?_
  refine l_arg (pc := 465) (j := 2) (n := 470) hC hk hi (by decide) (by decide) rfl dL_law_465 dL_law_466 dL_law_467 dL_law_468 dL_law_469 ?_
  refine l_call1 (pc := 470) (As := [.int (xs (k + 1)), .int (xs (k + 2))]) (rest := []) hC (kX8_become l hC.2.2.2.2.2.1 hf) cw_L_44 (by decide) rfl dL_law_470 rfl (Nat.le_of_ble_eq_true rfl) ?_
  refine l_al2 (pc := 473) hC dL_law_473 ?_
  refine l_arg (pc := 474) (j := 1) (n := 479) hC hk hi (by decide) (by decide) rfl dL_law_474 dL_law_475 dL_law_476 dL_law_477 dL_law_478 ?_
  refine l_arg (pc := 479) (j := 2) (n := 484) hC hk hi (by decide) (by decide) rfl dL_law_479 dL_law_480 dL_law_481 dL_law_482 dL_law_483 ?_
  refine l_call2 (pc := 484) (As := [.int (xs (k + 1)), .int (xs (k + 2))]) (rest := [.int r]) hC (kX9_become l hC.2.2.2.2.2.2.1 hg) cw_L_47 (by decide) rfl dL_law_484 rfl (Nat.le_of_ble_eq_true rfl) ?_
  exact l_cmp (pc := 487) hC dL_law_487 (by decide) (kk c1 m1 hR1)
theorem lc_8 {p : Program} {l : Launch} {e : Env} {s : State} {m : MethodId} {below : List Frame} {meth : Method} {c : Code} {b L : Nat} {xs : Nat → Int32} {G1 G2 : xG} {i : Int32} {σ1 σ2 : xS} {k : Nat} (hC : lC p s m meth c b L xs G1 G2) (hk : k + 6 ≤ L) (hi : i = nI k) (hR : Rel σ1 σ2) (kk : ∀ a b1, Rel a b1 → lw p l e s m below meth c b G1 G2 i 1468 [] a b1) : lw p l e s m below meth c b G1 G2 i 492 [] σ1 σ2 := by
  obtain ⟨r, c1, m1, hf, hg, hR1⟩ := op_as (xs (k + 1)) (xs (k + 2)) σ1 σ2 hR
  refine l_al1 (pc := 492) hC dL_law_492 ?_
  refine l_arg (pc := 493) (j := 1) (n := 498) hC hk hi (by decide) (by decide) rfl dL_law_493 dL_law_494 dL_law_495 dL_law_496 dL_law_497 ?_
  refine l_arg (pc := 498) (j := 2) (n := 503) hC hk hi (by decide) (by decide) rfl dL_law_498 dL_law_499 dL_law_500 dL_law_501 dL_law_502 ?_
  refine l_call1 (pc := 503) (As := [.int (xs (k + 1)), .int (xs (k + 2))]) (rest := []) hC (kX8_as l hC.2.2.2.2.2.1 hf) cw_L_48 (by decide) rfl dL_law_503 rfl (Nat.le_of_ble_eq_true rfl) ?_
  refine l_al2 (pc := 506) hC dL_law_506 ?_
  refine l_arg (pc := 507) (j := 1) (n := 512) hC hk hi (by decide) (by decide) rfl dL_law_507 dL_law_508 dL_law_509 dL_law_510 dL_law_511 ?_
  refine l_arg (pc := 512) (j := 2) (n := 517) hC hk hi (by decide) (by decide) rfl dL_law_512 dL_law_513 dL_law_514 dL_law_515 dL_law_516 ?_
  refine l_call2 (pc := 517) (As := [.int (xs (k + 1)), .int (xs (k + 2))]) (rest := [.int r]) hC (kX9_as l hC.2.2.2.2.2.2.1 hg) cw_L_51 (by decide) rfl dL_law_517 rfl (Nat.le_of_ble_eq_true rfl) ?_
  exact l_cmp (pc := 520) hC dL_law_520 (by decide) (kk c1 m1 hR1)
theorem lc_9 {p : Program} {l : Launch} {e : Env} {s : State} {m : MethodId} {below : List Frame} {meth : Method} {c : Code} {b L : Nat} {xs : Nat → Int32} {G1 G2 : xG} {i : Int32} {σ1 σ2 : xS} {k : Nat} (hC : lC p s m meth c b L xs G1 G2) (hk : k + 6 ≤ L) (hi : i = nI k) (hR : Rel σ1 σ2) (kk : ∀ a b1, Rel a b1 → lw p l e s m below meth c b G1 G2 i 1468 [] a b1) : lw p l e s m below meth c b G1 G2 i 525 [] σ1 σ2 := by
  obtain ⟨r, c1, m1, hf, hg, hR1⟩ := op_feed (((xs (k + 1)).toInt64 <<< ((32 : Int32).toInt64 &&& 63)) ||| ((xs (k + 2)).toInt64 &&& 4294967295)) (xs (k + 3)) σ1 σ2 hR
  refine l_al1 (pc := 525) hC dL_law_525 ?_
  refine l_arg (pc := 526) (j := 1) (n := 531) hC hk hi (by decide) (by decide) rfl dL_law_526 dL_law_527 dL_law_528 dL_law_529 dL_law_530 ?_
  refine l_i2l (pc := 531) hC dL_law_531 ?_
  refine l_bipush (pc := 532) (v := 32) hC dL_law_532 (by decide) ?_
  refine l_lshl (pc := 534) hC dL_law_534 ?_
  refine l_arg (pc := 535) (j := 2) (n := 540) hC hk hi (by decide) (by decide) rfl dL_law_535 dL_law_536 dL_law_537 dL_law_538 dL_law_539 ?_
  refine l_i2l (pc := 540) hC dL_law_540 ?_
  refine l_ldc2 (pc := 541) (v := 4294967295) hC qn_long dL_law_541 ?_
  refine l_land (pc := 544) hC dL_law_544 ?_
  refine l_lor (pc := 545) hC dL_law_545 ?_
  refine l_arg (pc := 546) (j := 3) (n := 551) hC hk hi (by decide) (by decide) rfl dL_law_546 dL_law_547 dL_law_548 dL_law_549 dL_law_550 ?_
  refine l_call1 (pc := 551) (As := [.long (((xs (k + 1)).toInt64 <<< ((32 : Int32).toInt64 &&& 63)) ||| ((xs (k + 2)).toInt64 &&& 4294967295)), .int (xs (k + 3))]) (rest := []) hC (kX8_feed l hC.2.2.2.2.2.1 hf) cw_L_54 (by decide) rfl dL_law_551 rfl (Nat.le_of_ble_eq_true rfl) ?_
  refine l_al2 (pc := 554) hC dL_law_554 ?_
  refine l_arg (pc := 555) (j := 1) (n := 560) hC hk hi (by decide) (by decide) rfl dL_law_555 dL_law_556 dL_law_557 dL_law_558 dL_law_559 ?_
  refine l_i2l (pc := 560) hC dL_law_560 ?_
  refine l_bipush (pc := 561) (v := 32) hC dL_law_561 (by decide) ?_
  refine l_lshl (pc := 563) hC dL_law_563 ?_
  refine l_arg (pc := 564) (j := 2) (n := 569) hC hk hi (by decide) (by decide) rfl dL_law_564 dL_law_565 dL_law_566 dL_law_567 dL_law_568 ?_
  refine l_i2l (pc := 569) hC dL_law_569 ?_
  refine l_ldc2 (pc := 570) (v := 4294967295) hC qn_long dL_law_570 ?_
  refine l_land (pc := 573) hC dL_law_573 ?_
  refine l_lor (pc := 574) hC dL_law_574 ?_
  refine l_arg (pc := 575) (j := 3) (n := 580) hC hk hi (by decide) (by decide) rfl dL_law_575 dL_law_576 dL_law_577 dL_law_578 dL_law_579 ?_
  refine l_call2 (pc := 580) (As := [.long (((xs (k + 1)).toInt64 <<< ((32 : Int32).toInt64 &&& 63)) ||| ((xs (k + 2)).toInt64 &&& 4294967295)), .int (xs (k + 3))]) (rest := [.int r]) hC (kX9_feed l hC.2.2.2.2.2.2.1 hg) cw_L_58 (by decide) rfl dL_law_580 rfl (Nat.le_of_ble_eq_true rfl) ?_
  exact l_cmp (pc := 583) hC dL_law_583 (by decide) (kk c1 m1 hR1)
theorem lc_10 {p : Program} {l : Launch} {e : Env} {s : State} {m : MethodId} {below : List Frame} {meth : Method} {c : Code} {b L : Nat} {xs : Nat → Int32} {G1 G2 : xG} {i : Int32} {σ1 σ2 : xS} {k : Nat} (hC : lC p s m meth c b L xs G1 G2) (hk : k + 6 ≤ L) (hi : i = nI k) (hR : Rel σ1 σ2) (kk : ∀ a b1, Rel a b1 → lw p l e s m below meth c b G1 G2 i 1468 [] a b1) : lw p l e s m below meth c b G1 G2 i 588 [] σ1 σ2 := by
  obtain ⟨r, c1, m1, hf, hg, hR1⟩ := op_text (xs (k + 1)) σ1 σ2 hR
  refine l_al1 (pc := 588) hC dL_law_588 ?_
  refine l_arg (pc := 589) (j := 1) (n := 594) hC hk hi (by decide) (by decide) rfl dL_law_589 dL_law_590 dL_law_591 dL_law_592 dL_law_593 ?_
  refine l_call1 (pc := 594) (As := [.int (xs (k + 1))]) (rest := []) hC (kX8_text l hC.2.2.2.2.2.1 hf) cw_L_59 (by decide) rfl dL_law_594 rfl (Nat.le_of_ble_eq_true rfl) ?_
  refine l_al2 (pc := 597) hC dL_law_597 ?_
  refine l_arg (pc := 598) (j := 1) (n := 603) hC hk hi (by decide) (by decide) rfl dL_law_598 dL_law_599 dL_law_600 dL_law_601 dL_law_602 ?_
  refine l_call2 (pc := 603) (As := [.int (xs (k + 1))]) (rest := [.int r]) hC (kX9_text l hC.2.2.2.2.2.2.1 hg) cw_L_62 (by decide) rfl dL_law_603 rfl (Nat.le_of_ble_eq_true rfl) ?_
  exact l_cmp (pc := 606) hC dL_law_606 (by decide) (kk c1 m1 hR1)
theorem lc_11 {p : Program} {l : Launch} {e : Env} {s : State} {m : MethodId} {below : List Frame} {meth : Method} {c : Code} {b L : Nat} {xs : Nat → Int32} {G1 G2 : xG} {i : Int32} {σ1 σ2 : xS} {k : Nat} (hC : lC p s m meth c b L xs G1 G2) (hk : k + 6 ≤ L) (hi : i = nI k) (hR : Rel σ1 σ2) (kk : ∀ a b1, Rel a b1 → lw p l e s m below meth c b G1 G2 i 1468 [] a b1) : lw p l e s m below meth c b G1 G2 i 611 [] σ1 σ2 := by
  obtain ⟨r, c1, m1, hf, hg, hR1⟩ := op_law (xs (k + 1)) (xs (k + 2)) (xs (k + 3)) (xs (k + 4)) σ1 σ2 hR
  refine l_al1 (pc := 611) hC dL_law_611 ?_
  refine l_arg (pc := 612) (j := 1) (n := 617) hC hk hi (by decide) (by decide) rfl dL_law_612 dL_law_613 dL_law_614 dL_law_615 dL_law_616 ?_
  refine l_arg (pc := 617) (j := 2) (n := 622) hC hk hi (by decide) (by decide) rfl dL_law_617 dL_law_618 dL_law_619 dL_law_620 dL_law_621 ?_
  refine l_arg (pc := 622) (j := 3) (n := 627) hC hk hi (by decide) (by decide) rfl dL_law_622 dL_law_623 dL_law_624 dL_law_625 dL_law_626 ?_
  refine l_arg (pc := 627) (j := 4) (n := 632) hC hk hi (by decide) (by decide) rfl dL_law_627 dL_law_628 dL_law_629 dL_law_630 dL_law_631 ?_
  refine l_call1 (pc := 632) (As := [.int (xs (k + 1)), .int (xs (k + 2)), .int (xs (k + 3)), .int (xs (k + 4))]) (rest := []) hC (kX8_law l hC.2.2.2.2.2.1 hf) cw_L_63 (by decide) rfl dL_law_632 rfl (Nat.le_of_ble_eq_true rfl) ?_
  refine l_al2 (pc := 635) hC dL_law_635 ?_
  refine l_arg (pc := 636) (j := 1) (n := 641) hC hk hi (by decide) (by decide) rfl dL_law_636 dL_law_637 dL_law_638 dL_law_639 dL_law_640 ?_
  refine l_arg (pc := 641) (j := 2) (n := 646) hC hk hi (by decide) (by decide) rfl dL_law_641 dL_law_642 dL_law_643 dL_law_644 dL_law_645 ?_
  refine l_arg (pc := 646) (j := 3) (n := 651) hC hk hi (by decide) (by decide) rfl dL_law_646 dL_law_647 dL_law_648 dL_law_649 dL_law_650 ?_
  refine l_arg (pc := 651) (j := 4) (n := 656) hC hk hi (by decide) (by decide) rfl dL_law_651 dL_law_652 dL_law_653 dL_law_654 dL_law_655 ?_
  refine l_call2 (pc := 656) (As := [.int (xs (k + 1)), .int (xs (k + 2)), .int (xs (k + 3)), .int (xs (k + 4))]) (rest := [.int r]) hC (kX9_law l hC.2.2.2.2.2.2.1 hg) cw_L_67 (by decide) rfl dL_law_656 rfl (Nat.le_of_ble_eq_true rfl) ?_
  exact l_cmp (pc := 659) hC dL_law_659 (by decide) (kk c1 m1 hR1)
theorem lc_12 {p : Program} {l : Launch} {e : Env} {s : State} {m : MethodId} {below : List Frame} {meth : Method} {c : Code} {b L : Nat} {xs : Nat → Int32} {G1 G2 : xG} {i : Int32} {σ1 σ2 : xS} {k : Nat} (hC : lC p s m meth c b L xs G1 G2) (hk : k + 6 ≤ L) (hi : i = nI k) (hR : Rel σ1 σ2) (kk : ∀ a b1, Rel a b1 → lw p l e s m below meth c b G1 G2 i 1468 [] a b1) : lw p l e s m below meth c b G1 G2 i 664 [] σ1 σ2 := by
  obtain ⟨r, c1, m1, hf, hg, hR1⟩ := op_hours (xs (k + 1)) σ1 σ2 hR
  refine l_al1 (pc := 664) hC dL_law_664 ?_
  refine l_arg (pc := 665) (j := 1) (n := 670) hC hk hi (by decide) (by decide) rfl dL_law_665 dL_law_666 dL_law_667 dL_law_668 dL_law_669 ?_
  refine l_call1 (pc := 670) (As := [.int (xs (k + 1))]) (rest := []) hC (kX8_hours l hC.2.2.2.2.2.1 hf) cw_L_68 (by decide) rfl dL_law_670 rfl (Nat.le_of_ble_eq_true rfl) ?_
  refine l_al2 (pc := 673) hC dL_law_673 ?_
  refine l_arg (pc := 674) (j := 1) (n := 679) hC hk hi (by decide) (by decide) rfl dL_law_674 dL_law_675 dL_law_676 dL_law_677 dL_law_678 ?_
  refine l_call2 (pc := 679) (As := [.int (xs (k + 1))]) (rest := [.int r]) hC (kX9_hours l hC.2.2.2.2.2.2.1 hg) cw_L_71 (by decide) rfl dL_law_679 rfl (Nat.le_of_ble_eq_true rfl) ?_
  exact l_cmp (pc := 682) hC dL_law_682 (by decide) (kk c1 m1 hR1)
theorem lc_13 {p : Program} {l : Launch} {e : Env} {s : State} {m : MethodId} {below : List Frame} {meth : Method} {c : Code} {b L : Nat} {xs : Nat → Int32} {G1 G2 : xG} {i : Int32} {σ1 σ2 : xS} {k : Nat} (hC : lC p s m meth c b L xs G1 G2) (hk : k + 6 ≤ L) (hi : i = nI k) (hR : Rel σ1 σ2) (kk : ∀ a b1, Rel a b1 → lw p l e s m below meth c b G1 G2 i 1468 [] a b1) : lw p l e s m below meth c b G1 G2 i 687 [] σ1 σ2 := by
  obtain ⟨r, c1, m1, hf, hg, hR1⟩ := op_loose (xs (k + 1)) σ1 σ2 hR
  refine l_al1 (pc := 687) hC dL_law_687 ?_
  refine l_arg (pc := 688) (j := 1) (n := 693) hC hk hi (by decide) (by decide) rfl dL_law_688 dL_law_689 dL_law_690 dL_law_691 dL_law_692 ?_
  refine l_call1 (pc := 693) (As := [.int (xs (k + 1))]) (rest := []) hC (kX8_loose l hC.2.2.2.2.2.1 hf) cw_L_72 (by decide) rfl dL_law_693 rfl (Nat.le_of_ble_eq_true rfl) ?_
  refine l_al2 (pc := 696) hC dL_law_696 ?_
  refine l_arg (pc := 697) (j := 1) (n := 702) hC hk hi (by decide) (by decide) rfl dL_law_697 dL_law_698 dL_law_699 dL_law_700 dL_law_701 ?_
  refine l_call2 (pc := 702) (As := [.int (xs (k + 1))]) (rest := [.int r]) hC (kX9_loose l hC.2.2.2.2.2.2.1 hg) cw_L_75 (by decide) rfl dL_law_702 rfl (Nat.le_of_ble_eq_true rfl) ?_
  exact l_cmp (pc := 705) hC dL_law_705 (by decide) (kk c1 m1 hR1)
theorem lc_14 {p : Program} {l : Launch} {e : Env} {s : State} {m : MethodId} {below : List Frame} {meth : Method} {c : Code} {b L : Nat} {xs : Nat → Int32} {G1 G2 : xG} {i : Int32} {σ1 σ2 : xS} {k : Nat} (hC : lC p s m meth c b L xs G1 G2) (hk : k + 6 ≤ L) (hi : i = nI k) (hR : Rel σ1 σ2) (kk : ∀ a b1, Rel a b1 → lw p l e s m below meth c b G1 G2 i 1468 [] a b1) : lw p l e s m below meth c b G1 G2 i 710 [] σ1 σ2 := by
  obtain ⟨r, c1, m1, hf, hg, hR1⟩ := op_depth (xs (k + 1)) (xs (k + 2)) σ1 σ2 hR
  refine l_al1 (pc := 710) hC dL_law_710 ?_
  refine l_arg (pc := 711) (j := 1) (n := 716) hC hk hi (by decide) (by decide) rfl dL_law_711 dL_law_712 dL_law_713 dL_law_714 dL_law_715 ?_
  refine l_arg (pc := 716) (j := 2) (n := 721) hC hk hi (by decide) (by decide) rfl dL_law_716 dL_law_717 dL_law_718 dL_law_719 dL_law_720 ?_
  refine l_call1 (pc := 721) (As := [.int (xs (k + 1)), .int (xs (k + 2))]) (rest := []) hC (kX8_depth l hC.2.2.2.2.2.1 hf) cw_L_76 (by decide) rfl dL_law_721 rfl (Nat.le_of_ble_eq_true rfl) ?_
  refine l_al2 (pc := 724) hC dL_law_724 ?_
  refine l_arg (pc := 725) (j := 1) (n := 730) hC hk hi (by decide) (by decide) rfl dL_law_725 dL_law_726 dL_law_727 dL_law_728 dL_law_729 ?_
  refine l_arg (pc := 730) (j := 2) (n := 735) hC hk hi (by decide) (by decide) rfl dL_law_730 dL_law_731 dL_law_732 dL_law_733 dL_law_734 ?_
  refine l_call2 (pc := 735) (As := [.int (xs (k + 1)), .int (xs (k + 2))]) (rest := [.int r]) hC (kX9_depth l hC.2.2.2.2.2.2.1 hg) cw_L_79 (by decide) rfl dL_law_735 rfl (Nat.le_of_ble_eq_true rfl) ?_
  exact l_cmp (pc := 738) hC dL_law_738 (by decide) (kk c1 m1 hR1)
theorem lc_15 {p : Program} {l : Launch} {e : Env} {s : State} {m : MethodId} {below : List Frame} {meth : Method} {c : Code} {b L : Nat} {xs : Nat → Int32} {G1 G2 : xG} {i : Int32} {σ1 σ2 : xS} {k : Nat} (hC : lC p s m meth c b L xs G1 G2) (hk : k + 6 ≤ L) (hi : i = nI k) (hR : Rel σ1 σ2) (kk : ∀ a b1, Rel a b1 → lw p l e s m below meth c b G1 G2 i 1468 [] a b1) : lw p l e s m below meth c b G1 G2 i 743 [] σ1 σ2 := by
  obtain ⟨r, c1, m1, hf, hg, hR1⟩ := op_then (xs (k + 1)) (xs (k + 2)) (xs (k + 3)) σ1 σ2 hR
  refine l_al1 (pc := 743) hC dL_law_743 ?_
  refine l_arg (pc := 744) (j := 1) (n := 749) hC hk hi (by decide) (by decide) rfl dL_law_744 dL_law_745 dL_law_746 dL_law_747 dL_law_748 ?_
  refine l_arg (pc := 749) (j := 2) (n := 754) hC hk hi (by decide) (by decide) rfl dL_law_749 dL_law_750 dL_law_751 dL_law_752 dL_law_753 ?_
  refine l_arg (pc := 754) (j := 3) (n := 759) hC hk hi (by decide) (by decide) rfl dL_law_754 dL_law_755 dL_law_756 dL_law_757 dL_law_758 ?_
  refine l_call1 (pc := 759) (As := [.int (xs (k + 1)), .int (xs (k + 2)), .int (xs (k + 3))]) (rest := []) hC (kX8_then l hC.2.2.2.2.2.1 hf) cw_L_80 (by decide) rfl dL_law_759 rfl (Nat.le_of_ble_eq_true rfl) ?_
  refine l_al2 (pc := 762) hC dL_law_762 ?_
  refine l_arg (pc := 763) (j := 1) (n := 768) hC hk hi (by decide) (by decide) rfl dL_law_763 dL_law_764 dL_law_765 dL_law_766 dL_law_767 ?_
  refine l_arg (pc := 768) (j := 2) (n := 773) hC hk hi (by decide) (by decide) rfl dL_law_768 dL_law_769 dL_law_770 dL_law_771 dL_law_772 ?_
  refine l_arg (pc := 773) (j := 3) (n := 778) hC hk hi (by decide) (by decide) rfl dL_law_773 dL_law_774 dL_law_775 dL_law_776 dL_law_777 ?_
  refine l_call2 (pc := 778) (As := [.int (xs (k + 1)), .int (xs (k + 2)), .int (xs (k + 3))]) (rest := [.int r]) hC (kX9_then l hC.2.2.2.2.2.2.1 hg) cw_L_83 (by decide) rfl dL_law_778 rfl (Nat.le_of_ble_eq_true rfl) ?_
  exact l_cmp (pc := 781) hC dL_law_781 (by decide) (kk c1 m1 hR1)
theorem lc_16 {p : Program} {l : Launch} {e : Env} {s : State} {m : MethodId} {below : List Frame} {meth : Method} {c : Code} {b L : Nat} {xs : Nat → Int32} {G1 G2 : xG} {i : Int32} {σ1 σ2 : xS} {k : Nat} (hC : lC p s m meth c b L xs G1 G2) (hk : k + 6 ≤ L) (hi : i = nI k) (hR : Rel σ1 σ2) (kk : ∀ a b1, Rel a b1 → lw p l e s m below meth c b G1 G2 i 1468 [] a b1) : lw p l e s m below meth c b G1 G2 i 786 [] σ1 σ2 := by
  obtain ⟨r, c1, m1, hf, hg, hR1⟩ := op_lost (xs (k + 1)) σ1 σ2 hR
  refine l_al1 (pc := 786) hC dL_law_786 ?_
  refine l_arg (pc := 787) (j := 1) (n := 792) hC hk hi (by decide) (by decide) rfl dL_law_787 dL_law_788 dL_law_789 dL_law_790 dL_law_791 ?_
  refine l_call1 (pc := 792) (As := [.int (xs (k + 1))]) (rest := []) hC (kX8_lost l hC.2.2.2.2.2.1 hf) cw_L_84 (by decide) rfl dL_law_792 rfl (Nat.le_of_ble_eq_true rfl) ?_
  refine l_al2 (pc := 795) hC dL_law_795 ?_
  refine l_arg (pc := 796) (j := 1) (n := 801) hC hk hi (by decide) (by decide) rfl dL_law_796 dL_law_797 dL_law_798 dL_law_799 dL_law_800 ?_
  refine l_call2 (pc := 801) (As := [.int (xs (k + 1))]) (rest := [.int r]) hC (kX9_lost l hC.2.2.2.2.2.2.1 hg) cw_L_87 (by decide) rfl dL_law_801 rfl (Nat.le_of_ble_eq_true rfl) ?_
  exact l_cmp (pc := 804) hC dL_law_804 (by decide) (kk c1 m1 hR1)
theorem lc_17 {p : Program} {l : Launch} {e : Env} {s : State} {m : MethodId} {below : List Frame} {meth : Method} {c : Code} {b L : Nat} {xs : Nat → Int32} {G1 G2 : xG} {i : Int32} {σ1 σ2 : xS} {k : Nat} (hC : lC p s m meth c b L xs G1 G2) (hk : k + 6 ≤ L) (hi : i = nI k) (hR : Rel σ1 σ2) (kk : ∀ a b1, Rel a b1 → lw p l e s m below meth c b G1 G2 i 1468 [] a b1) : lw p l e s m below meth c b G1 G2 i 809 [] σ1 σ2 := by
  obtain ⟨r, c1, m1, hf, hg, hR1⟩ := op_setting (xs (k + 1)) (xs (k + 2)) σ1 σ2 hR
  refine l_al1 (pc := 809) hC dL_law_809 ?_
  refine l_arg (pc := 810) (j := 1) (n := 815) hC hk hi (by decide) (by decide) rfl dL_law_810 dL_law_811 dL_law_812 dL_law_813 dL_law_814 ?_
  refine l_arg (pc := 815) (j := 2) (n := 820) hC hk hi (by decide) (by decide) rfl dL_law_815 dL_law_816 dL_law_817 dL_law_818 dL_law_819 ?_
  refine l_call1 (pc := 820) (As := [.int (xs (k + 1)), .int (xs (k + 2))]) (rest := []) hC (kX8_setting l hC.2.2.2.2.2.1 hf) cw_L_88 (by decide) rfl dL_law_820 rfl (Nat.le_of_ble_eq_true rfl) ?_
  refine l_al2 (pc := 823) hC dL_law_823 ?_
  refine l_arg (pc := 824) (j := 1) (n := 829) hC hk hi (by decide) (by decide) rfl dL_law_824 dL_law_825 dL_law_826 dL_law_827 dL_law_828 ?_
  refine l_arg (pc := 829) (j := 2) (n := 834) hC hk hi (by decide) (by decide) rfl dL_law_829 dL_law_830 dL_law_831 dL_law_832 dL_law_833 ?_
  refine l_call2 (pc := 834) (As := [.int (xs (k + 1)), .int (xs (k + 2))]) (rest := [.int r]) hC (kX9_setting l hC.2.2.2.2.2.2.1 hg) cw_L_91 (by decide) rfl dL_law_834 rfl (Nat.le_of_ble_eq_true rfl) ?_
  exact l_cmp (pc := 837) hC dL_law_837 (by decide) (kk c1 m1 hR1)
theorem lc_18 {p : Program} {l : Launch} {e : Env} {s : State} {m : MethodId} {below : List Frame} {meth : Method} {c : Code} {b L : Nat} {xs : Nat → Int32} {G1 G2 : xG} {i : Int32} {σ1 σ2 : xS} {k : Nat} (hC : lC p s m meth c b L xs G1 G2) (hk : k + 6 ≤ L) (hi : i = nI k) (hR : Rel σ1 σ2) (kk : ∀ a b1, Rel a b1 → lw p l e s m below meth c b G1 G2 i 1468 [] a b1) : lw p l e s m below meth c b G1 G2 i 842 [] σ1 σ2 := by
  obtain ⟨r, c1, m1, hf, hg, hR1⟩ := op_leastFalse (xs (k + 1)) σ1 σ2 hR
  refine l_al1 (pc := 842) hC dL_law_842 ?_
  refine l_arg (pc := 843) (j := 1) (n := 848) hC hk hi (by decide) (by decide) rfl dL_law_843 dL_law_844 dL_law_845 dL_law_846 dL_law_847 ?_
  refine l_call1 (pc := 848) (As := [.int (xs (k + 1))]) (rest := []) hC (kX8_leastFalse l hC.2.2.2.2.2.1 hf) cw_L_92 (by decide) rfl dL_law_848 rfl (Nat.le_of_ble_eq_true rfl) ?_
  refine l_al2 (pc := 851) hC dL_law_851 ?_
  refine l_arg (pc := 852) (j := 1) (n := 857) hC hk hi (by decide) (by decide) rfl dL_law_852 dL_law_853 dL_law_854 dL_law_855 dL_law_856 ?_
  refine l_call2 (pc := 857) (As := [.int (xs (k + 1))]) (rest := [.int r]) hC (kX9_leastFalse l hC.2.2.2.2.2.2.1 hg) cw_L_95 (by decide) rfl dL_law_857 rfl (Nat.le_of_ble_eq_true rfl) ?_
  exact l_cmp (pc := 860) hC dL_law_860 (by decide) (kk c1 m1 hR1)
theorem lc_19 {p : Program} {l : Launch} {e : Env} {s : State} {m : MethodId} {below : List Frame} {meth : Method} {c : Code} {b L : Nat} {xs : Nat → Int32} {G1 G2 : xG} {i : Int32} {σ1 σ2 : xS} {k : Nat} (hC : lC p s m meth c b L xs G1 G2) (hk : k + 6 ≤ L) (hi : i = nI k) (hR : Rel σ1 σ2) (kk : ∀ a b1, Rel a b1 → lw p l e s m below meth c b G1 G2 i 1468 [] a b1) : lw p l e s m below meth c b G1 G2 i 865 [] σ1 σ2 := by
  obtain ⟨r, c1, m1, hf, hg, hR1⟩ := op_which (xs (k + 1)) (xs (k + 2)) σ1 σ2 hR
  refine l_al1 (pc := 865) hC dL_law_865 ?_
  refine l_arg (pc := 866) (j := 1) (n := 871) hC hk hi (by decide) (by decide) rfl dL_law_866 dL_law_867 dL_law_868 dL_law_869 dL_law_870 ?_
  refine l_arg (pc := 871) (j := 2) (n := 876) hC hk hi (by decide) (by decide) rfl dL_law_871 dL_law_872 dL_law_873 dL_law_874 dL_law_875 ?_
  refine l_call1 (pc := 876) (As := [.int (xs (k + 1)), .int (xs (k + 2))]) (rest := []) hC (kX8_which l hC.2.2.2.2.2.1 hf) cw_L_96 (by decide) rfl dL_law_876 rfl (Nat.le_of_ble_eq_true rfl) ?_
  refine l_al2 (pc := 879) hC dL_law_879 ?_
  refine l_arg (pc := 880) (j := 1) (n := 885) hC hk hi (by decide) (by decide) rfl dL_law_880 dL_law_881 dL_law_882 dL_law_883 dL_law_884 ?_
  refine l_arg (pc := 885) (j := 2) (n := 890) hC hk hi (by decide) (by decide) rfl dL_law_885 dL_law_886 dL_law_887 dL_law_888 dL_law_889 ?_
  refine l_call2 (pc := 890) (As := [.int (xs (k + 1)), .int (xs (k + 2))]) (rest := [.int r]) hC (kX9_which l hC.2.2.2.2.2.2.1 hg) cw_L_99 (by decide) rfl dL_law_890 rfl (Nat.le_of_ble_eq_true rfl) ?_
  exact l_cmp (pc := 893) hC dL_law_893 (by decide) (kk c1 m1 hR1)
theorem lc_20 {p : Program} {l : Launch} {e : Env} {s : State} {m : MethodId} {below : List Frame} {meth : Method} {c : Code} {b L : Nat} {xs : Nat → Int32} {G1 G2 : xG} {i : Int32} {σ1 σ2 : xS} {k : Nat} (hC : lC p s m meth c b L xs G1 G2) (hk : k + 6 ≤ L) (hi : i = nI k) (hR : Rel σ1 σ2) (kk : ∀ a b1, Rel a b1 → lw p l e s m below meth c b G1 G2 i 1468 [] a b1) : lw p l e s m below meth c b G1 G2 i 898 [] σ1 σ2 := by
  obtain ⟨r, c1, m1, hf, hg, hR1⟩ := op_struck (xs (k + 1)) σ1 σ2 hR
  refine l_al1 (pc := 898) hC dL_law_898 ?_
  refine l_arg (pc := 899) (j := 1) (n := 904) hC hk hi (by decide) (by decide) rfl dL_law_899 dL_law_900 dL_law_901 dL_law_902 dL_law_903 ?_
  refine l_call1 (pc := 904) (As := [.int (xs (k + 1))]) (rest := []) hC (kX8_struck l hC.2.2.2.2.2.1 hf) cw_L_100 (by decide) rfl dL_law_904 rfl (Nat.le_of_ble_eq_true rfl) ?_
  refine l_al2 (pc := 907) hC dL_law_907 ?_
  refine l_arg (pc := 908) (j := 1) (n := 913) hC hk hi (by decide) (by decide) rfl dL_law_908 dL_law_909 dL_law_910 dL_law_911 dL_law_912 ?_
  refine l_call2 (pc := 913) (As := [.int (xs (k + 1))]) (rest := [.int r]) hC (kX9_struck l hC.2.2.2.2.2.2.1 hg) cw_L_103 (by decide) rfl dL_law_913 rfl (Nat.le_of_ble_eq_true rfl) ?_
  exact l_cmp (pc := 916) hC dL_law_916 (by decide) (kk c1 m1 hR1)
theorem lc_21 {p : Program} {l : Launch} {e : Env} {s : State} {m : MethodId} {below : List Frame} {meth : Method} {c : Code} {b L : Nat} {xs : Nat → Int32} {G1 G2 : xG} {i : Int32} {σ1 σ2 : xS} {k : Nat} (hC : lC p s m meth c b L xs G1 G2) (hk : k + 6 ≤ L) (hi : i = nI k) (hR : Rel σ1 σ2) (kk : ∀ a b1, Rel a b1 → lw p l e s m below meth c b G1 G2 i 1468 [] a b1) : lw p l e s m below meth c b G1 G2 i 921 [] σ1 σ2 := by
  obtain ⟨r, c1, m1, hf, hg, hR1⟩ := op_dark (xs (k + 1)) σ1 σ2 hR
  refine l_al1 (pc := 921) hC dL_law_921 ?_
  refine l_arg (pc := 922) (j := 1) (n := 927) hC hk hi (by decide) (by decide) rfl dL_law_922 dL_law_923 dL_law_924 dL_law_925 dL_law_926 ?_
  refine l_call1 (pc := 927) (As := [.int (xs (k + 1))]) (rest := []) hC (kX8_dark l hC.2.2.2.2.2.1 hf) cw_L_104 (by decide) rfl dL_law_927 rfl (Nat.le_of_ble_eq_true rfl) ?_
  refine l_al2 (pc := 930) hC dL_law_930 ?_
  refine l_arg (pc := 931) (j := 1) (n := 936) hC hk hi (by decide) (by decide) rfl dL_law_931 dL_law_932 dL_law_933 dL_law_934 dL_law_935 ?_
  refine l_call2 (pc := 936) (As := [.int (xs (k + 1))]) (rest := [.int r]) hC (kX9_dark l hC.2.2.2.2.2.2.1 hg) cw_L_107 (by decide) rfl dL_law_936 rfl (Nat.le_of_ble_eq_true rfl) ?_
  exact l_cmp (pc := 939) hC dL_law_939 (by decide) (kk c1 m1 hR1)
theorem lc_22 {p : Program} {l : Launch} {e : Env} {s : State} {m : MethodId} {below : List Frame} {meth : Method} {c : Code} {b L : Nat} {xs : Nat → Int32} {G1 G2 : xG} {i : Int32} {σ1 σ2 : xS} {k : Nat} (hC : lC p s m meth c b L xs G1 G2) (hk : k + 6 ≤ L) (hi : i = nI k) (hR : Rel σ1 σ2) (kk : ∀ a b1, Rel a b1 → lw p l e s m below meth c b G1 G2 i 1468 [] a b1) : lw p l e s m below meth c b G1 G2 i 944 [] σ1 σ2 := by
  obtain ⟨r, c1, m1, hf, hg, hR1⟩ := op_deep (xs (k + 1)) (xs (k + 2)) σ1 σ2 hR
  refine l_al1 (pc := 944) hC dL_law_944 ?_
  refine l_arg (pc := 945) (j := 1) (n := 950) hC hk hi (by decide) (by decide) rfl dL_law_945 dL_law_946 dL_law_947 dL_law_948 dL_law_949 ?_
  refine l_arg (pc := 950) (j := 2) (n := 955) hC hk hi (by decide) (by decide) rfl dL_law_950 dL_law_951 dL_law_952 dL_law_953 dL_law_954 ?_
  refine l_call1 (pc := 955) (As := [.int (xs (k + 1)), .int (xs (k + 2))]) (rest := []) hC (kX8_deep l hC.2.2.2.2.2.1 hf) cw_L_108 (by decide) rfl dL_law_955 rfl (Nat.le_of_ble_eq_true rfl) ?_
  refine l_al2 (pc := 958) hC dL_law_958 ?_
  refine l_arg (pc := 959) (j := 1) (n := 964) hC hk hi (by decide) (by decide) rfl dL_law_959 dL_law_960 dL_law_961 dL_law_962 dL_law_963 ?_
  refine l_arg (pc := 964) (j := 2) (n := 969) hC hk hi (by decide) (by decide) rfl dL_law_964 dL_law_965 dL_law_966 dL_law_967 dL_law_968 ?_
  refine l_call2 (pc := 969) (As := [.int (xs (k + 1)), .int (xs (k + 2))]) (rest := [.int r]) hC (kX9_deep l hC.2.2.2.2.2.2.1 hg) cw_L_111 (by decide) rfl dL_law_969 rfl (Nat.le_of_ble_eq_true rfl) ?_
  exact l_cmp (pc := 972) hC dL_law_972 (by decide) (kk c1 m1 hR1)
theorem lc_23 {p : Program} {l : Launch} {e : Env} {s : State} {m : MethodId} {below : List Frame} {meth : Method} {c : Code} {b L : Nat} {xs : Nat → Int32} {G1 G2 : xG} {i : Int32} {σ1 σ2 : xS} {k : Nat} (hC : lC p s m meth c b L xs G1 G2) (hk : k + 6 ≤ L) (hi : i = nI k) (hR : Rel σ1 σ2) (kk : ∀ a b1, Rel a b1 → lw p l e s m below meth c b G1 G2 i 1468 [] a b1) : lw p l e s m below meth c b G1 G2 i 977 [] σ1 σ2 := by
  obtain ⟨r, c1, m1, hf, hg, hR1⟩ := op_draws (xs (k + 1)) σ1 σ2 hR
  refine l_al1 (pc := 977) hC dL_law_977 ?_
  refine l_arg (pc := 978) (j := 1) (n := 983) hC hk hi (by decide) (by decide) rfl dL_law_978 dL_law_979 dL_law_980 dL_law_981 dL_law_982 ?_
  refine l_call1 (pc := 983) (As := [.int (xs (k + 1))]) (rest := []) hC (kX8_draws l hC.2.2.2.2.2.1 hf) cw_L_112 (by decide) rfl dL_law_983 rfl (Nat.le_of_ble_eq_true rfl) ?_
  refine l_al2 (pc := 986) hC dL_law_986 ?_
  refine l_arg (pc := 987) (j := 1) (n := 992) hC hk hi (by decide) (by decide) rfl dL_law_987 dL_law_988 dL_law_989 dL_law_990 dL_law_991 ?_
  refine l_call2 (pc := 992) (As := [.int (xs (k + 1))]) (rest := [.int r]) hC (kX9_draws l hC.2.2.2.2.2.2.1 hg) cw_L_115 (by decide) rfl dL_law_992 rfl (Nat.le_of_ble_eq_true rfl) ?_
  exact l_cmp (pc := 995) hC dL_law_995 (by decide) (kk c1 m1 hR1)
theorem lc_24 {p : Program} {l : Launch} {e : Env} {s : State} {m : MethodId} {below : List Frame} {meth : Method} {c : Code} {b L : Nat} {xs : Nat → Int32} {G1 G2 : xG} {i : Int32} {σ1 σ2 : xS} {k : Nat} (hC : lC p s m meth c b L xs G1 G2) (hk : k + 6 ≤ L) (hi : i = nI k) (hR : Rel σ1 σ2) (kk : ∀ a b1, Rel a b1 → lw p l e s m below meth c b G1 G2 i 1468 [] a b1) : lw p l e s m below meth c b G1 G2 i 1000 [] σ1 σ2 := by
  obtain ⟨r, c1, m1, hf, hg, hR1⟩ := op_traffic (xs (k + 1)) (xs (k + 2)) σ1 σ2 hR
  refine l_al1 (pc := 1000) hC dL_law_1000 ?_
  refine l_arg (pc := 1001) (j := 1) (n := 1006) hC hk hi (by decide) (by decide) rfl dL_law_1001 dL_law_1002 dL_law_1003 dL_law_1004 dL_law_1005 ?_
  refine l_arg (pc := 1006) (j := 2) (n := 1011) hC hk hi (by decide) (by decide) rfl dL_law_1006 dL_law_1007 dL_law_1008 dL_law_1009 dL_law_1010 ?_
  refine l_call1 (pc := 1011) (As := [.int (xs (k + 1)), .int (xs (k + 2))]) (rest := []) hC (kX8_traffic l hC.2.2.2.2.2.1 hf) cw_L_116 (by decide) rfl dL_law_1011 rfl (Nat.le_of_ble_eq_true rfl) ?_
  refine l_al2 (pc := 1014) hC dL_law_1014 ?_
  refine l_arg (pc := 1015) (j := 1) (n := 1020) hC hk hi (by decide) (by decide) rfl dL_law_1015 dL_law_1016 dL_law_1017 dL_law_1018 dL_law_1019 ?_
  refine l_arg (pc := 1020) (j := 2) (n := 1025) hC hk hi (by decide) (by decide) rfl dL_law_1020 dL_law_1021 dL_law_1022 dL_law_1023 dL_law_1024 ?_
  refine l_call2 (pc := 1025) (As := [.int (xs (k + 1)), .int (xs (k + 2))]) (rest := [.int r]) hC (kX9_traffic l hC.2.2.2.2.2.2.1 hg) cw_L_119 (by decide) rfl dL_law_1025 rfl (Nat.le_of_ble_eq_true rfl) ?_
  exact l_cmp (pc := 1028) hC dL_law_1028 (by decide) (kk c1 m1 hR1)
theorem lc_25 {p : Program} {l : Launch} {e : Env} {s : State} {m : MethodId} {below : List Frame} {meth : Method} {c : Code} {b L : Nat} {xs : Nat → Int32} {G1 G2 : xG} {i : Int32} {σ1 σ2 : xS} {k : Nat} (hC : lC p s m meth c b L xs G1 G2) (hk : k + 6 ≤ L) (hi : i = nI k) (hR : Rel σ1 σ2) (kk : ∀ a b1, Rel a b1 → lw p l e s m below meth c b G1 G2 i 1468 [] a b1) : lw p l e s m below meth c b G1 G2 i 1033 [] σ1 σ2 := by
  obtain ⟨r, c1, m1, hf, hg, hR1⟩ := op_odds (xs (k + 1)) (xs (k + 2)) (xs (k + 3)) σ1 σ2 hR
  refine l_al1 (pc := 1033) hC dL_law_1033 ?_
  refine l_arg (pc := 1034) (j := 1) (n := 1039) hC hk hi (by decide) (by decide) rfl dL_law_1034 dL_law_1035 dL_law_1036 dL_law_1037 dL_law_1038 ?_
  refine l_arg (pc := 1039) (j := 2) (n := 1044) hC hk hi (by decide) (by decide) rfl dL_law_1039 dL_law_1040 dL_law_1041 dL_law_1042 dL_law_1043 ?_
  refine l_arg (pc := 1044) (j := 3) (n := 1049) hC hk hi (by decide) (by decide) rfl dL_law_1044 dL_law_1045 dL_law_1046 dL_law_1047 dL_law_1048 ?_
  refine l_call1 (pc := 1049) (As := [.int (xs (k + 1)), .int (xs (k + 2)), .int (xs (k + 3))]) (rest := []) hC (kX8_odds l hC.2.2.2.2.2.1 hf) cw_L_120 (by decide) rfl dL_law_1049 rfl (Nat.le_of_ble_eq_true rfl) ?_
  refine l_al2 (pc := 1052) hC dL_law_1052 ?_
  refine l_arg (pc := 1053) (j := 1) (n := 1058) hC hk hi (by decide) (by decide) rfl dL_law_1053 dL_law_1054 dL_law_1055 dL_law_1056 dL_law_1057 ?_
  refine l_arg (pc := 1058) (j := 2) (n := 1063) hC hk hi (by decide) (by decide) rfl dL_law_1058 dL_law_1059 dL_law_1060 dL_law_1061 dL_law_1062 ?_
  refine l_arg (pc := 1063) (j := 3) (n := 1068) hC hk hi (by decide) (by decide) rfl dL_law_1063 dL_law_1064 dL_law_1065 dL_law_1066 dL_law_1067 ?_
  refine l_call2 (pc := 1068) (As := [.int (xs (k + 1)), .int (xs (k + 2)), .int (xs (k + 3))]) (rest := [.int r]) hC (kX9_odds l hC.2.2.2.2.2.2.1 hg) cw_L_123 (by decide) rfl dL_law_1068 rfl (Nat.le_of_ble_eq_true rfl) ?_
  exact l_cmp (pc := 1071) hC dL_law_1071 (by decide) (kk c1 m1 hR1)
theorem lc_26 {p : Program} {l : Launch} {e : Env} {s : State} {m : MethodId} {below : List Frame} {meth : Method} {c : Code} {b L : Nat} {xs : Nat → Int32} {G1 G2 : xG} {i : Int32} {σ1 σ2 : xS} {k : Nat} (hC : lC p s m meth c b L xs G1 G2) (hk : k + 6 ≤ L) (hi : i = nI k) (hR : Rel σ1 σ2) (kk : ∀ a b1, Rel a b1 → lw p l e s m below meth c b G1 G2 i 1468 [] a b1) : lw p l e s m below meth c b G1 G2 i 1076 [] σ1 σ2 := by
  obtain ⟨r, c1, m1, hf, hg, hR1⟩ := op_seed (xs (k + 1)) σ1 σ2 hR
  refine l_al1 (pc := 1076) hC dL_law_1076 ?_
  refine l_arg (pc := 1077) (j := 1) (n := 1082) hC hk hi (by decide) (by decide) rfl dL_law_1077 dL_law_1078 dL_law_1079 dL_law_1080 dL_law_1081 ?_
  refine l_call1 (pc := 1082) (As := [.int (xs (k + 1))]) (rest := []) hC (kX8_seed l hC.2.2.2.2.2.1 hf) cw_L_124 (by decide) rfl dL_law_1082 rfl (Nat.le_of_ble_eq_true rfl) ?_
  refine l_al2 (pc := 1085) hC dL_law_1085 ?_
  refine l_arg (pc := 1086) (j := 1) (n := 1091) hC hk hi (by decide) (by decide) rfl dL_law_1086 dL_law_1087 dL_law_1088 dL_law_1089 dL_law_1090 ?_
  refine l_call2 (pc := 1091) (As := [.int (xs (k + 1))]) (rest := [.int r]) hC (kX9_seed l hC.2.2.2.2.2.2.1 hg) cw_L_127 (by decide) rfl dL_law_1091 rfl (Nat.le_of_ble_eq_true rfl) ?_
  exact l_cmp (pc := 1094) hC dL_law_1094 (by decide) (kk c1 m1 hR1)
theorem lc_27 {p : Program} {l : Launch} {e : Env} {s : State} {m : MethodId} {below : List Frame} {meth : Method} {c : Code} {b L : Nat} {xs : Nat → Int32} {G1 G2 : xG} {i : Int32} {σ1 σ2 : xS} {k : Nat} (hC : lC p s m meth c b L xs G1 G2) (hk : k + 6 ≤ L) (hi : i = nI k) (hR : Rel σ1 σ2) (kk : ∀ a b1, Rel a b1 → lw p l e s m below meth c b G1 G2 i 1468 [] a b1) : lw p l e s m below meth c b G1 G2 i 1099 [] σ1 σ2 := by
  obtain ⟨r, c1, m1, hf, hg, hR1⟩ := op_voice (xs (k + 1)) (xs (k + 2)) (xs (k + 3)) σ1 σ2 hR
  refine l_al1 (pc := 1099) hC dL_law_1099 ?_
  refine l_arg (pc := 1100) (j := 1) (n := 1105) hC hk hi (by decide) (by decide) rfl dL_law_1100 dL_law_1101 dL_law_1102 dL_law_1103 dL_law_1104 ?_
  refine l_arg (pc := 1105) (j := 2) (n := 1110) hC hk hi (by decide) (by decide) rfl dL_law_1105 dL_law_1106 dL_law_1107 dL_law_1108 dL_law_1109 ?_
  refine l_arg (pc := 1110) (j := 3) (n := 1115) hC hk hi (by decide) (by decide) rfl dL_law_1110 dL_law_1111 dL_law_1112 dL_law_1113 dL_law_1114 ?_
  refine l_call1 (pc := 1115) (As := [.int (xs (k + 1)), .int (xs (k + 2)), .int (xs (k + 3))]) (rest := []) hC (kX8_voice l hC.2.2.2.2.2.1 hf) cw_L_128 (by decide) rfl dL_law_1115 rfl (Nat.le_of_ble_eq_true rfl) ?_
  refine l_al2 (pc := 1118) hC dL_law_1118 ?_
  refine l_arg (pc := 1119) (j := 1) (n := 1124) hC hk hi (by decide) (by decide) rfl dL_law_1119 dL_law_1120 dL_law_1121 dL_law_1122 dL_law_1123 ?_
  refine l_arg (pc := 1124) (j := 2) (n := 1129) hC hk hi (by decide) (by decide) rfl dL_law_1124 dL_law_1125 dL_law_1126 dL_law_1127 dL_law_1128 ?_
  refine l_arg (pc := 1129) (j := 3) (n := 1134) hC hk hi (by decide) (by decide) rfl dL_law_1129 dL_law_1130 dL_law_1131 dL_law_1132 dL_law_1133 ?_
  refine l_call2 (pc := 1134) (As := [.int (xs (k + 1)), .int (xs (k + 2)), .int (xs (k + 3))]) (rest := [.int r]) hC (kX9_voice l hC.2.2.2.2.2.2.1 hg) cw_L_131 (by decide) rfl dL_law_1134 rfl (Nat.le_of_ble_eq_true rfl) ?_
  exact l_cmp (pc := 1137) hC dL_law_1137 (by decide) (kk c1 m1 hR1)
theorem lc_28 {p : Program} {l : Launch} {e : Env} {s : State} {m : MethodId} {below : List Frame} {meth : Method} {c : Code} {b L : Nat} {xs : Nat → Int32} {G1 G2 : xG} {i : Int32} {σ1 σ2 : xS} {k : Nat} (hC : lC p s m meth c b L xs G1 G2) (hk : k + 6 ≤ L) (hi : i = nI k) (hR : Rel σ1 σ2) (kk : ∀ a b1, Rel a b1 → lw p l e s m below meth c b G1 G2 i 1468 [] a b1) : lw p l e s m below meth c b G1 G2 i 1142 [] σ1 σ2 := by
  obtain ⟨r, c1, m1, hf, hg, hR1⟩ := op_trace (xs (k + 1)) σ1 σ2 hR
  refine l_al1 (pc := 1142) hC dL_law_1142 ?_
  refine l_arg (pc := 1143) (j := 1) (n := 1148) hC hk hi (by decide) (by decide) rfl dL_law_1143 dL_law_1144 dL_law_1145 dL_law_1146 dL_law_1147 ?_
  refine l_call1 (pc := 1148) (As := [.int (xs (k + 1))]) (rest := []) hC (kX8_trace l hC.2.2.2.2.2.1 hf) cw_L_132 (by decide) rfl dL_law_1148 rfl (Nat.le_of_ble_eq_true rfl) ?_
  refine l_al2 (pc := 1151) hC dL_law_1151 ?_
  refine l_arg (pc := 1152) (j := 1) (n := 1157) hC hk hi (by decide) (by decide) rfl dL_law_1152 dL_law_1153 dL_law_1154 dL_law_1155 dL_law_1156 ?_
  refine l_call2 (pc := 1157) (As := [.int (xs (k + 1))]) (rest := [.int r]) hC (kX9_trace l hC.2.2.2.2.2.2.1 hg) cw_L_135 (by decide) rfl dL_law_1157 rfl (Nat.le_of_ble_eq_true rfl) ?_
  exact l_cmp (pc := 1160) hC dL_law_1160 (by decide) (kk c1 m1 hR1)
theorem lc_29 {p : Program} {l : Launch} {e : Env} {s : State} {m : MethodId} {below : List Frame} {meth : Method} {c : Code} {b L : Nat} {xs : Nat → Int32} {G1 G2 : xG} {i : Int32} {σ1 σ2 : xS} {k : Nat} (hC : lC p s m meth c b L xs G1 G2) (hk : k + 6 ≤ L) (hi : i = nI k) (hR : Rel σ1 σ2) (kk : ∀ a b1, Rel a b1 → lw p l e s m below meth c b G1 G2 i 1468 [] a b1) : lw p l e s m below meth c b G1 G2 i 1165 [] σ1 σ2 := by
  obtain ⟨r, c1, m1, hf, hg, hR1⟩ := op_sheet (xs (k + 1)) (xs (k + 2)) (xs (k + 3)) σ1 σ2 hR
  refine l_al1 (pc := 1165) hC dL_law_1165 ?_
  refine l_arg (pc := 1166) (j := 1) (n := 1171) hC hk hi (by decide) (by decide) rfl dL_law_1166 dL_law_1167 dL_law_1168 dL_law_1169 dL_law_1170 ?_
  refine l_arg (pc := 1171) (j := 2) (n := 1176) hC hk hi (by decide) (by decide) rfl dL_law_1171 dL_law_1172 dL_law_1173 dL_law_1174 dL_law_1175 ?_
  refine l_arg (pc := 1176) (j := 3) (n := 1181) hC hk hi (by decide) (by decide) rfl dL_law_1176 dL_law_1177 dL_law_1178 dL_law_1179 dL_law_1180 ?_
  refine l_call1 (pc := 1181) (As := [.int (xs (k + 1)), .int (xs (k + 2)), .int (xs (k + 3))]) (rest := []) hC (kX8_sheet l hC.2.2.2.2.2.1 hf) cw_L_136 (by decide) rfl dL_law_1181 rfl (Nat.le_of_ble_eq_true rfl) ?_
  refine l_al2 (pc := 1184) hC dL_law_1184 ?_
  refine l_arg (pc := 1185) (j := 1) (n := 1190) hC hk hi (by decide) (by decide) rfl dL_law_1185 dL_law_1186 dL_law_1187 dL_law_1188 dL_law_1189 ?_
  refine l_arg (pc := 1190) (j := 2) (n := 1195) hC hk hi (by decide) (by decide) rfl dL_law_1190 dL_law_1191 dL_law_1192 dL_law_1193 dL_law_1194 ?_
  refine l_arg (pc := 1195) (j := 3) (n := 1200) hC hk hi (by decide) (by decide) rfl dL_law_1195 dL_law_1196 dL_law_1197 dL_law_1198 dL_law_1199 ?_
  refine l_call2 (pc := 1200) (As := [.int (xs (k + 1)), .int (xs (k + 2)), .int (xs (k + 3))]) (rest := [.int r]) hC (kX9_sheet l hC.2.2.2.2.2.2.1 hg) cw_L_139 (by decide) rfl dL_law_1200 rfl (Nat.le_of_ble_eq_true rfl) ?_
  exact l_cmp (pc := 1203) hC dL_law_1203 (by decide) (kk c1 m1 hR1)
theorem lc_30 {p : Program} {l : Launch} {e : Env} {s : State} {m : MethodId} {below : List Frame} {meth : Method} {c : Code} {b L : Nat} {xs : Nat → Int32} {G1 G2 : xG} {i : Int32} {σ1 σ2 : xS} {k : Nat} (hC : lC p s m meth c b L xs G1 G2) (hk : k + 6 ≤ L) (hi : i = nI k) (hR : Rel σ1 σ2) (kk : ∀ a b1, Rel a b1 → lw p l e s m below meth c b G1 G2 i 1468 [] a b1) : lw p l e s m below meth c b G1 G2 i 1208 [] σ1 σ2 := by
  obtain ⟨r, c1, m1, hf, hg, hR1⟩ := op_put (xs (k + 1)) (xs (k + 2)) (xs (k + 3)) σ1 σ2 hR
  refine l_al1 (pc := 1208) hC dL_law_1208 ?_
  refine l_arg (pc := 1209) (j := 1) (n := 1214) hC hk hi (by decide) (by decide) rfl dL_law_1209 dL_law_1210 dL_law_1211 dL_law_1212 dL_law_1213 ?_
  refine l_arg (pc := 1214) (j := 2) (n := 1219) hC hk hi (by decide) (by decide) rfl dL_law_1214 dL_law_1215 dL_law_1216 dL_law_1217 dL_law_1218 ?_
  refine l_arg (pc := 1219) (j := 3) (n := 1224) hC hk hi (by decide) (by decide) rfl dL_law_1219 dL_law_1220 dL_law_1221 dL_law_1222 dL_law_1223 ?_
  refine l_call1 (pc := 1224) (As := [.int (xs (k + 1)), .int (xs (k + 2)), .int (xs (k + 3))]) (rest := []) hC (kX8_put l hC.2.2.2.2.2.1 hf) cw_L_140 (by decide) rfl dL_law_1224 rfl (Nat.le_of_ble_eq_true rfl) ?_
  refine l_al2 (pc := 1227) hC dL_law_1227 ?_
  refine l_arg (pc := 1228) (j := 1) (n := 1233) hC hk hi (by decide) (by decide) rfl dL_law_1228 dL_law_1229 dL_law_1230 dL_law_1231 dL_law_1232 ?_
  refine l_arg (pc := 1233) (j := 2) (n := 1238) hC hk hi (by decide) (by decide) rfl dL_law_1233 dL_law_1234 dL_law_1235 dL_law_1236 dL_law_1237 ?_
  refine l_arg (pc := 1238) (j := 3) (n := 1243) hC hk hi (by decide) (by decide) rfl dL_law_1238 dL_law_1239 dL_law_1240 dL_law_1241 dL_law_1242 ?_
  refine l_call2 (pc := 1243) (As := [.int (xs (k + 1)), .int (xs (k + 2)), .int (xs (k + 3))]) (rest := [.int r]) hC (kX9_put l hC.2.2.2.2.2.2.1 hg) cw_L_143 (by decide) rfl dL_law_1243 rfl (Nat.le_of_ble_eq_true rfl) ?_
  exact l_cmp (pc := 1246) hC dL_law_1246 (by decide) (kk c1 m1 hR1)
theorem lc_31 {p : Program} {l : Launch} {e : Env} {s : State} {m : MethodId} {below : List Frame} {meth : Method} {c : Code} {b L : Nat} {xs : Nat → Int32} {G1 G2 : xG} {i : Int32} {σ1 σ2 : xS} {k : Nat} (hC : lC p s m meth c b L xs G1 G2) (hk : k + 6 ≤ L) (hi : i = nI k) (hR : Rel σ1 σ2) (kk : ∀ a b1, Rel a b1 → lw p l e s m below meth c b G1 G2 i 1468 [] a b1) : lw p l e s m below meth c b G1 G2 i 1251 [] σ1 σ2 := by
  obtain ⟨r, c1, m1, hf, hg, hR1⟩ := op_move (xs (k + 1)) (xs (k + 2)) (xs (k + 3)) (xs (k + 4)) (xs (k + 5)) σ1 σ2 hR
  refine l_al1 (pc := 1251) hC dL_law_1251 ?_
  refine l_arg (pc := 1252) (j := 1) (n := 1257) hC hk hi (by decide) (by decide) rfl dL_law_1252 dL_law_1253 dL_law_1254 dL_law_1255 dL_law_1256 ?_
  refine l_arg (pc := 1257) (j := 2) (n := 1262) hC hk hi (by decide) (by decide) rfl dL_law_1257 dL_law_1258 dL_law_1259 dL_law_1260 dL_law_1261 ?_
  refine l_arg (pc := 1262) (j := 3) (n := 1267) hC hk hi (by decide) (by decide) rfl dL_law_1262 dL_law_1263 dL_law_1264 dL_law_1265 dL_law_1266 ?_
  refine l_arg (pc := 1267) (j := 4) (n := 1272) hC hk hi (by decide) (by decide) rfl dL_law_1267 dL_law_1268 dL_law_1269 dL_law_1270 dL_law_1271 ?_
  refine l_arg (pc := 1272) (j := 5) (n := 1277) hC hk hi (by decide) (by decide) rfl dL_law_1272 dL_law_1273 dL_law_1274 dL_law_1275 dL_law_1276 ?_
  refine l_call1 (pc := 1277) (As := [.int (xs (k + 1)), .int (xs (k + 2)), .int (xs (k + 3)), .int (xs (k + 4)), .int (xs (k + 5))]) (rest := []) hC (kX8_move l hC.2.2.2.2.2.1 hf) cw_L_144 (by decide) rfl dL_law_1277 rfl (Nat.le_of_ble_eq_true rfl) ?_
  refine l_al2 (pc := 1280) hC dL_law_1280 ?_
  refine l_arg (pc := 1281) (j := 1) (n := 1286) hC hk hi (by decide) (by decide) rfl dL_law_1281 dL_law_1282 dL_law_1283 dL_law_1284 dL_law_1285 ?_
  refine l_arg (pc := 1286) (j := 2) (n := 1291) hC hk hi (by decide) (by decide) rfl dL_law_1286 dL_law_1287 dL_law_1288 dL_law_1289 dL_law_1290 ?_
  refine l_arg (pc := 1291) (j := 3) (n := 1296) hC hk hi (by decide) (by decide) rfl dL_law_1291 dL_law_1292 dL_law_1293 dL_law_1294 dL_law_1295 ?_
  refine l_arg (pc := 1296) (j := 4) (n := 1301) hC hk hi (by decide) (by decide) rfl dL_law_1296 dL_law_1297 dL_law_1298 dL_law_1299 dL_law_1300 ?_
  refine l_arg (pc := 1301) (j := 5) (n := 1306) hC hk hi (by decide) (by decide) rfl dL_law_1301 dL_law_1302 dL_law_1303 dL_law_1304 dL_law_1305 ?_
  refine l_call2 (pc := 1306) (As := [.int (xs (k + 1)), .int (xs (k + 2)), .int (xs (k + 3)), .int (xs (k + 4)), .int (xs (k + 5))]) (rest := [.int r]) hC (kX9_move l hC.2.2.2.2.2.2.1 hg) cw_L_148 (by decide) rfl dL_law_1306 rfl (Nat.le_of_ble_eq_true rfl) ?_
  exact l_cmp (pc := 1309) hC dL_law_1309 (by decide) (kk c1 m1 hR1)
theorem lc_32 {p : Program} {l : Launch} {e : Env} {s : State} {m : MethodId} {below : List Frame} {meth : Method} {c : Code} {b L : Nat} {xs : Nat → Int32} {G1 G2 : xG} {i : Int32} {σ1 σ2 : xS} {k : Nat} (hC : lC p s m meth c b L xs G1 G2) (hk : k + 6 ≤ L) (hi : i = nI k) (hR : Rel σ1 σ2) (kk : ∀ a b1, Rel a b1 → lw p l e s m below meth c b G1 G2 i 1468 [] a b1) : lw p l e s m below meth c b G1 G2 i 1314 [] σ1 σ2 := by
  obtain ⟨r, c1, m1, hf, hg, hR1⟩ := op_beds (xs (k + 1)) σ1 σ2 hR
  refine l_al1 (pc := 1314) hC dL_law_1314 ?_
  refine l_arg (pc := 1315) (j := 1) (n := 1320) hC hk hi (by decide) (by decide) rfl dL_law_1315 dL_law_1316 dL_law_1317 dL_law_1318 dL_law_1319 ?_
  refine l_call1 (pc := 1320) (As := [.int (xs (k + 1))]) (rest := []) hC (kX8_beds l hC.2.2.2.2.2.1 hf) cw_L_149 (by decide) rfl dL_law_1320 rfl (Nat.le_of_ble_eq_true rfl) ?_
  refine l_al2 (pc := 1323) hC dL_law_1323 ?_
  refine l_arg (pc := 1324) (j := 1) (n := 1329) hC hk hi (by decide) (by decide) rfl dL_law_1324 dL_law_1325 dL_law_1326 dL_law_1327 dL_law_1328 ?_
  refine l_call2 (pc := 1329) (As := [.int (xs (k + 1))]) (rest := [.int r]) hC (kX9_beds l hC.2.2.2.2.2.2.1 hg) cw_L_152 (by decide) rfl dL_law_1329 rfl (Nat.le_of_ble_eq_true rfl) ?_
  exact l_cmp (pc := 1332) hC dL_law_1332 (by decide) (kk c1 m1 hR1)
theorem lc_33 {p : Program} {l : Launch} {e : Env} {s : State} {m : MethodId} {below : List Frame} {meth : Method} {c : Code} {b L : Nat} {xs : Nat → Int32} {G1 G2 : xG} {i : Int32} {σ1 σ2 : xS} {k : Nat} (hC : lC p s m meth c b L xs G1 G2) (hk : k + 6 ≤ L) (hi : i = nI k) (hR : Rel σ1 σ2) (kk : ∀ a b1, Rel a b1 → lw p l e s m below meth c b G1 G2 i 1468 [] a b1) : lw p l e s m below meth c b G1 G2 i 1337 [] σ1 σ2 := by
  obtain ⟨r, c1, m1, hf, hg, hR1⟩ := op_judge (xs (k + 1)) σ1 σ2 hR
  refine l_al1 (pc := 1337) hC dL_law_1337 ?_
  refine l_arg (pc := 1338) (j := 1) (n := 1343) hC hk hi (by decide) (by decide) rfl dL_law_1338 dL_law_1339 dL_law_1340 dL_law_1341 dL_law_1342 ?_
  refine l_call1 (pc := 1343) (As := [.int (xs (k + 1))]) (rest := []) hC (kX8_judge l hC.2.2.2.2.2.1 hf) cw_L_153 (by decide) rfl dL_law_1343 rfl (Nat.le_of_ble_eq_true rfl) ?_
  refine l_al2 (pc := 1346) hC dL_law_1346 ?_
  refine l_arg (pc := 1347) (j := 1) (n := 1352) hC hk hi (by decide) (by decide) rfl dL_law_1347 dL_law_1348 dL_law_1349 dL_law_1350 dL_law_1351 ?_
  refine l_call2 (pc := 1352) (As := [.int (xs (k + 1))]) (rest := [.int r]) hC (kX9_judge l hC.2.2.2.2.2.2.1 hg) cw_L_156 (by decide) rfl dL_law_1352 rfl (Nat.le_of_ble_eq_true rfl) ?_
  exact l_cmp (pc := 1355) hC dL_law_1355 (by decide) (kk c1 m1 hR1)
theorem lc_34 {p : Program} {l : Launch} {e : Env} {s : State} {m : MethodId} {below : List Frame} {meth : Method} {c : Code} {b L : Nat} {xs : Nat → Int32} {G1 G2 : xG} {i : Int32} {σ1 σ2 : xS} {k : Nat} (hC : lC p s m meth c b L xs G1 G2) (hk : k + 6 ≤ L) (hi : i = nI k) (hR : Rel σ1 σ2) (kk : ∀ a b1, Rel a b1 → lw p l e s m below meth c b G1 G2 i 1468 [] a b1) : lw p l e s m below meth c b G1 G2 i 1360 [] σ1 σ2 := by
  obtain ⟨r, c1, m1, hf, hg, hR1⟩ := op_image  σ1 σ2 hR
  refine l_al1 (pc := 1360) hC dL_law_1360 ?_
  refine l_call1 (pc := 1361) (As := []) (rest := []) hC (kX8_image l hC.2.2.2.2.2.1 hf) cw_L_157 (by decide) rfl dL_law_1361 rfl (Nat.le_of_ble_eq_true rfl) ?_
  refine l_al2 (pc := 1364) hC dL_law_1364 ?_
  refine l_call2 (pc := 1365) (As := []) (rest := [.int r]) hC (kX9_image l hC.2.2.2.2.2.2.1 hg) cw_L_161 (by decide) rfl dL_law_1365 rfl (Nat.le_of_ble_eq_true rfl) ?_
  exact l_cmp (pc := 1368) hC dL_law_1368 (by decide) (kk c1 m1 hR1)
theorem lc_35 {p : Program} {l : Launch} {e : Env} {s : State} {m : MethodId} {below : List Frame} {meth : Method} {c : Code} {b L : Nat} {xs : Nat → Int32} {G1 G2 : xG} {i : Int32} {σ1 σ2 : xS} {k : Nat} (hC : lC p s m meth c b L xs G1 G2) (hk : k + 6 ≤ L) (hi : i = nI k) (hR : Rel σ1 σ2) (kk : ∀ a b1, Rel a b1 → lw p l e s m below meth c b G1 G2 i 1468 [] a b1) : lw p l e s m below meth c b G1 G2 i 1373 [] σ1 σ2 := by
  obtain ⟨r, c1, m1, hf, hg, hR1⟩ := op_restore  σ1 σ2 hR
  refine l_al1 (pc := 1373) hC dL_law_1373 ?_
  refine l_call1 (pc := 1374) (As := []) (rest := []) hC (kX8_restore l hC.2.2.2.2.2.1 hf) cw_L_162 (by decide) rfl dL_law_1374 rfl (Nat.le_of_ble_eq_true rfl) ?_
  refine l_al2 (pc := 1377) hC dL_law_1377 ?_
  refine l_call2 (pc := 1378) (As := []) (rest := [.int r]) hC (kX9_restore l hC.2.2.2.2.2.2.1 hg) cw_L_165 (by decide) rfl dL_law_1378 rfl (Nat.le_of_ble_eq_true rfl) ?_
  exact l_cmp (pc := 1381) hC dL_law_1381 (by decide) (kk c1 m1 hR1)
theorem lc_36 {p : Program} {l : Launch} {e : Env} {s : State} {m : MethodId} {below : List Frame} {meth : Method} {c : Code} {b L : Nat} {xs : Nat → Int32} {G1 G2 : xG} {i : Int32} {σ1 σ2 : xS} {k : Nat} (hC : lC p s m meth c b L xs G1 G2) (hk : k + 6 ≤ L) (hi : i = nI k) (hR : Rel σ1 σ2) (kk : ∀ a b1, Rel a b1 → lw p l e s m below meth c b G1 G2 i 1468 [] a b1) : lw p l e s m below meth c b G1 G2 i 1386 [] σ1 σ2 := by
  obtain ⟨r, c1, m1, hf, hg, hR1⟩ := op_tell (xs (k + 1)) σ1 σ2 hR
  refine l_al1 (pc := 1386) hC dL_law_1386 ?_
  refine l_arg (pc := 1387) (j := 1) (n := 1392) hC hk hi (by decide) (by decide) rfl dL_law_1387 dL_law_1388 dL_law_1389 dL_law_1390 dL_law_1391 ?_
  refine l_call1 (pc := 1392) (As := [.int (xs (k + 1))]) (rest := []) hC (kX8_tell l hC.2.2.2.2.2.1 hf) cw_L_166 (by decide) rfl dL_law_1392 rfl (Nat.le_of_ble_eq_true rfl) ?_
  refine l_al2 (pc := 1395) hC dL_law_1395 ?_
  refine l_arg (pc := 1396) (j := 1) (n := 1401) hC hk hi (by decide) (by decide) rfl dL_law_1396 dL_law_1397 dL_law_1398 dL_law_1399 dL_law_1400 ?_
  refine l_call2 (pc := 1401) (As := [.int (xs (k + 1))]) (rest := [.int r]) hC (kX9_tell l hC.2.2.2.2.2.2.1 hg) cw_L_169 (by decide) rfl dL_law_1401 rfl (Nat.le_of_ble_eq_true rfl) ?_
  exact l_cmp (pc := 1404) hC dL_law_1404 (by decide) (kk c1 m1 hR1)
theorem lc_37 {p : Program} {l : Launch} {e : Env} {s : State} {m : MethodId} {below : List Frame} {meth : Method} {c : Code} {b L : Nat} {xs : Nat → Int32} {G1 G2 : xG} {i : Int32} {σ1 σ2 : xS} {k : Nat} (hC : lC p s m meth c b L xs G1 G2) (hk : k + 6 ≤ L) (hi : i = nI k) (hR : Rel σ1 σ2) (kk : ∀ a b1, Rel a b1 → lw p l e s m below meth c b G1 G2 i 1468 [] a b1) : lw p l e s m below meth c b G1 G2 i 1409 [] σ1 σ2 := by
  obtain ⟨r, c1, m1, hf, hg, hR1⟩ := op_check  σ1 σ2 hR
  refine l_al1 (pc := 1409) hC dL_law_1409 ?_
  refine l_call1 (pc := 1410) (As := []) (rest := []) hC (kX8_check l hC.2.2.2.2.2.1 hf) cw_L_170 (by decide) rfl dL_law_1410 rfl (Nat.le_of_ble_eq_true rfl) ?_
  refine l_al2 (pc := 1413) hC dL_law_1413 ?_
  refine l_call2 (pc := 1414) (As := []) (rest := [.int r]) hC (kX9_check l hC.2.2.2.2.2.2.1 hg) cw_L_173 (by decide) rfl dL_law_1414 rfl (Nat.le_of_ble_eq_true rfl) ?_
  exact l_cmp (pc := 1417) hC dL_law_1417 (by decide) (kk c1 m1 hR1)
theorem lc_38 {p : Program} {l : Launch} {e : Env} {s : State} {m : MethodId} {below : List Frame} {meth : Method} {c : Code} {b L : Nat} {xs : Nat → Int32} {G1 G2 : xG} {i : Int32} {σ1 σ2 : xS} {k : Nat} (hC : lC p s m meth c b L xs G1 G2) (hk : k + 6 ≤ L) (hi : i = nI k) (hR : Rel σ1 σ2) (kk : ∀ a b1, Rel a b1 → lw p l e s m below meth c b G1 G2 i 1468 [] a b1) : lw p l e s m below meth c b G1 G2 i 1422 [] σ1 σ2 := by
  obtain ⟨r, c1, m1, hf, hg, hR1⟩ := op_count (xs (k + 1)) σ1 σ2 hR
  refine l_al1 (pc := 1422) hC dL_law_1422 ?_
  refine l_arg (pc := 1423) (j := 1) (n := 1428) hC hk hi (by decide) (by decide) rfl dL_law_1423 dL_law_1424 dL_law_1425 dL_law_1426 dL_law_1427 ?_
  refine l_call1 (pc := 1428) (As := [.int (xs (k + 1))]) (rest := []) hC (kX8_count l hC.2.2.2.2.2.1 hf) cw_L_174 (by decide) rfl dL_law_1428 rfl (Nat.le_of_ble_eq_true rfl) ?_
  refine l_al2 (pc := 1431) hC dL_law_1431 ?_
  refine l_arg (pc := 1432) (j := 1) (n := 1437) hC hk hi (by decide) (by decide) rfl dL_law_1432 dL_law_1433 dL_law_1434 dL_law_1435 dL_law_1436 ?_
  refine l_call2 (pc := 1437) (As := [.int (xs (k + 1))]) (rest := [.int r]) hC (kX9_count l hC.2.2.2.2.2.2.1 hg) cw_L_177 (by decide) rfl dL_law_1437 rfl (Nat.le_of_ble_eq_true rfl) ?_
  exact l_cmp (pc := 1440) hC dL_law_1440 (by decide) (kk c1 m1 hR1)
theorem lc_39 {p : Program} {l : Launch} {e : Env} {s : State} {m : MethodId} {below : List Frame} {meth : Method} {c : Code} {b L : Nat} {xs : Nat → Int32} {G1 G2 : xG} {i : Int32} {σ1 σ2 : xS} {k : Nat} (hC : lC p s m meth c b L xs G1 G2) (hk : k + 6 ≤ L) (hi : i = nI k) (hR : Rel σ1 σ2) (kk : ∀ a b1, Rel a b1 → lw p l e s m below meth c b G1 G2 i 1468 [] a b1) : lw p l e s m below meth c b G1 G2 i 1445 [] σ1 σ2 := by
  obtain ⟨r, c1, m1, hf, hg, hR1⟩ := op_told (xs (k + 1)) σ1 σ2 hR
  refine l_al1 (pc := 1445) hC dL_law_1445 ?_
  refine l_arg (pc := 1446) (j := 1) (n := 1451) hC hk hi (by decide) (by decide) rfl dL_law_1446 dL_law_1447 dL_law_1448 dL_law_1449 dL_law_1450 ?_
  refine l_call1 (pc := 1451) (As := [.int (xs (k + 1))]) (rest := []) hC (kX8_told l hC.2.2.2.2.2.1 hf) cw_L_178 (by decide) rfl dL_law_1451 rfl (Nat.le_of_ble_eq_true rfl) ?_
  refine l_al2 (pc := 1454) hC dL_law_1454 ?_
  refine l_arg (pc := 1455) (j := 1) (n := 1460) hC hk hi (by decide) (by decide) rfl dL_law_1455 dL_law_1456 dL_law_1457 dL_law_1458 dL_law_1459 ?_
  refine l_call2 (pc := 1460) (As := [.int (xs (k + 1))]) (rest := [.int r]) hC (kX9_told l hC.2.2.2.2.2.2.1 hg) cw_L_181 (by decide) rfl dL_law_1460 rfl (Nat.le_of_ble_eq_true rfl) ?_
  exact l_cmp (pc := 1463) hC dL_law_1463 (by decide) (kk c1 m1 hR1)
def lOffs : List Int := [175, 198, 241, 274, 307, 350, 383, 426, 459, 492, 555, 578, 631, 654, 677, 710, 753, 776, 809, 832, 865, 888, 911, 944, 967, 1000, 1043, 1066, 1109, 1132, 1175, 1218, 1281, 1304, 1327, 1340, 1353, 1376, 1389, 1412]
/-- where case j begins -/
def lTg (j : Nat) : Nat := (33 + lOffs.getD j 0).toNat
theorem lTg_ok : ∀ j, j < 40 → ((33 : Nat) : Int) + lOffs.getD j 0 = ((lTg j : Nat) : Int) := by decide
theorem lOffs_len : lOffs.length = 40 := rfl
theorem lc_all {p : Program} {l : Launch} {e : Env} {s : State} {m : MethodId} {below : List Frame} {meth : Method} {c : Code} {b L : Nat} {xs : Nat → Int32} {G1 G2 : xG} {i : Int32} {σ1 σ2 : xS} {k : Nat} (hC : lC p s m meth c b L xs G1 G2) (hk : k + 6 ≤ L) (hi : i = nI k) (hR : Rel σ1 σ2) (kk : ∀ a b1, Rel a b1 → lw p l e s m below meth c b G1 G2 i 1468 [] a b1) : ∀ j, j < 40 → lw p l e s m below meth c b G1 G2 i (lTg j) [] σ1 σ2
  | 0, _ => lc_0 hC hk hi hR kk
  | 1, _ => lc_1 hC hk hi hR kk
  | 2, _ => lc_2 hC hk hi hR kk
  | 3, _ => lc_3 hC hk hi hR kk
  | 4, _ => lc_4 hC hk hi hR kk
  | 5, _ => lc_5 hC hk hi hR kk
  | 6, _ => lc_6 hC hk hi hR kk
  | 7, _ => lc_7 hC hk hi hR kk
  | 8, _ => lc_8 hC hk hi hR kk
  | 9, _ => lc_9 hC hk hi hR kk
  | 10, _ => lc_10 hC hk hi hR kk
  | 11, _ => lc_11 hC hk hi hR kk
  | 12, _ => lc_12 hC hk hi hR kk
  | 13, _ => lc_13 hC hk hi hR kk
  | 14, _ => lc_14 hC hk hi hR kk
  | 15, _ => lc_15 hC hk hi hR kk
  | 16, _ => lc_16 hC hk hi hR kk
  | 17, _ => lc_17 hC hk hi hR kk
  | 18, _ => lc_18 hC hk hi hR kk
  | 19, _ => lc_19 hC hk hi hR kk
  | 20, _ => lc_20 hC hk hi hR kk
  | 21, _ => lc_21 hC hk hi hR kk
  | 22, _ => lc_22 hC hk hi hR kk
  | 23, _ => lc_23 hC hk hi hR kk
  | 24, _ => lc_24 hC hk hi hR kk
  | 25, _ => lc_25 hC hk hi hR kk
  | 26, _ => lc_26 hC hk hi hR kk
  | 27, _ => lc_27 hC hk hi hR kk
  | 28, _ => lc_28 hC hk hi hR kk
  | 29, _ => lc_29 hC hk hi hR kk
  | 30, _ => lc_30 hC hk hi hR kk
  | 31, _ => lc_31 hC hk hi hR kk
  | 32, _ => lc_32 hC hk hi hR kk
  | 33, _ => lc_33 hC hk hi hR kk
  | 34, _ => lc_34 hC hk hi hR kk
  | 35, _ => lc_35 hC hk hi hR kk
  | 36, _ => lc_36 hC hk hi hR kk
  | 37, _ => lc_37 hC hk hi hR kk
  | 38, _ => lc_38 hC hk hi hR kk
  | 39, _ => lc_39 hC hk hi hR kk
  | j + 40, h => absurd h (by omega)
