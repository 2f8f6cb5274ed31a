theorem uc0 {w : Cond} (i : Nat) (h0 : tables_1_1[i]? = some w) (g : goodWord w = true) : w ∈ uw := by
  have h := List.mem_of_getElem? h0
  exact List.mem_append_right _ (List.mem_filter.mpr ⟨List.mem_append_right _ (List.mem_append_left _ h), g⟩)
theorem un0 {w : Cond} (i : Nat) (h0 : tables_1_1[i]? = some w) (g : zIsNw w = true) : w ∈ zNw := by
  have h := List.mem_of_getElem? h0
  exact List.mem_filter.mpr ⟨List.mem_append_right _ (List.mem_append_left _ h), g⟩
theorem uc1 {w : Cond} (i : Nat) (h0 : tables_1_2[i]? = some w) (g : goodWord w = true) : w ∈ uw := by
  have h := List.mem_of_getElem? h0
  exact List.mem_append_right _ (List.mem_filter.mpr ⟨List.mem_append_right _ (List.mem_append_right _ (List.mem_append_left _ h)), g⟩)
theorem un1 {w : Cond} (i : Nat) (h0 : tables_1_2[i]? = some w) (g : zIsNw w = true) : w ∈ zNw := by
  have h := List.mem_of_getElem? h0
  exact List.mem_filter.mpr ⟨List.mem_append_right _ (List.mem_append_right _ (List.mem_append_left _ h)), g⟩
theorem uc2 {w : Cond} (i : Nat) (h0 : tables_1_3[i]? = some w) (g : goodWord w = true) : w ∈ uw := by
  have h := List.mem_of_getElem? h0
  exact List.mem_append_right _ (List.mem_filter.mpr ⟨List.mem_append_right _ (List.mem_append_right _ (List.mem_append_right _ (List.mem_append_left _ h))), g⟩)
theorem un2 {w : Cond} (i : Nat) (h0 : tables_1_3[i]? = some w) (g : zIsNw w = true) : w ∈ zNw := by
  have h := List.mem_of_getElem? h0
  exact List.mem_filter.mpr ⟨List.mem_append_right _ (List.mem_append_right _ (List.mem_append_right _ (List.mem_append_left _ h))), g⟩
theorem uc3 {w : Cond} (i : Nat) (h0 : tables_1_4[i]? = some w) (g : goodWord w = true) : w ∈ uw := by
  have h := List.mem_of_getElem? h0
  exact List.mem_append_right _ (List.mem_filter.mpr ⟨List.mem_append_right _ (List.mem_append_right _ (List.mem_append_right _ (List.mem_append_right _ (List.mem_append_left _ h)))), g⟩)
theorem un3 {w : Cond} (i : Nat) (h0 : tables_1_4[i]? = some w) (g : zIsNw w = true) : w ∈ zNw := by
  have h := List.mem_of_getElem? h0
  exact List.mem_filter.mpr ⟨List.mem_append_right _ (List.mem_append_right _ (List.mem_append_right _ (List.mem_append_right _ (List.mem_append_left _ h)))), g⟩
theorem uc4 {w : Cond} (i : Nat) (h0 : tables_1_5[i]? = some w) (g : goodWord w = true) : w ∈ uw := by
  have h := List.mem_of_getElem? h0
  exact List.mem_append_right _ (List.mem_filter.mpr ⟨List.mem_append_right _ (List.mem_append_right _ (List.mem_append_right _ (List.mem_append_right _ (List.mem_append_right _ (List.mem_append_left _ h))))), g⟩)
theorem un4 {w : Cond} (i : Nat) (h0 : tables_1_5[i]? = some w) (g : zIsNw w = true) : w ∈ zNw := by
  have h := List.mem_of_getElem? h0
  exact List.mem_filter.mpr ⟨List.mem_append_right _ (List.mem_append_right _ (List.mem_append_right _ (List.mem_append_right _ (List.mem_append_right _ (List.mem_append_left _ h))))), g⟩
theorem uc5 {w : Cond} (i : Nat) (h0 : tables_1_6[i]? = some w) (g : goodWord w = true) : w ∈ uw := by
  have h := List.mem_of_getElem? h0
  exact List.mem_append_right _ (List.mem_filter.mpr ⟨List.mem_append_right _ (List.mem_append_right _ (List.mem_append_right _ (List.mem_append_right _ (List.mem_append_right _ (List.mem_append_right _ (List.mem_append_left _ h)))))), g⟩)
theorem un5 {w : Cond} (i : Nat) (h0 : tables_1_6[i]? = some w) (g : zIsNw w = true) : w ∈ zNw := by
  have h := List.mem_of_getElem? h0
  exact List.mem_filter.mpr ⟨List.mem_append_right _ (List.mem_append_right _ (List.mem_append_right _ (List.mem_append_right _ (List.mem_append_right _ (List.mem_append_right _ (List.mem_append_left _ h)))))), g⟩
theorem uc6 {w : Cond} (i : Nat) (h0 : tables_1_7[i]? = some w) (g : goodWord w = true) : w ∈ uw := by
  have h := List.mem_of_getElem? h0
  exact List.mem_append_right _ (List.mem_filter.mpr ⟨List.mem_append_right _ (List.mem_append_right _ (List.mem_append_right _ (List.mem_append_right _ (List.mem_append_right _ (List.mem_append_right _ (List.mem_append_right _ (List.mem_append_left _ h))))))), g⟩)
theorem un6 {w : Cond} (i : Nat) (h0 : tables_1_7[i]? = some w) (g : zIsNw w = true) : w ∈ zNw := by
  have h := List.mem_of_getElem? h0
  exact List.mem_filter.mpr ⟨List.mem_append_right _ (List.mem_append_right _ (List.mem_append_right _ (List.mem_append_right _ (List.mem_append_right _ (List.mem_append_right _ (List.mem_append_right _ (List.mem_append_left _ h))))))), g⟩
theorem uc7 {w : Cond} (i : Nat) (h0 : tables_1_8[i]? = some w) (g : goodWord w = true) : w ∈ uw := by
  have h := List.mem_of_getElem? h0
  exact List.mem_append_right _ (List.mem_filter.mpr ⟨List.mem_append_right _ (List.mem_append_right _ (List.mem_append_right _ (List.mem_append_right _ (List.mem_append_right _ (List.mem_append_right _ (List.mem_append_right _ (List.mem_append_right _ (List.mem_append_left _ h)))))))), g⟩)
theorem un7 {w : Cond} (i : Nat) (h0 : tables_1_8[i]? = some w) (g : zIsNw w = true) : w ∈ zNw := by
  have h := List.mem_of_getElem? h0
  exact List.mem_filter.mpr ⟨List.mem_append_right _ (List.mem_append_right _ (List.mem_append_right _ (List.mem_append_right _ (List.mem_append_right _ (List.mem_append_right _ (List.mem_append_right _ (List.mem_append_right _ (List.mem_append_left _ h)))))))), g⟩
theorem uc8 {w : Cond} (i : Nat) (h0 : tables_1_9[i]? = some w) (g : goodWord w = true) : w ∈ uw := by
  have h := List.mem_of_getElem? h0
  exact List.mem_append_right _ (List.mem_filter.mpr ⟨List.mem_append_right _ (List.mem_append_right _ (List.mem_append_right _ (List.mem_append_right _ (List.mem_append_right _ (List.mem_append_right _ (List.mem_append_right _ (List.mem_append_right _ (List.mem_append_right _ (h))))))))), g⟩)
theorem un8 {w : Cond} (i : Nat) (h0 : tables_1_9[i]? = some w) (g : zIsNw w = true) : w ∈ zNw := by
  have h := List.mem_of_getElem? h0
  exact List.mem_filter.mpr ⟨List.mem_append_right _ (List.mem_append_right _ (List.mem_append_right _ (List.mem_append_right _ (List.mem_append_right _ (List.mem_append_right _ (List.mem_append_right _ (List.mem_append_right _ (List.mem_append_right _ (h))))))))), g⟩
theorem u0 : Cond.selects RX2 yX2_takesAhead yX2_takesAhead ∈ uw := uw_at 0 (by decide +kernel) rfl
theorem u1 : Cond.selects RX2 yX2_isThing yX2_isThing ∈ uw := uw_at 1 (by decide +kernel) rfl
theorem u10 : Cond.selects RX2 yX2_here yX2_here ∈ uw := uw_at 10 (by decide +kernel) rfl
set_option maxRecDepth 20000 in
theorem u100 : Cond.initialized "java/lang/Math" ∈ uw := uc0 14 rfl rfl
set_option maxRecDepth 20000 in
theorem u1000 : Cond.code yX0_kindOf cX0_kindOf 2 (some .int) ∈ uw := uc3 194 rfl rfl
set_option maxRecDepth 20000 in
theorem u1001 : Cond.methodLink RX0 162 yX0_lowerOf ∈ uw := uc3 195 rfl rfl
set_option maxRecDepth 20000 in
theorem u1003 : Cond.instanceMethod yX0_lowerOf ∈ uw := uc3 197 rfl rfl
set_option maxRecDepth 20000 in
theorem u1004 : Cond.code yX0_lowerOf cX0_lowerOf 2 (some .long) ∈ uw := uc3 198 rfl rfl
set_option maxRecDepth 20000 in
theorem u1005 : Cond.methodLink RX0 166 yX0_spread ∈ uw := uc3 199 rfl rfl
set_option maxRecDepth 20000 in
theorem u1007 : Cond.instanceMethod yX0_spread ∈ uw := uc3 201 rfl rfl
set_option maxRecDepth 20000 in
theorem u1008 : Cond.code yX0_spread cX0_spread 4 (some .long) ∈ uw := uc3 202 rfl rfl
set_option maxRecDepth 20000 in
theorem u1009 : Cond.methodLink RX0 170 yX0_thousandths ∈ uw := uc3 203 rfl rfl
set_option maxRecDepth 20000 in
theorem u101 : Cond.initialized RJ0 ∈ uw := uc0 15 rfl rfl
set_option maxRecDepth 20000 in
theorem u1010 : Cond.static yX0_thousandths ∈ uw := uc3 204 rfl rfl
set_option maxRecDepth 20000 in
theorem u1011 : Cond.code yX0_thousandths cX0_thousandths 16 (some .long) ∈ uw := uc3 205 rfl rfl
set_option maxRecDepth 20000 in
theorem u1012 : Cond.methodLink RX0 174 Lib.MathLoose.abs_long.x ∈ uw := uc3 206 rfl rfl
set_option maxRecDepth 20000 in
theorem u1013 : Cond.constantLong RX0 177 1000 ∈ uw := uc3 207 rfl rfl
set_option maxRecDepth 20000 in
theorem u1014 : Cond.methodLink "BinsThatTellLaw" 110 yX11_slope ∈ uw := uc3 208 rfl rfl
set_option maxRecDepth 20000 in
theorem u1015 : Cond.instanceMethod yX11_slope ∈ uw := uc3 209 rfl rfl
set_option maxRecDepth 20000 in
theorem u1016 : Cond.selects RX11 yX11_slope yX11_slope ∈ uw := uc3 210 rfl rfl
set_option maxRecDepth 20000 in
theorem u1017 : Cond.code yX11_slope cX11_slope 3 (some .int) ∈ uw := uc3 211 rfl rfl
set_option maxRecDepth 20000 in
theorem u1018 : Cond.methodLink RX11 167 yX0_saidByShop ∈ uw := uc3 212 rfl rfl
set_option maxRecDepth 20000 in
theorem u1019 : Cond.instanceMethod yX0_saidByShop ∈ uw := uc3 213 rfl rfl
set_option maxRecDepth 20000 in
theorem u102 : Cond.initialized RJ1 ∈ uw := uc0 16 rfl rfl
set_option maxRecDepth 20000 in
theorem u1020 : Cond.selects RX0 yX0_saidByShop yX0_saidByShop ∈ uw := uc3 214 rfl rfl
set_option maxRecDepth 20000 in
theorem u1021 : Cond.code yX0_saidByShop cX0_saidByShop 3 (some .int) ∈ uw := uc3 215 rfl rfl
set_option maxRecDepth 20000 in
theorem u1022 : Cond.methodLink "BinsThatTellLaw" 114 yX11_others ∈ uw := uc3 216 rfl rfl
set_option maxRecDepth 20000 in
theorem u1023 : Cond.instanceMethod yX11_others ∈ uw := uc3 217 rfl rfl
set_option maxRecDepth 20000 in
theorem u1024 : Cond.selects RX11 yX11_others yX11_others ∈ uw := uc3 218 rfl rfl
set_option maxRecDepth 20000 in
theorem u1025 : Cond.code yX11_others cX11_others 3 (some .int) ∈ uw := uc3 219 rfl rfl
set_option maxRecDepth 20000 in
theorem u1026 : Cond.methodLink RX11 170 yX0_nearerNeighbours ∈ uw := uc3 220 rfl rfl
set_option maxRecDepth 20000 in
theorem u1027 : Cond.instanceMethod yX0_nearerNeighbours ∈ uw := uc3 221 rfl rfl
set_option maxRecDepth 20000 in
theorem u1028 : Cond.selects RX0 yX0_nearerNeighbours yX0_nearerNeighbours ∈ uw := uc3 222 rfl rfl
set_option maxRecDepth 20000 in
theorem u1029 : Cond.code yX0_nearerNeighbours cX0_nearerNeighbours 12 (some .int) ∈ uw := uc3 223 rfl rfl
set_option maxRecDepth 20000 in
theorem u1030 : Cond.methodLink RX0 179 yX0_hasNeighbours ∈ uw := uc3 224 rfl rfl
set_option maxRecDepth 20000 in
theorem u1032 : Cond.instanceMethod yX0_hasNeighbours ∈ uw := uc3 226 rfl rfl
set_option maxRecDepth 20000 in
theorem u1033 : Cond.code yX0_hasNeighbours cX0_hasNeighbours 4 (some .boolean) ∈ uw := uc3 227 rfl rfl
set_option maxRecDepth 20000 in
theorem u1034 : Cond.methodLink RX0 182 Lib.Math.min.name ∈ uw := uc3 228 rfl rfl
set_option maxRecDepth 20000 in
theorem u1035 : Cond.methodLink "BinsThatTellLaw" 118 yX11_worth ∈ uw := uc3 229 rfl rfl
set_option maxRecDepth 20000 in
theorem u1036 : Cond.instanceMethod yX11_worth ∈ uw := uc3 230 rfl rfl
set_option maxRecDepth 20000 in
theorem u1037 : Cond.selects RX11 yX11_worth yX11_worth ∈ uw := uc3 231 rfl rfl
set_option maxRecDepth 20000 in
theorem u1038 : Cond.code yX11_worth cX11_worth 3 (some .int) ∈ uw := uc3 232 rfl rfl
set_option maxRecDepth 20000 in
theorem u1039 : Cond.methodLink RX11 173 yX0_bestShare ∈ uw := uc3 233 rfl rfl
set_option maxRecDepth 20000 in
theorem u104 : Cond.initialized RJ3 ∈ uw := uc0 18 rfl rfl
set_option maxRecDepth 20000 in
theorem u1040 : Cond.instanceMethod yX0_bestShare ∈ uw := uc3 234 rfl rfl
set_option maxRecDepth 20000 in
theorem u1041 : Cond.selects RX0 yX0_bestShare yX0_bestShare ∈ uw := uc3 235 rfl rfl
set_option maxRecDepth 20000 in
theorem u1042 : Cond.code yX0_bestShare cX0_bestShare 17 (some .int) ∈ uw := uc3 236 rfl rfl
set_option maxRecDepth 20000 in
theorem u1043 : Cond.methodLink RX0 185 yX0_leastShare ∈ uw := uc3 237 rfl rfl
set_option maxRecDepth 20000 in
theorem u1045 : Cond.instanceMethod yX0_leastShare ∈ uw := uc3 239 rfl rfl
set_option maxRecDepth 20000 in
theorem u1046 : Cond.code yX0_leastShare cX0_leastShare 13 (some .int) ∈ uw := uc4 0 rfl rfl
set_option maxRecDepth 20000 in
theorem u1047 : Cond.constantLong RX0 189 2 ∈ uw := uc4 1 rfl rfl
set_option maxRecDepth 20000 in
theorem u1048 : Cond.methodLink "BinsThatTellLaw" 122 yX11_waste ∈ uw := uc4 2 rfl rfl
set_option maxRecDepth 20000 in
theorem u1049 : Cond.instanceMethod yX11_waste ∈ uw := uc4 3 rfl rfl
set_option maxRecDepth 20000 in
theorem u1050 : Cond.selects RX11 yX11_waste yX11_waste ∈ uw := uc4 4 rfl rfl
set_option maxRecDepth 20000 in
theorem u1051 : Cond.code yX11_waste cX11_waste 2 (some .int) ∈ uw := uc4 5 rfl rfl
set_option maxRecDepth 20000 in
theorem u1052 : Cond.methodLink RX11 176 yX8_wasteInLack ∈ uw := uc4 6 rfl rfl
set_option maxRecDepth 20000 in
theorem u1053 : Cond.instanceMethod yX8_wasteInLack ∈ uw := uc4 7 rfl rfl
set_option maxRecDepth 20000 in
theorem u1054 : Cond.selects RX8 yX8_wasteInLack yX8_wasteInLack ∈ uw := uc4 8 rfl rfl
set_option maxRecDepth 20000 in
theorem u1055 : Cond.code yX8_wasteInLack cX8_wasteInLack 3 (some .int) ∈ uw := uc4 9 rfl rfl
set_option maxRecDepth 20000 in
theorem u1056 : Cond.methodLink RX8 56 yX10_hasSort ∈ uw := uc4 10 rfl rfl
set_option maxRecDepth 20000 in
theorem u1057 : Cond.methodLink RX8 62 yX8_measureWaste ∈ uw := uc4 11 rfl rfl
set_option maxRecDepth 20000 in
theorem u1059 : Cond.instanceMethod yX8_measureWaste ∈ uw := uc4 13 rfl rfl
set_option maxRecDepth 20000 in
theorem u106 : Cond.initialized RJ13 ∈ uw := uc0 20 rfl rfl
set_option maxRecDepth 20000 in
theorem u1060 : Cond.code yX8_measureWaste cX8_measureWaste 5 none ∈ uw := uc4 14 rfl rfl
set_option maxRecDepth 20000 in
theorem u1061 : Cond.methodLink RX8 80 yX8_clearThings ∈ uw := uc4 15 rfl rfl
set_option maxRecDepth 20000 in
theorem u1063 : Cond.instanceMethod yX8_clearThings ∈ uw := uc4 17 rfl rfl
set_option maxRecDepth 20000 in
theorem u1064 : Cond.code yX8_clearThings cX8_clearThings 3 none ∈ uw := uc4 18 rfl rfl
set_option maxRecDepth 20000 in
theorem u1065 : Cond.methodLink RX8 83 yX10_cellCount ∈ uw := uc4 19 rfl rfl
set_option maxRecDepth 20000 in
theorem u1066 : Cond.methodLink RX8 87 yX4_has ∈ uw := uc4 20 rfl rfl
set_option maxRecDepth 20000 in
theorem u1067 : Cond.methodLink RX8 93 yX4_of ∈ uw := uc4 21 rfl rfl
set_option maxRecDepth 20000 in
theorem u1068 : Cond.methodLink RX8 97 yX10_leavesOf ∈ uw := uc4 22 rfl rfl
set_option maxRecDepth 20000 in
theorem u1069 : Cond.methodLink RX8 100 yX10_isLack ∈ uw := uc4 23 rfl rfl
set_option maxRecDepth 20000 in
theorem u107 : Cond.initialized RJ6 ∈ uw := uc0 21 rfl rfl
set_option maxRecDepth 20000 in
theorem u1070 : Cond.methodLink RX8 104 yX8_addTo ∈ uw := uc4 24 rfl rfl
set_option maxRecDepth 20000 in
theorem u1072 : Cond.instanceMethod yX8_addTo ∈ uw := uc4 26 rfl rfl
set_option maxRecDepth 20000 in
theorem u1073 : Cond.code yX8_addTo cX8_addTo 4 none ∈ uw := uc4 27 rfl rfl
set_option maxRecDepth 20000 in
theorem u1074 : Cond.methodLink RX8 66 yX5_clear ∈ uw := uc4 28 rfl rfl
set_option maxRecDepth 20000 in
theorem u1075 : Cond.methodLink RX8 72 yX5_addFraction ∈ uw := uc4 29 rfl rfl
set_option maxRecDepth 20000 in
theorem u1076 : Cond.methodLink RX8 76 yX8_compareThings ∈ uw := uc4 30 rfl rfl
set_option maxRecDepth 20000 in
theorem u1078 : Cond.instanceMethod yX8_compareThings ∈ uw := uc4 32 rfl rfl
set_option maxRecDepth 20000 in
theorem u1079 : Cond.code yX8_compareThings cX8_compareThings 4 (some .int) ∈ uw := uc4 33 rfl rfl
set_option maxRecDepth 20000 in
theorem u108 : Cond.initialized RJ7 ∈ uw := uc0 22 rfl rfl
set_option maxRecDepth 20000 in
theorem u1080 : Cond.methodLink RX8 108 yX8_isHad ∈ uw := uc4 34 rfl rfl
set_option maxRecDepth 20000 in
theorem u1082 : Cond.instanceMethod yX8_isHad ∈ uw := uc4 36 rfl rfl
set_option maxRecDepth 20000 in
theorem u1083 : Cond.code yX8_isHad cX8_isHad 2 (some .boolean) ∈ uw := uc4 37 rfl rfl
set_option maxRecDepth 20000 in
theorem u1084 : Cond.methodLinkNest RX8 111 yX11_compareFractions RX11 ∈ zNw := un4 38 rfl rfl
set_option maxRecDepth 20000 in
theorem u1085 : Cond.methodLink "BinsThatTellLaw" 126 yX11_story ∈ uw := uc4 39 rfl rfl
set_option maxRecDepth 20000 in
theorem u1086 : Cond.instanceMethod yX11_story ∈ uw := uc4 40 rfl rfl
set_option maxRecDepth 20000 in
theorem u1087 : Cond.selects RX11 yX11_story yX11_story ∈ uw := uc4 41 rfl rfl
set_option maxRecDepth 20000 in
theorem u1088 : Cond.code yX11_story cX11_story 2 (some .int) ∈ uw := uc4 42 rfl rfl
set_option maxRecDepth 20000 in
theorem u1089 : Cond.methodLink RX11 179 yX8_isFull ∈ uw := uc4 43 rfl rfl
set_option maxRecDepth 20000 in
theorem u1090 : Cond.instanceMethod yX8_isFull ∈ uw := uc4 44 rfl rfl
set_option maxRecDepth 20000 in
theorem u1091 : Cond.selects RX8 yX8_isFull yX8_isFull ∈ uw := uc4 45 rfl rfl
set_option maxRecDepth 20000 in
theorem u1092 : Cond.code yX8_isFull cX8_isFull 1 (some .boolean) ∈ uw := uc4 46 rfl rfl
set_option maxRecDepth 20000 in
theorem u1093 : Cond.methodLink RX11 183 yX8_listen ∈ uw := uc4 47 rfl rfl
set_option maxRecDepth 20000 in
theorem u1094 : Cond.instanceMethod yX8_listen ∈ uw := uc4 48 rfl rfl
set_option maxRecDepth 20000 in
theorem u1095 : Cond.selects RX8 yX8_listen yX8_listen ∈ uw := uc4 49 rfl rfl
set_option maxRecDepth 20000 in
theorem u1096 : Cond.code yX8_listen cX8_listen 3 (some .int) ∈ uw := uc4 50 rfl rfl
set_option maxRecDepth 20000 in
theorem u1097 : Cond.methodLink RX8 38 ⟨"BinsThatTell$Stories", "write", "(ILBinsThatTell$Text;)I"⟩ ∈ uw := uc4 51 rfl rfl
set_option maxRecDepth 20000 in
theorem u1098 : Cond.sameMethod RX8 RX1 "write" "(ILBinsThatTell$Text;)I" ∈ uw := uc4 52 rfl rfl
set_option maxRecDepth 20000 in
theorem u1099 : Cond.selects RX8 ⟨RX8, "write", "(ILBinsThatTell$Text;)I"⟩ yX1_write ∈ uw := uc4 53 rfl rfl
theorem u11 : Cond.selects RX2 yX2_bareThing yX2_bareThing ∈ uw := uw_at 11 (by decide +kernel) rfl
set_option maxRecDepth 20000 in
theorem u1100 : Cond.methodLink "BinsThatTellLaw" 131 yX11_holds ∈ uw := uc4 54 rfl rfl
set_option maxRecDepth 20000 in
theorem u1101 : Cond.instanceMethod yX11_holds ∈ uw := uc4 55 rfl rfl
set_option maxRecDepth 20000 in
theorem u1102 : Cond.selects RX11 yX11_holds yX11_holds ∈ uw := uc4 56 rfl rfl
set_option maxRecDepth 20000 in
theorem u1103 : Cond.code yX11_holds cX11_holds 2 (some .int) ∈ uw := uc4 57 rfl rfl
set_option maxRecDepth 20000 in
theorem u1104 : Cond.methodLink RX11 187 yX8_standing ∈ uw := uc4 58 rfl rfl
set_option maxRecDepth 20000 in
theorem u1105 : Cond.instanceMethod yX8_standing ∈ uw := uc4 59 rfl rfl
set_option maxRecDepth 20000 in
theorem u1106 : Cond.selects RX8 yX8_standing yX8_standing ∈ uw := uc4 60 rfl rfl
set_option maxRecDepth 20000 in
theorem u1107 : Cond.code yX8_standing cX8_standing 4 (some .int) ∈ uw := uc4 61 rfl rfl
set_option maxRecDepth 20000 in
theorem u1108 : Cond.methodLink RX8 130 yX8_judge ∈ uw := uc4 62 rfl rfl
set_option maxRecDepth 20000 in
theorem u1110 : Cond.instanceMethod yX8_judge ∈ uw := uc4 64 rfl rfl
set_option maxRecDepth 20000 in
theorem u1111 : Cond.code yX8_judge cX8_judge 4 (some .int) ∈ uw := uc4 65 rfl rfl
set_option maxRecDepth 20000 in
theorem u1112 : Cond.methodLink RX8 115 yX8_measureMeans ∈ uw := uc4 66 rfl rfl
set_option maxRecDepth 20000 in
theorem u1114 : Cond.instanceMethod yX8_measureMeans ∈ uw := uc4 68 rfl rfl
set_option maxRecDepth 20000 in
theorem u1115 : Cond.code yX8_measureMeans cX8_measureMeans 5 none ∈ uw := uc4 69 rfl rfl
set_option maxRecDepth 20000 in
theorem u1116 : Cond.methodLink RX8 118 yX8_failingOf ∈ uw := uc4 70 rfl rfl
set_option maxRecDepth 20000 in
theorem u1118 : Cond.instanceMethod yX8_failingOf ∈ uw := uc4 72 rfl rfl
set_option maxRecDepth 20000 in
theorem u1119 : Cond.code yX8_failingOf cX8_failingOf 4 (some .int) ∈ uw := uc4 73 rfl rfl
set_option maxRecDepth 20000 in
theorem u1120 : Cond.methodLink RX8 121 ⟨"BinsThatTell$Stories", "sizeOf", "(I)I"⟩ ∈ uw := uc4 74 rfl rfl
set_option maxRecDepth 20000 in
theorem u1121 : Cond.sameMethod RX8 RX1 "sizeOf" "(I)I" ∈ uw := uc4 75 rfl rfl
set_option maxRecDepth 20000 in
theorem u1122 : Cond.selects RX8 ⟨RX8, "sizeOf", "(I)I"⟩ yX1_sizeOf ∈ uw := uc4 76 rfl rfl
set_option maxRecDepth 20000 in
theorem u1123 : Cond.methodLink RX8 124 ⟨"BinsThatTell$Stories", "signAt", "(II)I"⟩ ∈ uw := uc4 77 rfl rfl
set_option maxRecDepth 20000 in
theorem u1124 : Cond.sameMethod RX8 RX1 "signAt" "(II)I" ∈ uw := uc4 78 rfl rfl
set_option maxRecDepth 20000 in
theorem u1125 : Cond.selects RX8 ⟨RX8, "signAt", "(II)I"⟩ yX1_signAt ∈ uw := uc4 79 rfl rfl
set_option maxRecDepth 20000 in
theorem u1126 : Cond.methodLink RX8 127 yX8_isSo ∈ uw := uc4 80 rfl rfl
set_option maxRecDepth 20000 in
theorem u1128 : Cond.instanceMethod yX8_isSo ∈ uw := uc4 82 rfl rfl
set_option maxRecDepth 20000 in
theorem u1129 : Cond.code yX8_isSo cX8_isSo 5 (some .boolean) ∈ uw := uc4 83 rfl rfl
set_option maxRecDepth 20000 in
theorem u113 : Cond.initialized "java/lang/System" ∈ uw := uc0 27 rfl rfl
set_option maxRecDepth 20000 in
theorem u1130 : Cond.methodLink RX8 133 yX5_add ∈ uw := uc4 84 rfl rfl
set_option maxRecDepth 20000 in
theorem u1131 : Cond.methodLink "BinsThatTellLaw" 135 yX11_parts ∈ uw := uc4 85 rfl rfl
set_option maxRecDepth 20000 in
theorem u1132 : Cond.instanceMethod yX11_parts ∈ uw := uc4 86 rfl rfl
set_option maxRecDepth 20000 in
theorem u1133 : Cond.selects RX11 yX11_parts yX11_parts ∈ uw := uc4 87 rfl rfl
set_option maxRecDepth 20000 in
theorem u1134 : Cond.code yX11_parts cX11_parts 1 (some .int) ∈ uw := uc4 88 rfl rfl
set_option maxRecDepth 20000 in
theorem u1135 : Cond.methodLink RX11 190 yX8_partingSort ∈ uw := uc4 89 rfl rfl
set_option maxRecDepth 20000 in
theorem u1136 : Cond.instanceMethod yX8_partingSort ∈ uw := uc4 90 rfl rfl
set_option maxRecDepth 20000 in
theorem u1137 : Cond.selects RX8 yX8_partingSort yX8_partingSort ∈ uw := uc4 91 rfl rfl
set_option maxRecDepth 20000 in
theorem u1138 : Cond.code yX8_partingSort cX8_partingSort 5 (some .int) ∈ uw := uc4 92 rfl rfl
set_option maxRecDepth 20000 in
theorem u1139 : Cond.methodLink RX8 137 yX10_sortCount ∈ uw := uc4 93 rfl rfl
set_option maxRecDepth 20000 in
theorem u1140 : Cond.methodLink RX8 140 yJ6_bitCount_0f7a4 ∈ uw := uc4 94 rfl rfl
set_option maxRecDepth 20000 in
theorem u1141 : Cond.static yJ6_bitCount_0f7a4 ∈ uw := uc4 95 rfl rfl
set_option maxRecDepth 20000 in
theorem u1142 : Cond.code yJ6_bitCount_0f7a4 cJ6_bitCount_0f7a4 1 (some .int) ∈ uw := uc4 96 rfl rfl
set_option maxRecDepth 20000 in
theorem u1143 : Cond.constant RJ6 265 1431655765 ∈ uw := uc4 97 rfl rfl
set_option maxRecDepth 20000 in
theorem u1144 : Cond.constant RJ6 266 858993459 ∈ uw := uc4 98 rfl rfl
set_option maxRecDepth 20000 in
theorem u1145 : Cond.constant RJ6 267 252645135 ∈ uw := uc4 99 rfl rfl
set_option maxRecDepth 20000 in
theorem u1146 : Cond.methodLink "BinsThatTellLaw" 139 yX11_twice ∈ uw := uc4 100 rfl rfl
set_option maxRecDepth 20000 in
theorem u1147 : Cond.instanceMethod yX11_twice ∈ uw := uc4 101 rfl rfl
set_option maxRecDepth 20000 in
theorem u1148 : Cond.selects RX11 yX11_twice yX11_twice ∈ uw := uc4 102 rfl rfl
set_option maxRecDepth 20000 in
theorem u1149 : Cond.code yX11_twice cX11_twice 4 (some .int) ∈ uw := uc4 103 rfl rfl
set_option maxRecDepth 20000 in
theorem u1150 : Cond.methodLink RX11 194 yX7_add ∈ uw := uc4 104 rfl rfl
set_option maxRecDepth 20000 in
theorem u1151 : Cond.instanceMethod yX7_add ∈ uw := uc4 105 rfl rfl
set_option maxRecDepth 20000 in
theorem u1152 : Cond.selects RX7 yX7_add yX7_add ∈ uw := uc4 106 rfl rfl
set_option maxRecDepth 20000 in
theorem u1153 : Cond.code yX7_add cX7_add 4 (some .int) ∈ uw := uc4 107 rfl rfl
set_option maxRecDepth 20000 in
theorem u1154 : Cond.methodLink RX7 31 yX10_hasSort ∈ uw := uc4 108 rfl rfl
set_option maxRecDepth 20000 in
theorem u1155 : Cond.methodLinkNest RX7 37 yX11_between RX11 ∈ zNw := un4 109 rfl rfl
set_option maxRecDepth 20000 in
theorem u1156 : Cond.methodLink "BinsThatTellLaw" 143 yX11_alike ∈ uw := uc4 110 rfl rfl
set_option maxRecDepth 20000 in
theorem u1157 : Cond.instanceMethod yX11_alike ∈ uw := uc4 111 rfl rfl
set_option maxRecDepth 20000 in
theorem u1158 : Cond.selects RX11 yX11_alike yX11_alike ∈ uw := uc4 112 rfl rfl
set_option maxRecDepth 20000 in
theorem u1159 : Cond.code yX11_alike cX11_alike 1 (some .int) ∈ uw := uc4 113 rfl rfl
set_option maxRecDepth 20000 in
theorem u1160 : Cond.methodLink RX11 197 yX7_agreed ∈ uw := uc4 114 rfl rfl
set_option maxRecDepth 20000 in
theorem u1161 : Cond.instanceMethod yX7_agreed ∈ uw := uc4 115 rfl rfl
set_option maxRecDepth 20000 in
theorem u1162 : Cond.selects RX7 yX7_agreed yX7_agreed ∈ uw := uc4 116 rfl rfl
set_option maxRecDepth 20000 in
theorem u1163 : Cond.code yX7_agreed cX7_agreed 6 (some .int) ∈ uw := uc4 117 rfl rfl
set_option maxRecDepth 20000 in
theorem u1164 : Cond.methodLink RX7 41 yX10_sortCount ∈ uw := uc4 118 rfl rfl
set_option maxRecDepth 20000 in
theorem u1165 : Cond.methodLink RX7 45 yX7_takenAs ∈ uw := uc4 119 rfl rfl
set_option maxRecDepth 20000 in
theorem u1167 : Cond.instanceMethod yX7_takenAs ∈ uw := uc4 121 rfl rfl
set_option maxRecDepth 20000 in
theorem u1168 : Cond.code yX7_takenAs cX7_takenAs 3 (some .int) ∈ uw := uc4 122 rfl rfl
set_option maxRecDepth 20000 in
theorem u1169 : Cond.methodLink RX7 49 yX7_takenByFirst ∈ uw := uc4 123 rfl rfl
set_option maxRecDepth 20000 in
theorem u1171 : Cond.instanceMethod yX7_takenByFirst ∈ uw := uc4 125 rfl rfl
set_option maxRecDepth 20000 in
theorem u1172 : Cond.code yX7_takenByFirst cX7_takenByFirst 4 (some .int) ∈ uw := uc4 126 rfl rfl
set_option maxRecDepth 20000 in
theorem u1173 : Cond.methodLink RX7 53 yX7_takenBySecond ∈ uw := uc4 127 rfl rfl
set_option maxRecDepth 20000 in
theorem u1175 : Cond.instanceMethod yX7_takenBySecond ∈ uw := uc4 129 rfl rfl
set_option maxRecDepth 20000 in
theorem u1176 : Cond.code yX7_takenBySecond cX7_takenBySecond 4 (some .int) ∈ uw := uc4 130 rfl rfl
set_option maxRecDepth 20000 in
theorem u1177 : Cond.methodLink RX7 56 yX5_clear ∈ uw := uc4 131 rfl rfl
set_option maxRecDepth 20000 in
theorem u1178 : Cond.methodLink RX7 62 yX5_addFraction ∈ uw := uc4 132 rfl rfl
set_option maxRecDepth 20000 in
theorem u1179 : Cond.methodLink "BinsThatTellLaw" 147 yX11_mixed ∈ uw := uc4 133 rfl rfl
set_option maxRecDepth 20000 in
theorem u1180 : Cond.instanceMethod yX11_mixed ∈ uw := uc4 134 rfl rfl
set_option maxRecDepth 20000 in
theorem u1181 : Cond.selects RX11 yX11_mixed yX11_mixed ∈ uw := uc4 135 rfl rfl
set_option maxRecDepth 20000 in
theorem u1182 : Cond.code yX11_mixed cX11_mixed 1 (some .int) ∈ uw := uc4 136 rfl rfl
set_option maxRecDepth 20000 in
theorem u1183 : Cond.methodLink RX11 200 yX7_mostMixed ∈ uw := uc4 137 rfl rfl
set_option maxRecDepth 20000 in
theorem u1184 : Cond.instanceMethod yX7_mostMixed ∈ uw := uc4 138 rfl rfl
set_option maxRecDepth 20000 in
theorem u1185 : Cond.selects RX7 yX7_mostMixed yX7_mostMixed ∈ uw := uc4 139 rfl rfl
set_option maxRecDepth 20000 in
theorem u1186 : Cond.code yX7_mostMixed cX7_mostMixed 7 (some .int) ∈ uw := uc4 140 rfl rfl
set_option maxRecDepth 20000 in
theorem u1187 : Cond.methodLink RX7 66 yX5_add ∈ uw := uc4 141 rfl rfl
set_option maxRecDepth 20000 in
theorem u1188 : Cond.methodLink "BinsThatTellLaw" 160 yX11_truly ∈ uw := uc4 142 rfl rfl
set_option maxRecDepth 20000 in
theorem u1189 : Cond.instanceMethod yX11_truly ∈ uw := uc4 143 rfl rfl
set_option maxRecDepth 20000 in
theorem u119 : Cond.methodLink RX11 3 Lib.objectInit ∈ uw := uc0 33 rfl rfl
set_option maxRecDepth 20000 in
theorem u1190 : Cond.selects RX11 yX11_truly yX11_truly ∈ uw := uc4 144 rfl rfl
set_option maxRecDepth 20000 in
theorem u1191 : Cond.code yX11_truly cX11_truly 3 (some .int) ∈ uw := uc4 145 rfl rfl
set_option maxRecDepth 20000 in
theorem u1192 : Cond.methodLink RX11 212 yX7_spread ∈ uw := uc4 146 rfl rfl
set_option maxRecDepth 20000 in
theorem u1193 : Cond.instanceMethod yX7_spread ∈ uw := uc4 147 rfl rfl
set_option maxRecDepth 20000 in
theorem u1194 : Cond.selects RX7 yX7_spread yX7_spread ∈ uw := uc4 148 rfl rfl
set_option maxRecDepth 20000 in
theorem u1195 : Cond.code yX7_spread cX7_spread 7 (some .int) ∈ uw := uc4 149 rfl rfl
set_option maxRecDepth 20000 in
theorem u1196 : Cond.methodLink RX7 70 yX10_hasCell ∈ uw := uc4 150 rfl rfl
set_option maxRecDepth 20000 in
theorem u1197 : Cond.methodLink RX7 73 yX4_has ∈ uw := uc4 151 rfl rfl
set_option maxRecDepth 20000 in
theorem u1198 : Cond.methodLink RX7 78 yX4_of ∈ uw := uc4 152 rfl rfl
set_option maxRecDepth 20000 in
theorem u1199 : Cond.methodLink "BinsThatTellLaw" 164 yX11_moved ∈ uw := uc4 153 rfl rfl
theorem u12 : Cond.selects RX10 yX10_throwAway yX10_throwAway ∈ uw := uw_at 12 (by decide +kernel) rfl
set_option maxRecDepth 20000 in
theorem u120 : Cond.instanceMethod Lib.objectInit ∈ uw := uc0 34 rfl rfl
set_option maxRecDepth 20000 in
theorem u1200 : Cond.instanceMethod yX11_moved ∈ uw := uc4 154 rfl rfl
set_option maxRecDepth 20000 in
theorem u1201 : Cond.selects RX11 yX11_moved yX11_moved ∈ uw := uc4 155 rfl rfl
set_option maxRecDepth 20000 in
theorem u1202 : Cond.code yX11_moved cX11_moved 3 (some .int) ∈ uw := uc4 156 rfl rfl
set_option maxRecDepth 20000 in
theorem u1203 : Cond.methodLink RX11 215 yX6_cameAndWent ∈ uw := uc4 157 rfl rfl
set_option maxRecDepth 20000 in
theorem u1204 : Cond.instanceMethod yX6_cameAndWent ∈ uw := uc4 158 rfl rfl
set_option maxRecDepth 20000 in
theorem u1205 : Cond.selects RX6 yX6_cameAndWent yX6_cameAndWent ∈ uw := uc4 159 rfl rfl
set_option maxRecDepth 20000 in
theorem u1206 : Cond.code yX6_cameAndWent cX6_cameAndWent 12 (some .int) ∈ uw := uc4 160 rfl rfl
set_option maxRecDepth 20000 in
theorem u1207 : Cond.methodLink RX6 46 yX10_hasSort ∈ uw := uc4 161 rfl rfl
set_option maxRecDepth 20000 in
theorem u1208 : Cond.methodLinkNest RX6 52 yX11_isWeek RX11 ∈ zNw := un4 162 rfl rfl
set_option maxRecDepth 20000 in
theorem u1209 : Cond.methodLink RX6 55 yX10_streetCount ∈ uw := uc4 163 rfl rfl
set_option maxRecDepth 20000 in
theorem u121 : Cond.code Lib.objectInit ⟨#[0xb1]⟩ 1 none ∈ uw := uc0 35 rfl rfl
set_option maxRecDepth 20000 in
theorem u1210 : Cond.instanceMethod yX10_streetCount ∈ uw := uc4 164 rfl rfl
set_option maxRecDepth 20000 in
theorem u1211 : Cond.selects RX10 yX10_streetCount yX10_streetCount ∈ uw := uc4 165 rfl rfl
set_option maxRecDepth 20000 in
theorem u1212 : Cond.code yX10_streetCount cX10_streetCount 1 (some .int) ∈ uw := uc4 166 rfl rfl
set_option maxRecDepth 20000 in
theorem u1213 : Cond.methodLink RX6 59 yX4_has ∈ uw := uc4 167 rfl rfl
set_option maxRecDepth 20000 in
theorem u1214 : Cond.methodLink RX6 65 yX4_of ∈ uw := uc4 168 rfl rfl
set_option maxRecDepth 20000 in
theorem u1215 : Cond.methodLink RX6 69 yX10_leavesOf ∈ uw := uc4 169 rfl rfl
set_option maxRecDepth 20000 in
theorem u1216 : Cond.methodLink RX6 73 yX5_clear ∈ uw := uc4 170 rfl rfl
set_option maxRecDepth 20000 in
theorem u1217 : Cond.methodLink RX6 79 yX5_add ∈ uw := uc4 171 rfl rfl
set_option maxRecDepth 20000 in
theorem u1218 : Cond.methodLink "BinsThatTellLaw" 168 yX11_feasts ∈ uw := uc4 172 rfl rfl
set_option maxRecDepth 20000 in
theorem u1219 : Cond.instanceMethod yX11_feasts ∈ uw := uc4 173 rfl rfl
set_option maxRecDepth 20000 in
theorem u122 : Cond.classLink RX11 9 RX5 ∈ uw := uc0 36 rfl rfl
set_option maxRecDepth 20000 in
theorem u1220 : Cond.selects RX11 yX11_feasts yX11_feasts ∈ uw := uc4 174 rfl rfl
set_option maxRecDepth 20000 in
theorem u1221 : Cond.code yX11_feasts cX11_feasts 2 (some .int) ∈ uw := uc4 175 rfl rfl
set_option maxRecDepth 20000 in
theorem u1222 : Cond.methodLink RX11 218 yX6_feastWeeks ∈ uw := uc4 176 rfl rfl
set_option maxRecDepth 20000 in
theorem u1223 : Cond.instanceMethod yX6_feastWeeks ∈ uw := uc4 177 rfl rfl
set_option maxRecDepth 20000 in
theorem u1224 : Cond.selects RX6 yX6_feastWeeks yX6_feastWeeks ∈ uw := uc4 178 rfl rfl
set_option maxRecDepth 20000 in
theorem u1225 : Cond.code yX6_feastWeeks cX6_feastWeeks 6 (some .int) ∈ uw := uc4 179 rfl rfl
set_option maxRecDepth 20000 in
theorem u1226 : Cond.methodLink RX6 83 yX10_hasStreet ∈ uw := uc4 180 rfl rfl
set_option maxRecDepth 20000 in
theorem u1227 : Cond.methodLink RX6 86 yX6_bagsOf ∈ uw := uc4 181 rfl rfl
set_option maxRecDepth 20000 in
theorem u1229 : Cond.instanceMethod yX6_bagsOf ∈ uw := uc4 183 rfl rfl
set_option maxRecDepth 20000 in
theorem u123 : Cond.instantiable RX5 2 ∈ uw := uc0 37 rfl rfl
set_option maxRecDepth 20000 in
theorem u1230 : Cond.code yX6_bagsOf cX6_bagsOf 4 (some .int) ∈ uw := uc4 184 rfl rfl
set_option maxRecDepth 20000 in
theorem u1231 : Cond.methodLink RX6 93 yX10_sortCount ∈ uw := uc4 185 rfl rfl
set_option maxRecDepth 20000 in
theorem u1232 : Cond.methodLink RX6 89 yX6_insert ∈ uw := uc4 186 rfl rfl
set_option maxRecDepth 20000 in
theorem u1234 : Cond.instanceMethod yX6_insert ∈ uw := uc4 188 rfl rfl
set_option maxRecDepth 20000 in
theorem u1235 : Cond.code yX6_insert cX6_insert 4 none ∈ uw := uc4 189 rfl rfl
set_option maxRecDepth 20000 in
theorem u1236 : Cond.methodLink "BinsThatTellLaw" 172 yX11_need ∈ uw := uc4 190 rfl rfl
set_option maxRecDepth 20000 in
theorem u1237 : Cond.instanceMethod yX11_need ∈ uw := uc4 191 rfl rfl
set_option maxRecDepth 20000 in
theorem u1238 : Cond.selects RX11 yX11_need yX11_need ∈ uw := uc4 192 rfl rfl
set_option maxRecDepth 20000 in
theorem u1239 : Cond.code yX11_need cX11_need 5 (some .int) ∈ uw := uc4 193 rfl rfl
set_option maxRecDepth 20000 in
theorem u124 : Cond.methodLinkNest RX11 11 yX5_init RX11 ∈ zNw := un0 38 rfl rfl
set_option maxRecDepth 20000 in
theorem u1240 : Cond.methodLink RX11 221 yX6_fewest ∈ uw := uc4 194 rfl rfl
set_option maxRecDepth 20000 in
theorem u1241 : Cond.instanceMethod yX6_fewest ∈ uw := uc4 195 rfl rfl
set_option maxRecDepth 20000 in
theorem u1242 : Cond.selects RX6 yX6_fewest yX6_fewest ∈ uw := uc4 196 rfl rfl
set_option maxRecDepth 20000 in
theorem u1243 : Cond.code yX6_fewest cX6_fewest 8 (some .int) ∈ uw := uc4 197 rfl rfl
set_option maxRecDepth 20000 in
theorem u1244 : Cond.methodLinkNest RX6 96 yX11_between RX11 ∈ zNw := un4 198 rfl rfl
set_option maxRecDepth 20000 in
theorem u1245 : Cond.methodLinkNest RX6 99 yX11_isKind RX11 ∈ zNw := un4 199 rfl rfl
set_option maxRecDepth 20000 in
theorem u1246 : Cond.methodLink RX6 102 yX6_gatherMeans ∈ uw := uc4 200 rfl rfl
set_option maxRecDepth 20000 in
theorem u1248 : Cond.instanceMethod yX6_gatherMeans ∈ uw := uc4 202 rfl rfl
set_option maxRecDepth 20000 in
theorem u1249 : Cond.code yX6_gatherMeans cX6_gatherMeans 12 none ∈ uw := uc4 203 rfl rfl
set_option maxRecDepth 20000 in
theorem u125 : Cond.instanceMethod yX5_init ∈ uw := uc0 39 rfl rfl
set_option maxRecDepth 20000 in
theorem u1250 : Cond.constantLong RX6 114 27720 ∈ uw := uc4 204 rfl rfl
set_option maxRecDepth 20000 in
theorem u1251 : Cond.methodLink RX6 106 yX6_countWays ∈ uw := uc4 205 rfl rfl
set_option maxRecDepth 20000 in
theorem u1253 : Cond.instanceMethod yX6_countWays ∈ uw := uc4 207 rfl rfl
set_option maxRecDepth 20000 in
theorem u1254 : Cond.code yX6_countWays cX6_countWays 10 none ∈ uw := uc4 208 rfl rfl
set_option maxRecDepth 20000 in
theorem u1255 : Cond.methodLink RX6 116 yJ7_fill_53178 ∈ uw := uc4 209 rfl rfl
set_option maxRecDepth 20000 in
theorem u1256 : Cond.static yJ7_fill_53178 ∈ uw := uc4 210 rfl rfl
set_option maxRecDepth 20000 in
theorem u1257 : Cond.code yJ7_fill_53178 cJ7_fill_53178 4 none ∈ uw := uc4 211 rfl rfl
set_option maxRecDepth 20000 in
theorem u1258 : Cond.methodLink RX6 122 yJ6_numberOfTrailingZeros_0f7a4 ∈ uw := uc4 212 rfl rfl
set_option maxRecDepth 20000 in
theorem u1259 : Cond.static yJ6_numberOfTrailingZeros_0f7a4 ∈ uw := uc4 213 rfl rfl
set_option maxRecDepth 20000 in
theorem u126 : Cond.code yX5_init cX5_init 1 none ∈ uw := uc0 40 rfl rfl
set_option maxRecDepth 20000 in
theorem u1260 : Cond.code yJ6_numberOfTrailingZeros_0f7a4 cJ6_numberOfTrailingZeros_0f7a4 2 (some .int) ∈ uw := uc4 214 rfl rfl
set_option maxRecDepth 20000 in
theorem u1261 : Cond.constant RJ6 264 65536 ∈ uw := uc4 215 rfl rfl
set_option maxRecDepth 20000 in
theorem u1262 : Cond.methodLinkNest RX6 127 yX11_hasBit RX11 ∈ zNw := un4 216 rfl rfl
set_option maxRecDepth 20000 in
theorem u1263 : Cond.methodLink RX6 131 yJ6_bitCount_0f7a4 ∈ uw := uc4 217 rfl rfl
set_option maxRecDepth 20000 in
theorem u1264 : Cond.methodLink RX6 134 Lib.MathLoose.abs_long.x ∈ uw := uc4 218 rfl rfl
set_option maxRecDepth 20000 in
theorem u1265 : Cond.methodLink "BinsThatTellLaw" 176 yX11_weeks ∈ uw := uc4 219 rfl rfl
set_option maxRecDepth 20000 in
theorem u1266 : Cond.instanceMethod yX11_weeks ∈ uw := uc4 220 rfl rfl
set_option maxRecDepth 20000 in
theorem u1267 : Cond.selects RX11 yX11_weeks yX11_weeks ∈ uw := uc4 221 rfl rfl
set_option maxRecDepth 20000 in
theorem u1268 : Cond.code yX11_weeks cX11_weeks 5 (some .int) ∈ uw := uc4 222 rfl rfl
set_option maxRecDepth 20000 in
theorem u1269 : Cond.methodLink "BinsThatTellLaw" 180 yX11_paper ∈ uw := uc4 223 rfl rfl
set_option maxRecDepth 20000 in
theorem u127 : Cond.methodLink RX5 3 Lib.objectInit ∈ uw := uc0 41 rfl rfl
set_option maxRecDepth 20000 in
theorem u1270 : Cond.instanceMethod yX11_paper ∈ uw := uc4 224 rfl rfl
set_option maxRecDepth 20000 in
theorem u1271 : Cond.selects RX11 yX11_paper yX11_paper ∈ uw := uc4 225 rfl rfl
set_option maxRecDepth 20000 in
theorem u1272 : Cond.code yX11_paper cX11_paper 4 (some .int) ∈ uw := uc4 226 rfl rfl
set_option maxRecDepth 20000 in
theorem u1273 : Cond.methodLink RX11 225 yX3_addPaper ∈ uw := uc4 227 rfl rfl
set_option maxRecDepth 20000 in
theorem u1274 : Cond.instanceMethod yX3_addPaper ∈ uw := uc4 228 rfl rfl
set_option maxRecDepth 20000 in
theorem u1275 : Cond.selects RX3 yX3_addPaper yX3_addPaper ∈ uw := uc4 229 rfl rfl
set_option maxRecDepth 20000 in
theorem u1276 : Cond.code yX3_addPaper cX3_addPaper 6 (some .int) ∈ uw := uc4 230 rfl rfl
set_option maxRecDepth 20000 in
theorem u1277 : Cond.methodLink RX3 36 yX3_isLayer ∈ uw := uc4 231 rfl rfl
set_option maxRecDepth 20000 in
theorem u1278 : Cond.static yX3_isLayer ∈ uw := uc4 232 rfl rfl
set_option maxRecDepth 20000 in
theorem u1279 : Cond.code yX3_isLayer cX3_isLayer 1 (some .boolean) ∈ uw := uc4 233 rfl rfl
set_option maxRecDepth 20000 in
theorem u128 : Cond.fieldLink RX5 9 RX5 "numbers" "[J" ∈ uw := uc0 42 rfl rfl
set_option maxRecDepth 20000 in
theorem u1280 : Cond.methodLinkNest RX3 44 yX11_between RX11 ∈ zNw := un4 234 rfl rfl
set_option maxRecDepth 20000 in
theorem u1281 : Cond.methodLink RX3 40 yX3_clash ∈ uw := uc4 235 rfl rfl
set_option maxRecDepth 20000 in
theorem u1283 : Cond.instanceMethod yX3_clash ∈ uw := uc4 237 rfl rfl
set_option maxRecDepth 20000 in
theorem u1284 : Cond.code yX3_clash cX3_clash 4 (some .boolean) ∈ uw := uc4 238 rfl rfl
set_option maxRecDepth 20000 in
theorem u1285 : Cond.methodLink "BinsThatTellLaw" 184 yX11_year ∈ uw := uc4 239 rfl rfl
set_option maxRecDepth 20000 in
theorem u1286 : Cond.instanceMethod yX11_year ∈ uw := uc5 0 rfl rfl
set_option maxRecDepth 20000 in
theorem u1287 : Cond.selects RX11 yX11_year yX11_year ∈ uw := uc5 1 rfl rfl
set_option maxRecDepth 20000 in
theorem u1288 : Cond.code yX11_year cX11_year 2 (some .int) ∈ uw := uc5 2 rfl rfl
set_option maxRecDepth 20000 in
theorem u1289 : Cond.methodLink RX11 228 yX3_yearsOf ∈ uw := uc5 3 rfl rfl
set_option maxRecDepth 20000 in
theorem u129 : Cond.fieldLink RX5 15 RX5 "size" "I" ∈ uw := uc0 43 rfl rfl
set_option maxRecDepth 20000 in
theorem u1290 : Cond.instanceMethod yX3_yearsOf ∈ uw := uc5 4 rfl rfl
set_option maxRecDepth 20000 in
theorem u1291 : Cond.selects RX3 yX3_yearsOf yX3_yearsOf ∈ uw := uc5 5 rfl rfl
set_option maxRecDepth 20000 in
theorem u1292 : Cond.code yX3_yearsOf cX3_yearsOf 4 (some .int) ∈ uw := uc5 6 rfl rfl
set_option maxRecDepth 20000 in
theorem u1293 : Cond.methodLink RX3 60 yX3_allPapers ∈ uw := uc5 7 rfl rfl
set_option maxRecDepth 20000 in
theorem u1295 : Cond.instanceMethod yX3_allPapers ∈ uw := uc5 9 rfl rfl
set_option maxRecDepth 20000 in
theorem u1296 : Cond.code yX3_allPapers cX3_allPapers 1 (some .int) ∈ uw := uc5 10 rfl rfl
set_option maxRecDepth 20000 in
theorem u1297 : Cond.methodLink RX3 64 yX3_goTogether ∈ uw := uc5 11 rfl rfl
set_option maxRecDepth 20000 in
theorem u1299 : Cond.instanceMethod yX3_goTogether ∈ uw := uc5 13 rfl rfl
theorem u13 : Cond.selects RX0 yX0_measure yX0_measure ∈ uw := uw_at 13 (by decide +kernel) rfl
set_option maxRecDepth 20000 in
theorem u1300 : Cond.code yX3_goTogether cX3_goTogether 3 (some .boolean) ∈ uw := uc5 14 rfl rfl
set_option maxRecDepth 20000 in
theorem u1301 : Cond.methodLinkNest RX3 48 yX11_hasBit RX11 ∈ zNw := un5 15 rfl rfl
set_option maxRecDepth 20000 in
theorem u1302 : Cond.methodLink RX3 67 yX3_firstYearOf ∈ uw := uc5 16 rfl rfl
set_option maxRecDepth 20000 in
theorem u1304 : Cond.instanceMethod yX3_firstYearOf ∈ uw := uc5 18 rfl rfl
set_option maxRecDepth 20000 in
theorem u1305 : Cond.code yX3_firstYearOf cX3_firstYearOf 4 (some .int) ∈ uw := uc5 19 rfl rfl
set_option maxRecDepth 20000 in
theorem u1306 : Cond.methodLink RX3 51 Lib.Math.max.name ∈ uw := uc5 20 rfl rfl
set_option maxRecDepth 20000 in
theorem u1307 : Cond.methodLink RX3 71 yX3_lastYearOf ∈ uw := uc5 21 rfl rfl
set_option maxRecDepth 20000 in
theorem u1309 : Cond.instanceMethod yX3_lastYearOf ∈ uw := uc5 23 rfl rfl
set_option maxRecDepth 20000 in
theorem u1310 : Cond.code yX3_lastYearOf cX3_lastYearOf 4 (some .int) ∈ uw := uc5 24 rfl rfl
set_option maxRecDepth 20000 in
theorem u1311 : Cond.methodLink RX3 57 Lib.Math.min.name ∈ uw := uc5 25 rfl rfl
set_option maxRecDepth 20000 in
theorem u1312 : Cond.methodLink RX3 74 yX5_clear ∈ uw := uc5 26 rfl rfl
set_option maxRecDepth 20000 in
theorem u1313 : Cond.methodLink RX3 80 yX5_add ∈ uw := uc5 27 rfl rfl
set_option maxRecDepth 20000 in
theorem u1314 : Cond.methodLink "BinsThatTellLaw" 188 yX11_stray ∈ uw := uc5 28 rfl rfl
set_option maxRecDepth 20000 in
theorem u1315 : Cond.instanceMethod yX11_stray ∈ uw := uc5 29 rfl rfl
set_option maxRecDepth 20000 in
theorem u1316 : Cond.selects RX11 yX11_stray yX11_stray ∈ uw := uc5 30 rfl rfl
set_option maxRecDepth 20000 in
theorem u1317 : Cond.code yX11_stray cX11_stray 1 (some .int) ∈ uw := uc5 31 rfl rfl
set_option maxRecDepth 20000 in
theorem u1318 : Cond.methodLink RX11 231 yX3_fewestOut ∈ uw := uc5 32 rfl rfl
set_option maxRecDepth 20000 in
theorem u1319 : Cond.instanceMethod yX3_fewestOut ∈ uw := uc5 33 rfl rfl
set_option maxRecDepth 20000 in
theorem u1320 : Cond.selects RX3 yX3_fewestOut yX3_fewestOut ∈ uw := uc5 34 rfl rfl
set_option maxRecDepth 20000 in
theorem u1321 : Cond.code yX3_fewestOut cX3_fewestOut 3 (some .int) ∈ uw := uc5 35 rfl rfl
set_option maxRecDepth 20000 in
theorem u1322 : Cond.methodLink RX3 84 yJ6_bitCount_0f7a4 ∈ uw := uc5 36 rfl rfl
set_option maxRecDepth 20000 in
theorem u1323 : Cond.methodLink "BinsThatTellLaw" 192 yX11_was ∈ uw := uc5 37 rfl rfl
set_option maxRecDepth 20000 in
theorem u1324 : Cond.instanceMethod yX11_was ∈ uw := uc5 38 rfl rfl
set_option maxRecDepth 20000 in
theorem u1325 : Cond.selects RX11 yX11_was yX11_was ∈ uw := uc5 39 rfl rfl
set_option maxRecDepth 20000 in
theorem u1326 : Cond.code yX11_was cX11_was 5 (some .int) ∈ uw := uc5 40 rfl rfl
set_option maxRecDepth 20000 in
theorem u1327 : Cond.methodLink RX11 234 yX3_thrownOnce ∈ uw := uc5 41 rfl rfl
set_option maxRecDepth 20000 in
theorem u1328 : Cond.instanceMethod yX3_thrownOnce ∈ uw := uc5 42 rfl rfl
set_option maxRecDepth 20000 in
theorem u1329 : Cond.selects RX3 yX3_thrownOnce yX3_thrownOnce ∈ uw := uc5 43 rfl rfl
set_option maxRecDepth 20000 in
theorem u1330 : Cond.code yX3_thrownOnce cX3_thrownOnce 7 (some .int) ∈ uw := uc5 44 rfl rfl
set_option maxRecDepth 20000 in
theorem u1331 : Cond.methodLink RX3 89 yX10_hasSort ∈ uw := uc5 45 rfl rfl
set_option maxRecDepth 20000 in
theorem u1332 : Cond.methodLink RX3 94 yX10_lastsOf ∈ uw := uc5 46 rfl rfl
set_option maxRecDepth 20000 in
theorem u1333 : Cond.instanceMethod yX10_lastsOf ∈ uw := uc5 47 rfl rfl
set_option maxRecDepth 20000 in
theorem u1334 : Cond.selects RX10 yX10_lastsOf yX10_lastsOf ∈ uw := uc5 48 rfl rfl
set_option maxRecDepth 20000 in
theorem u1335 : Cond.code yX10_lastsOf cX10_lastsOf 2 (some .int) ∈ uw := uc5 49 rfl rfl
set_option maxRecDepth 20000 in
theorem u1336 : Cond.methodLink RX3 97 yX3_grown ∈ uw := uc5 50 rfl rfl
set_option maxRecDepth 20000 in
theorem u1337 : Cond.static yX3_grown ∈ uw := uc5 51 rfl rfl
set_option maxRecDepth 20000 in
theorem u1338 : Cond.code yX3_grown cX3_grown 9 (some .long) ∈ uw := uc5 52 rfl rfl
set_option maxRecDepth 20000 in
theorem u1339 : Cond.methodLinkNest RX3 101 yX11_within RX11 ∈ zNw := un5 53 rfl rfl
set_option maxRecDepth 20000 in
theorem u1340 : Cond.constantLong RX3 105 100 ∈ uw := uc5 54 rfl rfl
set_option maxRecDepth 20000 in
theorem u1341 : Cond.methodLink "BinsThatTellLaw" 196 yX11_told ∈ uw := uc5 55 rfl rfl
set_option maxRecDepth 20000 in
theorem u1342 : Cond.instanceMethod yX11_told ∈ uw := uc5 56 rfl rfl
set_option maxRecDepth 20000 in
theorem u1343 : Cond.selects RX11 yX11_told yX11_told ∈ uw := uc5 57 rfl rfl
set_option maxRecDepth 20000 in
theorem u1344 : Cond.code yX11_told cX11_told 3 (some .boolean) ∈ uw := uc5 58 rfl rfl
set_option maxRecDepth 20000 in
theorem u1345 : Cond.methodLink RX11 237 yX10_setTold ∈ uw := uc5 59 rfl rfl
set_option maxRecDepth 20000 in
theorem u1346 : Cond.instanceMethod yX10_setTold ∈ uw := uc5 60 rfl rfl
set_option maxRecDepth 20000 in
theorem u1347 : Cond.selects RX10 yX10_setTold yX10_setTold ∈ uw := uc5 61 rfl rfl
set_option maxRecDepth 20000 in
theorem u1348 : Cond.code yX10_setTold cX10_setTold 3 (some .boolean) ∈ uw := uc5 62 rfl rfl
set_option maxRecDepth 20000 in
theorem u1349 : Cond.methodLink "BinsThatTellLaw" 201 yX11_does ∈ uw := uc5 63 rfl rfl
set_option maxRecDepth 20000 in
theorem u135 : Cond.arrayClass .long ∈ uw := uc0 49 rfl rfl
set_option maxRecDepth 20000 in
theorem u1350 : Cond.instanceMethod yX11_does ∈ uw := uc5 64 rfl rfl
set_option maxRecDepth 20000 in
theorem u1351 : Cond.selects RX11 yX11_does yX11_does ∈ uw := uc5 65 rfl rfl
set_option maxRecDepth 20000 in
theorem u1352 : Cond.code yX11_does cX11_does 4 (some .int) ∈ uw := uc5 66 rfl rfl
set_option maxRecDepth 20000 in
theorem u1353 : Cond.methodLink RX11 241 yX6_effect ∈ uw := uc5 67 rfl rfl
set_option maxRecDepth 20000 in
theorem u1354 : Cond.instanceMethod yX6_effect ∈ uw := uc5 68 rfl rfl
set_option maxRecDepth 20000 in
theorem u1355 : Cond.selects RX6 yX6_effect yX6_effect ∈ uw := uc5 69 rfl rfl
set_option maxRecDepth 20000 in
theorem u1356 : Cond.code yX6_effect cX6_effect 14 (some .int) ∈ uw := uc5 70 rfl rfl
set_option maxRecDepth 20000 in
theorem u1357 : Cond.methodLink RX6 140 yX6_gatherGroups ∈ uw := uc5 71 rfl rfl
set_option maxRecDepth 20000 in
theorem u1359 : Cond.instanceMethod yX6_gatherGroups ∈ uw := uc5 73 rfl rfl
set_option maxRecDepth 20000 in
theorem u136 : Cond.classLink RX11 16 RX9 ∈ uw := uc0 50 rfl rfl
set_option maxRecDepth 20000 in
theorem u1360 : Cond.code yX6_gatherGroups cX6_gatherGroups 10 none ∈ uw := uc5 74 rfl rfl
set_option maxRecDepth 20000 in
theorem u1361 : Cond.methodLink RX6 148 yJ7_fill_d0a16 ∈ uw := uc5 75 rfl rfl
set_option maxRecDepth 20000 in
theorem u1362 : Cond.methodLink RX6 151 yX10_cellCount ∈ uw := uc5 76 rfl rfl
set_option maxRecDepth 20000 in
theorem u1363 : Cond.methodLink RX6 154 yX10_toldFromOf ∈ uw := uc5 77 rfl rfl
set_option maxRecDepth 20000 in
theorem u1364 : Cond.instanceMethod yX10_toldFromOf ∈ uw := uc5 78 rfl rfl
set_option maxRecDepth 20000 in
theorem u1365 : Cond.selects RX10 yX10_toldFromOf yX10_toldFromOf ∈ uw := uc5 79 rfl rfl
set_option maxRecDepth 20000 in
theorem u1366 : Cond.code yX10_toldFromOf cX10_toldFromOf 2 (some .int) ∈ uw := uc5 80 rfl rfl
set_option maxRecDepth 20000 in
theorem u1367 : Cond.methodLink RX6 144 yX5_addFraction ∈ uw := uc5 81 rfl rfl
set_option maxRecDepth 20000 in
theorem u1368 : Cond.methodLink "BinsThatTellLaw" 205 yX11_keep ∈ uw := uc5 82 rfl rfl
set_option maxRecDepth 20000 in
theorem u1369 : Cond.instanceMethod yX11_keep ∈ uw := uc5 83 rfl rfl
set_option maxRecDepth 20000 in
theorem u137 : Cond.instantiable RX9 2 ∈ uw := uc0 51 rfl rfl
set_option maxRecDepth 20000 in
theorem u1370 : Cond.selects RX11 yX11_keep yX11_keep ∈ uw := uc5 84 rfl rfl
set_option maxRecDepth 20000 in
theorem u1371 : Cond.code yX11_keep cX11_keep 2 (some .boolean) ∈ uw := uc5 85 rfl rfl
set_option maxRecDepth 20000 in
theorem u1372 : Cond.methodLink RX11 244 yX4_store ∈ uw := uc5 86 rfl rfl
set_option maxRecDepth 20000 in
theorem u1373 : Cond.instanceMethod yX4_store ∈ uw := uc5 87 rfl rfl
set_option maxRecDepth 20000 in
theorem u1374 : Cond.selects RX4 yX4_store yX4_store ∈ uw := uc5 88 rfl rfl
set_option maxRecDepth 20000 in
theorem u1375 : Cond.code yX4_store cX4_store 2 (some .boolean) ∈ uw := uc5 89 rfl rfl
set_option maxRecDepth 20000 in
theorem u1376 : Cond.methodLink RX4 52 arraycopyName ∈ uw := uc5 90 rfl rfl
set_option maxRecDepth 20000 in
theorem u1377 : Cond.static arraycopyName ∈ uw := uc5 91 rfl rfl
set_option maxRecDepth 20000 in
theorem u1378 : Cond.native arraycopyName ∈ uw := uc5 92 rfl rfl
set_option maxRecDepth 20000 in
theorem u1379 : Cond.methodLink "BinsThatTellLaw" 209 yX11_again ∈ uw := uc5 93 rfl rfl
set_option maxRecDepth 20000 in
theorem u138 : Cond.methodLinkNest RX11 18 yX9_init RX11 ∈ zNw := un0 52 rfl rfl
set_option maxRecDepth 20000 in
theorem u1380 : Cond.instanceMethod yX11_again ∈ uw := uc5 94 rfl rfl
set_option maxRecDepth 20000 in
theorem u1381 : Cond.selects RX11 yX11_again yX11_again ∈ uw := uc5 95 rfl rfl
set_option maxRecDepth 20000 in
theorem u1382 : Cond.code yX11_again cX11_again 2 (some .boolean) ∈ uw := uc5 96 rfl rfl
set_option maxRecDepth 20000 in
theorem u1383 : Cond.methodLink RX11 247 yX4_restore ∈ uw := uc5 97 rfl rfl
set_option maxRecDepth 20000 in
theorem u1384 : Cond.instanceMethod yX4_restore ∈ uw := uc5 98 rfl rfl
set_option maxRecDepth 20000 in
theorem u1385 : Cond.selects RX4 yX4_restore yX4_restore ∈ uw := uc5 99 rfl rfl
set_option maxRecDepth 20000 in
theorem u1386 : Cond.code yX4_restore cX4_restore 2 (some .boolean) ∈ uw := uc5 100 rfl rfl
set_option maxRecDepth 20000 in
theorem u1387 : Cond.methodLink "BinsThatTellLaw" 213 yX11_count ∈ uw := uc5 101 rfl rfl
set_option maxRecDepth 20000 in
theorem u1388 : Cond.instanceMethod yX11_count ∈ uw := uc5 102 rfl rfl
set_option maxRecDepth 20000 in
theorem u1389 : Cond.selects RX11 yX11_count yX11_count ∈ uw := uc5 103 rfl rfl
set_option maxRecDepth 20000 in
theorem u139 : Cond.instanceMethod yX9_init ∈ uw := uc0 53 rfl rfl
set_option maxRecDepth 20000 in
theorem u1390 : Cond.code yX11_count cX11_count 2 (some .int) ∈ uw := uc5 104 rfl rfl
set_option maxRecDepth 20000 in
theorem u1391 : Cond.methodLink RX11 250 yX10_sortCount ∈ uw := uc5 105 rfl rfl
set_option maxRecDepth 20000 in
theorem u1392 : Cond.methodLink RX11 253 yX10_streetCount ∈ uw := uc5 106 rfl rfl
set_option maxRecDepth 20000 in
theorem u1393 : Cond.methodLink RX11 256 yX2_bits ∈ uw := uc5 107 rfl rfl
set_option maxRecDepth 20000 in
theorem u1394 : Cond.instanceMethod yX2_bits ∈ uw := uc5 108 rfl rfl
set_option maxRecDepth 20000 in
theorem u1395 : Cond.selects RX2 yX2_bits yX2_bits ∈ uw := uc5 109 rfl rfl
set_option maxRecDepth 20000 in
theorem u1396 : Cond.code yX2_bits cX2_bits 3 (some .int) ∈ uw := uc5 110 rfl rfl
set_option maxRecDepth 20000 in
theorem u1397 : Cond.methodLink RX11 259 yX8_size ∈ uw := uc5 111 rfl rfl
set_option maxRecDepth 20000 in
theorem u1398 : Cond.instanceMethod yX8_size ∈ uw := uc5 112 rfl rfl
set_option maxRecDepth 20000 in
theorem u1399 : Cond.selects RX8 yX8_size yX8_size ∈ uw := uc5 113 rfl rfl
theorem u14 : Cond.selects RX0 yX0_measureOne yX0_measureOne ∈ uw := uw_at 14 (by decide +kernel) rfl
set_option maxRecDepth 20000 in
theorem u140 : Cond.code yX9_init cX9_init 1 none ∈ uw := uc0 54 rfl rfl
set_option maxRecDepth 20000 in
theorem u1400 : Cond.code yX8_size cX8_size 1 (some .int) ∈ uw := uc5 114 rfl rfl
set_option maxRecDepth 20000 in
theorem u1401 : Cond.methodLink RX11 262 yX7_size ∈ uw := uc5 115 rfl rfl
set_option maxRecDepth 20000 in
theorem u1402 : Cond.instanceMethod yX7_size ∈ uw := uc5 116 rfl rfl
set_option maxRecDepth 20000 in
theorem u1403 : Cond.selects RX7 yX7_size yX7_size ∈ uw := uc5 117 rfl rfl
set_option maxRecDepth 20000 in
theorem u1404 : Cond.code yX7_size cX7_size 1 (some .int) ∈ uw := uc5 118 rfl rfl
set_option maxRecDepth 20000 in
theorem u1405 : Cond.methodLink RX11 263 yX3_size ∈ uw := uc5 119 rfl rfl
set_option maxRecDepth 20000 in
theorem u1406 : Cond.instanceMethod yX3_size ∈ uw := uc5 120 rfl rfl
set_option maxRecDepth 20000 in
theorem u1407 : Cond.selects RX3 yX3_size yX3_size ∈ uw := uc5 121 rfl rfl
set_option maxRecDepth 20000 in
theorem u1408 : Cond.code yX3_size cX3_size 1 (some .int) ∈ uw := uc5 122 rfl rfl
set_option maxRecDepth 20000 in
theorem u1409 : Cond.methodLink RX11 264 yX4_size ∈ uw := uc5 123 rfl rfl
set_option maxRecDepth 20000 in
theorem u141 : Cond.methodLink RX9 3 Lib.objectInit ∈ uw := uc0 55 rfl rfl
set_option maxRecDepth 20000 in
theorem u1410 : Cond.instanceMethod yX4_size ∈ uw := uc5 124 rfl rfl
set_option maxRecDepth 20000 in
theorem u1411 : Cond.selects RX4 yX4_size yX4_size ∈ uw := uc5 125 rfl rfl
set_option maxRecDepth 20000 in
theorem u1412 : Cond.code yX4_size cX4_size 3 (some .int) ∈ uw := uc5 126 rfl rfl
set_option maxRecDepth 20000 in
theorem u1413 : Cond.methodLink RX11 265 yX5_size ∈ uw := uc5 127 rfl rfl
set_option maxRecDepth 20000 in
theorem u1414 : Cond.instanceMethod yX5_size ∈ uw := uc5 128 rfl rfl
set_option maxRecDepth 20000 in
theorem u1415 : Cond.selects RX5 yX5_size yX5_size ∈ uw := uc5 129 rfl rfl
set_option maxRecDepth 20000 in
theorem u1416 : Cond.code yX5_size cX5_size 1 (some .int) ∈ uw := uc5 130 rfl rfl
set_option maxRecDepth 20000 in
theorem u1417 : Cond.methodLink RX11 266 yX9_size ∈ uw := uc5 131 rfl rfl
set_option maxRecDepth 20000 in
theorem u142 : Cond.fieldLink RX9 11 RX9 "signs" "[I" ∈ uw := uc0 56 rfl rfl
set_option maxRecDepth 20000 in
theorem u143 : Cond.fieldLink RX9 15 RX9 "size" "I" ∈ uw := uc0 57 rfl rfl
set_option maxRecDepth 20000 in
theorem u149 : Cond.arrayClass .int ∈ uw := uc0 63 rfl rfl
theorem u15 : Cond.selects RX0 yX0_goesWithRight yX0_goesWithRight ∈ uw := uw_at 15 (by decide +kernel) rfl
set_option maxRecDepth 20000 in
theorem u150 : Cond.classLink RX11 23 RX4 ∈ uw := uc0 64 rfl rfl
set_option maxRecDepth 20000 in
theorem u151 : Cond.instantiable RX4 5 ∈ uw := uc0 65 rfl rfl
set_option maxRecDepth 20000 in
theorem u1511 : Cond.code yX12_thrown cX12_thrown 1 (some .int) ∈ uw := uc5 225 rfl rfl
set_option maxRecDepth 20000 in
theorem u1512 : Cond.methodLink "BinsThatTellLaw" 27 yX12_sort ∈ uw := uc5 226 rfl rfl
set_option maxRecDepth 20000 in
theorem u1513 : Cond.instanceMethod yX12_sort ∈ uw := uc5 227 rfl rfl
set_option maxRecDepth 20000 in
theorem u1514 : Cond.selects RX12 yX12_sort yX12_sort ∈ uw := uc5 228 rfl rfl
set_option maxRecDepth 20000 in
theorem u1515 : Cond.code yX12_sort cX12_sort 4 (some .int) ∈ uw := uc5 229 rfl rfl
set_option maxRecDepth 20000 in
theorem u1516 : Cond.constantLong RX12 38 100 ∈ uw := uc5 230 rfl rfl
set_option maxRecDepth 20000 in
theorem u1517 : Cond.methodLink RX12 25 yX12_in ∈ uw := uc5 231 rfl rfl
set_option maxRecDepth 20000 in
theorem u1518 : Cond.static yX12_in ∈ uw := uc5 232 rfl rfl
set_option maxRecDepth 20000 in
theorem u1519 : Cond.code yX12_in cX12_in 6 (some .boolean) ∈ uw := uc5 233 rfl rfl
set_option maxRecDepth 20000 in
theorem u152 : Cond.methodLink RX11 25 yX4_init ∈ uw := uc0 66 rfl rfl
set_option maxRecDepth 20000 in
theorem u1520 : Cond.constantLong RX12 40 (-5) ∈ uw := uc5 234 rfl rfl
set_option maxRecDepth 20000 in
theorem u1521 : Cond.constantLong RX12 34 5 ∈ uw := uc5 235 rfl rfl
set_option maxRecDepth 20000 in
theorem u1522 : Cond.methodLink "BinsThatTellLaw" 32 yX12_goes ∈ uw := uc5 236 rfl rfl
set_option maxRecDepth 20000 in
theorem u1523 : Cond.instanceMethod yX12_goes ∈ uw := uc5 237 rfl rfl
set_option maxRecDepth 20000 in
theorem u1524 : Cond.selects RX12 yX12_goes yX12_goes ∈ uw := uc5 238 rfl rfl
set_option maxRecDepth 20000 in
theorem u1525 : Cond.code yX12_goes cX12_goes 6 (some .boolean) ∈ uw := uc5 239 rfl rfl
set_option maxRecDepth 20000 in
theorem u1526 : Cond.methodLink RX12 52 yX12_isSort ∈ uw := uc6 0 rfl rfl
set_option maxRecDepth 20000 in
theorem u1528 : Cond.instanceMethod yX12_isSort ∈ uw := uc6 2 rfl rfl
set_option maxRecDepth 20000 in
theorem u153 : Cond.instanceMethod yX4_init ∈ uw := uc0 67 rfl rfl
set_option maxRecDepth 20000 in
theorem u1530 : Cond.code yX12_isSort cX12_isSort 2 (some .boolean) ∈ uw := uc6 4 rfl rfl
set_option maxRecDepth 20000 in
theorem u1531 : Cond.methodLink "BinsThatTellLaw" 36 yX12_street ∈ uw := uc6 5 rfl rfl
set_option maxRecDepth 20000 in
theorem u1532 : Cond.instanceMethod yX12_street ∈ uw := uc6 6 rfl rfl
set_option maxRecDepth 20000 in
theorem u1533 : Cond.selects RX12 yX12_street yX12_street ∈ uw := uc6 7 rfl rfl
set_option maxRecDepth 20000 in
theorem u1534 : Cond.code yX12_street cX12_street 2 (some .int) ∈ uw := uc6 8 rfl rfl
set_option maxRecDepth 20000 in
theorem u1535 : Cond.methodLink "BinsThatTellLaw" 41 yX12_lack ∈ uw := uc6 9 rfl rfl
set_option maxRecDepth 20000 in
theorem u1536 : Cond.instanceMethod yX12_lack ∈ uw := uc6 10 rfl rfl
set_option maxRecDepth 20000 in
theorem u1537 : Cond.selects RX12 yX12_lack yX12_lack ∈ uw := uc6 11 rfl rfl
set_option maxRecDepth 20000 in
theorem u1538 : Cond.code yX12_lack cX12_lack 4 (some .boolean) ∈ uw := uc6 12 rfl rfl
set_option maxRecDepth 20000 in
theorem u1539 : Cond.methodLink RX12 68 yX12_isWeek ∈ uw := uc6 13 rfl rfl
set_option maxRecDepth 20000 in
theorem u154 : Cond.code yX4_init cX4_init 2 none ∈ uw := uc0 68 rfl rfl
set_option maxRecDepth 20000 in
theorem u1540 : Cond.static yX12_isWeek ∈ uw := uc6 14 rfl rfl
set_option maxRecDepth 20000 in
theorem u1541 : Cond.code yX12_isWeek cX12_isWeek 1 (some .boolean) ∈ uw := uc6 15 rfl rfl
set_option maxRecDepth 20000 in
theorem u1542 : Cond.constantLong RX12 32 11 ∈ uw := uc6 16 rfl rfl
set_option maxRecDepth 20000 in
theorem u1543 : Cond.methodLink "BinsThatTellLaw" 46 yX12_put ∈ uw := uc6 17 rfl rfl
set_option maxRecDepth 20000 in
theorem u1544 : Cond.instanceMethod yX12_put ∈ uw := uc6 18 rfl rfl
set_option maxRecDepth 20000 in
theorem u1545 : Cond.selects RX12 yX12_put yX12_put ∈ uw := uc6 19 rfl rfl
set_option maxRecDepth 20000 in
theorem u1546 : Cond.code yX12_put cX12_put 6 (some .int) ∈ uw := uc6 20 rfl rfl
set_option maxRecDepth 20000 in
theorem u1547 : Cond.methodLink RX12 82 yX12_isKind ∈ uw := uc6 21 rfl rfl
set_option maxRecDepth 20000 in
theorem u1548 : Cond.static yX12_isKind ∈ uw := uc6 22 rfl rfl
set_option maxRecDepth 20000 in
theorem u1549 : Cond.code yX12_isKind cX12_isKind 1 (some .boolean) ∈ uw := uc6 23 rfl rfl
set_option maxRecDepth 20000 in
theorem u155 : Cond.methodLink RX4 3 Lib.objectInit ∈ uw := uc0 69 rfl rfl
set_option maxRecDepth 20000 in
theorem u1550 : Cond.methodLink RX12 85 yX12_isCell ∈ uw := uc6 24 rfl rfl
set_option maxRecDepth 20000 in
theorem u1552 : Cond.instanceMethod yX12_isCell ∈ uw := uc6 26 rfl rfl
set_option maxRecDepth 20000 in
theorem u1553 : Cond.code yX12_isCell cX12_isCell 2 (some .boolean) ∈ uw := uc6 27 rfl rfl
set_option maxRecDepth 20000 in
theorem u1554 : Cond.constantLong RX12 88 (-1) ∈ uw := uc6 28 rfl rfl
set_option maxRecDepth 20000 in
theorem u1555 : Cond.constantLong RX12 90 999 ∈ uw := uc6 29 rfl rfl
set_option maxRecDepth 20000 in
theorem u1556 : Cond.methodLink RX12 92 yX12_at ∈ uw := uc6 30 rfl rfl
set_option maxRecDepth 20000 in
theorem u1558 : Cond.instanceMethod yX12_at ∈ uw := uc6 32 rfl rfl
set_option maxRecDepth 20000 in
theorem u1559 : Cond.code yX12_at cX12_at 4 (some .int) ∈ uw := uc6 33 rfl rfl
set_option maxRecDepth 20000 in
theorem u156 : Cond.classLink RX4 15 "[[I" ∈ uw := uc0 70 rfl rfl
set_option maxRecDepth 20000 in
theorem u1560 : Cond.methodLink RX12 78 yX12_placeOf ∈ uw := uc6 34 rfl rfl
set_option maxRecDepth 20000 in
theorem u1561 : Cond.static yX12_placeOf ∈ uw := uc6 35 rfl rfl
set_option maxRecDepth 20000 in
theorem u1562 : Cond.code yX12_placeOf cX12_placeOf 3 (some .int) ∈ uw := uc6 36 rfl rfl
set_option maxRecDepth 20000 in
theorem u1563 : Cond.methodLink RX12 95 yX12_sets ∈ uw := uc6 37 rfl rfl
set_option maxRecDepth 20000 in
theorem u1565 : Cond.instanceMethod yX12_sets ∈ uw := uc6 39 rfl rfl
set_option maxRecDepth 20000 in
theorem u1566 : Cond.code yX12_sets cX12_sets 5 none ∈ uw := uc6 40 rfl rfl
set_option maxRecDepth 20000 in
theorem u1567 : Cond.methodLink "BinsThatTellLaw" 50 yX12_get ∈ uw := uc6 41 rfl rfl
set_option maxRecDepth 20000 in
theorem u1568 : Cond.instanceMethod yX12_get ∈ uw := uc6 42 rfl rfl
set_option maxRecDepth 20000 in
theorem u1569 : Cond.selects RX12 yX12_get yX12_get ∈ uw := uc6 43 rfl rfl
set_option maxRecDepth 20000 in
theorem u1570 : Cond.code yX12_get cX12_get 4 (some .int) ∈ uw := uc6 44 rfl rfl
set_option maxRecDepth 20000 in
theorem u1571 : Cond.methodLink "BinsThatTellLaw" 55 yX12_sheet ∈ uw := uc6 45 rfl rfl
set_option maxRecDepth 20000 in
theorem u1572 : Cond.instanceMethod yX12_sheet ∈ uw := uc6 46 rfl rfl
set_option maxRecDepth 20000 in
theorem u1573 : Cond.selects RX12 yX12_sheet yX12_sheet ∈ uw := uc6 47 rfl rfl
set_option maxRecDepth 20000 in
theorem u1574 : Cond.code yX12_sheet cX12_sheet 9 (some .int) ∈ uw := uc6 48 rfl rfl
set_option maxRecDepth 20000 in
theorem u1575 : Cond.constantLong RX12 36 3 ∈ uw := uc6 49 rfl rfl
set_option maxRecDepth 20000 in
theorem u1576 : Cond.methodLink RX12 99 Lib.Math.min.name ∈ uw := uc6 50 rfl rfl
set_option maxRecDepth 20000 in
theorem u1577 : Cond.methodLink "BinsThatTellLaw" 59 yX12_sign ∈ uw := uc6 51 rfl rfl
set_option maxRecDepth 20000 in
theorem u1578 : Cond.instanceMethod yX12_sign ∈ uw := uc6 52 rfl rfl
set_option maxRecDepth 20000 in
theorem u1579 : Cond.selects RX12 yX12_sign yX12_sign ∈ uw := uc6 53 rfl rfl
set_option maxRecDepth 20000 in
theorem u158 : Cond.fieldLink RX4 11 RX4 "now" "[I" ∈ uw := uc0 72 rfl rfl
set_option maxRecDepth 20000 in
theorem u1580 : Cond.code yX12_sign cX12_sign 3 (some .int) ∈ uw := uc6 54 rfl rfl
set_option maxRecDepth 20000 in
theorem u1581 : Cond.methodLink "BinsThatTellLaw" 64 yX12_end ∈ uw := uc6 55 rfl rfl
set_option maxRecDepth 20000 in
theorem u1582 : Cond.instanceMethod yX12_end ∈ uw := uc6 56 rfl rfl
set_option maxRecDepth 20000 in
theorem u1583 : Cond.selects RX12 yX12_end yX12_end ∈ uw := uc6 57 rfl rfl
set_option maxRecDepth 20000 in
theorem u1584 : Cond.code yX12_end cX12_end 2 (some .boolean) ∈ uw := uc6 58 rfl rfl
set_option maxRecDepth 20000 in
theorem u1585 : Cond.methodLink "BinsThatTellLaw" 68 yX12_law ∈ uw := uc6 59 rfl rfl
set_option maxRecDepth 20000 in
theorem u1586 : Cond.instanceMethod yX12_law ∈ uw := uc6 60 rfl rfl
set_option maxRecDepth 20000 in
theorem u1587 : Cond.selects RX12 yX12_law yX12_law ∈ uw := uc6 61 rfl rfl
set_option maxRecDepth 20000 in
theorem u1588 : Cond.code yX12_law cX12_law 5 (some .int) ∈ uw := uc6 62 rfl rfl
set_option maxRecDepth 20000 in
theorem u1589 : Cond.methodLink RX12 181 yX12_begins ∈ uw := uc6 63 rfl rfl
set_option maxRecDepth 20000 in
theorem u159 : Cond.fieldLink RX4 17 RX4 "kept" "[[I" ∈ uw := uc0 73 rfl rfl
set_option maxRecDepth 20000 in
theorem u1591 : Cond.instanceMethod yX12_begins ∈ uw := uc6 65 rfl rfl
set_option maxRecDepth 20000 in
theorem u1592 : Cond.code yX12_begins cX12_begins 2 (some .int) ∈ uw := uc6 66 rfl rfl
set_option maxRecDepth 20000 in
theorem u1596 : Cond.methodLink RX12 158 yX12_ranked ∈ uw := uc6 70 rfl rfl
set_option maxRecDepth 20000 in
theorem u1598 : Cond.instanceMethod yX12_ranked ∈ uw := uc6 72 rfl rfl
set_option maxRecDepth 20000 in
theorem u1599 : Cond.code yX12_ranked cX12_ranked 6 (some .boolean) ∈ uw := uc6 73 rfl rfl
theorem u16 : Cond.selects RX0 yX0_gather yX0_gather ∈ uw := uw_at 16 (by decide +kernel) rfl
set_option maxRecDepth 20000 in
theorem u160 : Cond.fieldLink RX4 20 RX4 "keptR" "[I" ∈ uw := uc0 74 rfl rfl
set_option maxRecDepth 20000 in
theorem u1600 : Cond.methodLink RX12 168 yX12_ahead ∈ uw := uc6 74 rfl rfl
set_option maxRecDepth 20000 in
theorem u1602 : Cond.instanceMethod yX12_ahead ∈ uw := uc6 76 rfl rfl
set_option maxRecDepth 20000 in
theorem u1603 : Cond.code yX12_ahead cX12_ahead 3 (some .boolean) ∈ uw := uc6 77 rfl rfl
set_option maxRecDepth 20000 in
theorem u1605 : Cond.methodLink RX12 152 yX12_among ∈ uw := uc6 79 rfl rfl
set_option maxRecDepth 20000 in
theorem u1607 : Cond.instanceMethod yX12_among ∈ uw := uc6 81 rfl rfl
set_option maxRecDepth 20000 in
theorem u1608 : Cond.code yX12_among cX12_among 3 (some .int) ∈ uw := uc6 82 rfl rfl
set_option maxRecDepth 20000 in
theorem u1609 : Cond.methodLink RX12 124 yJ0_length_8abf5 ∈ uw := uc6 83 rfl rfl
set_option maxRecDepth 20000 in
theorem u161 : Cond.fieldLink RX4 23 RX4 "isKept" "[Z" ∈ uw := uc0 75 rfl rfl
set_option maxRecDepth 20000 in
theorem u1610 : Cond.methodLink RX12 130 yJ0_charAt_5068e ∈ uw := uc6 84 rfl rfl
set_option maxRecDepth 20000 in
theorem u1611 : Cond.instanceMethod yJ0_charAt_5068e ∈ uw := uc6 85 rfl rfl
set_option maxRecDepth 20000 in
theorem u1612 : Cond.selects RJ0 yJ0_charAt_5068e yJ0_charAt_5068e ∈ uw := uc6 86 rfl rfl
set_option maxRecDepth 20000 in
theorem u1613 : Cond.code yJ0_charAt_5068e cJ0_charAt_5068e 2 (some .char) ∈ uw := uc6 87 rfl rfl
set_option maxRecDepth 20000 in
theorem u1614 : Cond.methodLink RJ0 495 yJ1_charAt_3b067 ∈ uw := uc6 88 rfl rfl
set_option maxRecDepth 20000 in
theorem u1615 : Cond.static yJ1_charAt_3b067 ∈ uw := uc6 89 rfl rfl
set_option maxRecDepth 20000 in
theorem u1616 : Cond.code yJ1_charAt_3b067 cJ1_charAt_3b067 2 (some .char) ∈ uw := uc6 90 rfl rfl
set_option maxRecDepth 20000 in
theorem u1617 : Cond.methodLink RJ1 9 yJ0_checkIndex_df160 ∈ uw := uc6 91 rfl rfl
set_option maxRecDepth 20000 in
theorem u1618 : Cond.static yJ0_checkIndex_df160 ∈ uw := uc6 92 rfl rfl
set_option maxRecDepth 20000 in
theorem u1619 : Cond.code yJ0_checkIndex_df160 cJ0_checkIndex_df160 2 none ∈ uw := uc6 93 rfl rfl
set_option maxRecDepth 20000 in
theorem u162 : Cond.fieldLink RX4 27 RX4 "\x72" "I" ∈ uw := uc0 76 rfl rfl
set_option maxRecDepth 20000 in
theorem u1620 : Cond.methodLink RJ0 1059 yJ3_checkIndex_8e157 ∈ uw := uc6 94 rfl rfl
set_option maxRecDepth 20000 in
theorem u1621 : Cond.static yJ3_checkIndex_8e157 ∈ uw := uc6 95 rfl rfl
set_option maxRecDepth 20000 in
theorem u1622 : Cond.code yJ3_checkIndex_8e157 cJ3_checkIndex_8e157 3 (some .int) ∈ uw := uc6 96 rfl rfl
set_option maxRecDepth 20000 in
theorem u1630 : Cond.methodLink RX12 165 yX12_thing ∈ uw := uc6 104 rfl rfl
set_option maxRecDepth 20000 in
theorem u1632 : Cond.instanceMethod yX12_thing ∈ uw := uc6 106 rfl rfl
set_option maxRecDepth 20000 in
theorem u1633 : Cond.code yX12_thing cX12_thing 3 (some .boolean) ∈ uw := uc6 107 rfl rfl
set_option maxRecDepth 20000 in
theorem u1634 : Cond.methodLink RX12 140 yX12_isDigit ∈ uw := uc6 108 rfl rfl
set_option maxRecDepth 20000 in
theorem u1636 : Cond.instanceMethod yX12_isDigit ∈ uw := uc6 110 rfl rfl
set_option maxRecDepth 20000 in
theorem u1637 : Cond.code yX12_isDigit cX12_isDigit 1 (some .boolean) ∈ uw := uc6 111 rfl rfl
set_option maxRecDepth 20000 in
theorem u1638 : Cond.constantLong RX12 120 48 ∈ uw := uc6 112 rfl rfl
set_option maxRecDepth 20000 in
theorem u1639 : Cond.constantLong RX12 122 57 ∈ uw := uc6 113 rfl rfl
set_option maxRecDepth 20000 in
theorem u1640 : Cond.methodLink RX12 144 yX12_marks ∈ uw := uc6 114 rfl rfl
set_option maxRecDepth 20000 in
theorem u1642 : Cond.instanceMethod yX12_marks ∈ uw := uc6 116 rfl rfl
set_option maxRecDepth 20000 in
theorem u1643 : Cond.code yX12_marks cX12_marks 2 none ∈ uw := uc6 117 rfl rfl
set_option maxRecDepth 20000 in
theorem u1651 : Cond.methodLink RX12 190 yX12_fault ∈ uw := uc6 125 rfl rfl
set_option maxRecDepth 20000 in
theorem u1653 : Cond.instanceMethod yX12_fault ∈ uw := uc6 127 rfl rfl
set_option maxRecDepth 20000 in
theorem u1654 : Cond.code yX12_fault cX12_fault 4 (some .int) ∈ uw := uc6 128 rfl rfl
set_option maxRecDepth 20000 in
theorem u1655 : Cond.methodLink "BinsThatTellLaw" 73 yX12_live ∈ uw := uc6 129 rfl rfl
set_option maxRecDepth 20000 in
theorem u1656 : Cond.instanceMethod yX12_live ∈ uw := uc6 130 rfl rfl
set_option maxRecDepth 20000 in
theorem u1657 : Cond.selects RX12 yX12_live yX12_live ∈ uw := uc6 131 rfl rfl
set_option maxRecDepth 20000 in
theorem u1658 : Cond.code yX12_live cX12_live 11 (some .int) ∈ uw := uc6 132 rfl rfl
set_option maxRecDepth 20000 in
theorem u1659 : Cond.methodLink RX12 236 yX12_isStreet ∈ uw := uc6 133 rfl rfl
set_option maxRecDepth 20000 in
theorem u1661 : Cond.instanceMethod yX12_isStreet ∈ uw := uc6 135 rfl rfl
set_option maxRecDepth 20000 in
theorem u1662 : Cond.code yX12_isStreet cX12_isStreet 2 (some .boolean) ∈ uw := uc6 136 rfl rfl
set_option maxRecDepth 20000 in
theorem u1663 : Cond.methodLink RX12 239 yX12_lawed ∈ uw := uc6 137 rfl rfl
set_option maxRecDepth 20000 in
theorem u1665 : Cond.instanceMethod yX12_lawed ∈ uw := uc6 139 rfl rfl
set_option maxRecDepth 20000 in
theorem u1666 : Cond.code yX12_lawed cX12_lawed 5 (some .int) ∈ uw := uc6 140 rfl rfl
set_option maxRecDepth 20000 in
theorem u1667 : Cond.methodLink RX12 230 yX12_worked ∈ uw := uc6 141 rfl rfl
set_option maxRecDepth 20000 in
theorem u1669 : Cond.instanceMethod yX12_worked ∈ uw := uc6 143 rfl rfl
set_option maxRecDepth 20000 in
theorem u1670 : Cond.code yX12_worked cX12_worked 5 (some .int) ∈ uw := uc6 144 rfl rfl
set_option maxRecDepth 20000 in
theorem u1671 : Cond.methodLink RX12 224 yX12_valueOf ∈ uw := uc6 145 rfl rfl
set_option maxRecDepth 20000 in
theorem u1673 : Cond.instanceMethod yX12_valueOf ∈ uw := uc6 147 rfl rfl
set_option maxRecDepth 20000 in
theorem u1674 : Cond.code yX12_valueOf cX12_valueOf 2 (some .int) ∈ uw := uc6 148 rfl rfl
set_option maxRecDepth 20000 in
theorem u1675 : Cond.methodLink RX12 207 yX12_flag ∈ uw := uc6 149 rfl rfl
set_option maxRecDepth 20000 in
theorem u1676 : Cond.static yX12_flag ∈ uw := uc6 150 rfl rfl
set_option maxRecDepth 20000 in
theorem u1677 : Cond.code yX12_flag cX12_flag 1 (some .int) ∈ uw := uc6 151 rfl rfl
set_option maxRecDepth 20000 in
theorem u1678 : Cond.methodLink RX12 211 yX12_draws ∈ uw := uc6 152 rfl rfl
set_option maxRecDepth 20000 in
theorem u1680 : Cond.instanceMethod yX12_draws ∈ uw := uc6 154 rfl rfl
set_option maxRecDepth 20000 in
theorem u1681 : Cond.code yX12_draws cX12_draws 2 (some .int) ∈ uw := uc6 155 rfl rfl
set_option maxRecDepth 20000 in
theorem u1682 : Cond.constant RX12 197 1103515245 ∈ uw := uc6 156 rfl rfl
set_option maxRecDepth 20000 in
theorem u1683 : Cond.methodLink RX12 227 yX12_acted ∈ uw := uc6 157 rfl rfl
set_option maxRecDepth 20000 in
theorem u1684 : Cond.static yX12_acted ∈ uw := uc6 158 rfl rfl
set_option maxRecDepth 20000 in
theorem u1685 : Cond.code yX12_acted cX12_acted 3 (some .int) ∈ uw := uc6 159 rfl rfl
set_option maxRecDepth 20000 in
theorem u1686 : Cond.methodLink RX12 233 Lib.Math.max.name ∈ uw := uc6 160 rfl rfl
set_option maxRecDepth 20000 in
theorem u1687 : Cond.methodLink RX12 242 yX12_bags ∈ uw := uc6 161 rfl rfl
set_option maxRecDepth 20000 in
theorem u1689 : Cond.instanceMethod yX12_bags ∈ uw := uc6 163 rfl rfl
set_option maxRecDepth 20000 in
theorem u1690 : Cond.code yX12_bags cX12_bags 4 none ∈ uw := uc6 164 rfl rfl
set_option maxRecDepth 20000 in
theorem u1691 : Cond.methodLink "BinsThatTellLaw" 77 yX12_seed ∈ uw := uc6 165 rfl rfl
set_option maxRecDepth 20000 in
theorem u1692 : Cond.instanceMethod yX12_seed ∈ uw := uc6 166 rfl rfl
set_option maxRecDepth 20000 in
theorem u1693 : Cond.selects RX12 yX12_seed yX12_seed ∈ uw := uc6 167 rfl rfl
set_option maxRecDepth 20000 in
theorem u1694 : Cond.code yX12_seed cX12_seed 3 (some .int) ∈ uw := uc6 168 rfl rfl
set_option maxRecDepth 20000 in
theorem u1695 : Cond.methodLink "BinsThatTellLaw" 81 yX12_sum ∈ uw := uc6 169 rfl rfl
set_option maxRecDepth 20000 in
theorem u1696 : Cond.instanceMethod yX12_sum ∈ uw := uc6 170 rfl rfl
set_option maxRecDepth 20000 in
theorem u1697 : Cond.selects RX12 yX12_sum yX12_sum ∈ uw := uc6 171 rfl rfl
set_option maxRecDepth 20000 in
theorem u1698 : Cond.code yX12_sum cX12_sum 8 (some .int) ∈ uw := uc6 172 rfl rfl
set_option maxRecDepth 20000 in
theorem u1699 : Cond.constantLong RX12 246 255 ∈ uw := uc6 173 rfl rfl
theorem u17 : Cond.selects RX0 yX0_isWhole yX0_isWhole ∈ uw := uw_at 17 (by decide +kernel) rfl
set_option maxRecDepth 20000 in
theorem u1700 : Cond.constantLong RX12 248 4095 ∈ uw := uc6 174 rfl rfl
set_option maxRecDepth 20000 in
theorem u1701 : Cond.methodLink RX12 250 yX12_has ∈ uw := uc6 175 rfl rfl
set_option maxRecDepth 20000 in
theorem u1702 : Cond.static yX12_has ∈ uw := uc6 176 rfl rfl
set_option maxRecDepth 20000 in
theorem u1703 : Cond.code yX12_has cX12_has 2 (some .boolean) ∈ uw := uc6 177 rfl rfl
set_option maxRecDepth 20000 in
theorem u1704 : Cond.methodLink RX12 254 yX12_isTold ∈ uw := uc6 178 rfl rfl
set_option maxRecDepth 20000 in
theorem u1706 : Cond.instanceMethod yX12_isTold ∈ uw := uc6 180 rfl rfl
set_option maxRecDepth 20000 in
theorem u1707 : Cond.code yX12_isTold cX12_isTold 4 (some .boolean) ∈ uw := uc6 181 rfl rfl
set_option maxRecDepth 20000 in
theorem u1708 : Cond.methodLink RX12 18 yX12_enters ∈ uw := uc6 182 rfl rfl
set_option maxRecDepth 20000 in
theorem u1710 : Cond.instanceMethod yX12_enters ∈ uw := uc6 184 rfl rfl
set_option maxRecDepth 20000 in
theorem u1711 : Cond.code yX12_enters cX12_enters 3 none ∈ uw := uc6 185 rfl rfl
set_option maxRecDepth 20000 in
theorem u1712 : Cond.methodLink "BinsThatTellLaw" 85 yX12_bounds ∈ uw := uc6 186 rfl rfl
set_option maxRecDepth 20000 in
theorem u1713 : Cond.instanceMethod yX12_bounds ∈ uw := uc6 187 rfl rfl
set_option maxRecDepth 20000 in
theorem u1714 : Cond.selects RX12 yX12_bounds yX12_bounds ∈ uw := uc6 188 rfl rfl
set_option maxRecDepth 20000 in
theorem u1715 : Cond.code yX12_bounds cX12_bounds 6 (some .int) ∈ uw := uc6 189 rfl rfl
set_option maxRecDepth 20000 in
theorem u1716 : Cond.methodLink RX12 258 yX12_entersFraction ∈ uw := uc6 190 rfl rfl
set_option maxRecDepth 20000 in
theorem u1718 : Cond.instanceMethod yX12_entersFraction ∈ uw := uc6 192 rfl rfl
set_option maxRecDepth 20000 in
theorem u1719 : Cond.code yX12_entersFraction cX12_entersFraction 7 none ∈ uw := uc6 193 rfl rfl
set_option maxRecDepth 20000 in
theorem u1720 : Cond.methodLink RX12 14 yX12_common ∈ uw := uc6 194 rfl rfl
set_option maxRecDepth 20000 in
theorem u1721 : Cond.static yX12_common ∈ uw := uc6 195 rfl rfl
set_option maxRecDepth 20000 in
theorem u1722 : Cond.code yX12_common cX12_common 10 (some .long) ∈ uw := uc6 196 rfl rfl
set_option maxRecDepth 20000 in
theorem u1723 : Cond.methodLink RX12 262 yX12_goesAll ∈ uw := uc6 197 rfl rfl
set_option maxRecDepth 20000 in
theorem u1725 : Cond.instanceMethod yX12_goesAll ∈ uw := uc6 199 rfl rfl
set_option maxRecDepth 20000 in
theorem u1726 : Cond.code yX12_goesAll cX12_goesAll 2 (some .int) ∈ uw := uc6 200 rfl rfl
set_option maxRecDepth 20000 in
theorem u1727 : Cond.constantLong RX12 265 10000 ∈ uw := uc6 201 rfl rfl
set_option maxRecDepth 20000 in
theorem u1728 : Cond.methodLink "BinsThatTellLaw" 89 yX12_line ∈ uw := uc6 202 rfl rfl
set_option maxRecDepth 20000 in
theorem u1729 : Cond.instanceMethod yX12_line ∈ uw := uc6 203 rfl rfl
set_option maxRecDepth 20000 in
theorem u1730 : Cond.selects RX12 yX12_line yX12_line ∈ uw := uc6 204 rfl rfl
set_option maxRecDepth 20000 in
theorem u1731 : Cond.code yX12_line cX12_line 10 (some .int) ∈ uw := uc6 205 rfl rfl
set_option maxRecDepth 20000 in
theorem u1732 : Cond.methodLink RX12 267 yX12_isWay ∈ uw := uc6 206 rfl rfl
set_option maxRecDepth 20000 in
theorem u1733 : Cond.static yX12_isWay ∈ uw := uc6 207 rfl rfl
set_option maxRecDepth 20000 in
theorem u1734 : Cond.code yX12_isWay cX12_isWay 1 (some .boolean) ∈ uw := uc6 208 rfl rfl
set_option maxRecDepth 20000 in
theorem u1735 : Cond.methodLink "BinsThatTellLaw" 93 yX12_off ∈ uw := uc6 209 rfl rfl
set_option maxRecDepth 20000 in
theorem u1736 : Cond.instanceMethod yX12_off ∈ uw := uc6 210 rfl rfl
set_option maxRecDepth 20000 in
theorem u1737 : Cond.selects RX12 yX12_off yX12_off ∈ uw := uc6 211 rfl rfl
set_option maxRecDepth 20000 in
theorem u1738 : Cond.code yX12_off cX12_off 3 (some .int) ∈ uw := uc6 212 rfl rfl
set_option maxRecDepth 20000 in
theorem u1739 : Cond.methodLink RX12 288 yX12_offs ∈ uw := uc6 213 rfl rfl
set_option maxRecDepth 20000 in
theorem u174 : Cond.arrayClass .boolean ∈ uw := uc0 88 rfl rfl
set_option maxRecDepth 20000 in
theorem u1741 : Cond.instanceMethod yX12_offs ∈ uw := uc6 215 rfl rfl
set_option maxRecDepth 20000 in
theorem u1742 : Cond.code yX12_offs cX12_offs 5 none ∈ uw := uc6 216 rfl rfl
set_option maxRecDepth 20000 in
theorem u1743 : Cond.methodLink "BinsThatTellLaw" 97 yX12_nearest ∈ uw := uc6 217 rfl rfl
set_option maxRecDepth 20000 in
theorem u1744 : Cond.instanceMethod yX12_nearest ∈ uw := uc6 218 rfl rfl
set_option maxRecDepth 20000 in
theorem u1745 : Cond.selects RX12 yX12_nearest yX12_nearest ∈ uw := uc6 219 rfl rfl
set_option maxRecDepth 20000 in
theorem u1746 : Cond.code yX12_nearest cX12_nearest 12 (some .int) ∈ uw := uc6 220 rfl rfl
set_option maxRecDepth 20000 in
theorem u1747 : Cond.methodLink RX12 292 Lib.Math.abs.name ∈ uw := uc6 221 rfl rfl
set_option maxRecDepth 20000 in
theorem u1748 : Cond.methodLink "BinsThatTellLaw" 101 yX12_worst ∈ uw := uc6 222 rfl rfl
set_option maxRecDepth 20000 in
theorem u1749 : Cond.instanceMethod yX12_worst ∈ uw := uc6 223 rfl rfl
set_option maxRecDepth 20000 in
theorem u175 : Cond.classLink RX11 30 RX2 ∈ uw := uc0 89 rfl rfl
set_option maxRecDepth 20000 in
theorem u1750 : Cond.selects RX12 yX12_worst yX12_worst ∈ uw := uc6 224 rfl rfl
set_option maxRecDepth 20000 in
theorem u1751 : Cond.code yX12_worst cX12_worst 11 (some .int) ∈ uw := uc6 225 rfl rfl
set_option maxRecDepth 20000 in
theorem u1752 : Cond.methodLink "BinsThatTellLaw" 105 yX12_right ∈ uw := uc6 226 rfl rfl
set_option maxRecDepth 20000 in
theorem u1753 : Cond.instanceMethod yX12_right ∈ uw := uc6 227 rfl rfl
set_option maxRecDepth 20000 in
theorem u1754 : Cond.selects RX12 yX12_right yX12_right ∈ uw := uc6 228 rfl rfl
set_option maxRecDepth 20000 in
theorem u1755 : Cond.code yX12_right cX12_right 12 (some .int) ∈ uw := uc6 229 rfl rfl
set_option maxRecDepth 20000 in
theorem u1756 : Cond.methodLink RX12 295 yJ13_signum_95d88 ∈ uw := uc6 230 rfl rfl
set_option maxRecDepth 20000 in
theorem u1757 : Cond.static yJ13_signum_95d88 ∈ uw := uc6 231 rfl rfl
set_option maxRecDepth 20000 in
theorem u1758 : Cond.code yJ13_signum_95d88 cJ13_signum_95d88 2 (some .int) ∈ uw := uc6 232 rfl rfl
set_option maxRecDepth 20000 in
theorem u1759 : Cond.methodLink RX12 301 yJ6_signum_0f7a4 ∈ uw := uc6 233 rfl rfl
set_option maxRecDepth 20000 in
theorem u176 : Cond.instantiable RX2 11 ∈ uw := uc0 90 rfl rfl
set_option maxRecDepth 20000 in
theorem u1760 : Cond.static yJ6_signum_0f7a4 ∈ uw := uc6 234 rfl rfl
set_option maxRecDepth 20000 in
theorem u1761 : Cond.code yJ6_signum_0f7a4 cJ6_signum_0f7a4 1 (some .int) ∈ uw := uc6 235 rfl rfl
set_option maxRecDepth 20000 in
theorem u1762 : Cond.methodLink "BinsThatTellLaw" 109 yX12_three ∈ uw := uc6 236 rfl rfl
set_option maxRecDepth 20000 in
theorem u1763 : Cond.instanceMethod yX12_three ∈ uw := uc6 237 rfl rfl
set_option maxRecDepth 20000 in
theorem u1764 : Cond.selects RX12 yX12_three yX12_three ∈ uw := uc6 238 rfl rfl
set_option maxRecDepth 20000 in
theorem u1765 : Cond.code yX12_three cX12_three 7 (some .int) ∈ uw := uc6 239 rfl rfl
set_option maxRecDepth 20000 in
theorem u1766 : Cond.methodLink RX12 313 yX12_threeMany ∈ uw := uc7 0 rfl rfl
set_option maxRecDepth 20000 in
theorem u1768 : Cond.instanceMethod yX12_threeMany ∈ uw := uc7 2 rfl rfl
set_option maxRecDepth 20000 in
theorem u1769 : Cond.code yX12_threeMany cX12_threeMany 4 (some .int) ∈ uw := uc7 3 rfl rfl
set_option maxRecDepth 20000 in
theorem u177 : Cond.methodLink RX11 32 yX2_init ∈ uw := uc0 91 rfl rfl
set_option maxRecDepth 20000 in
theorem u1770 : Cond.methodLink RX12 305 yX12_areTold ∈ uw := uc7 4 rfl rfl
set_option maxRecDepth 20000 in
theorem u1772 : Cond.instanceMethod yX12_areTold ∈ uw := uc7 6 rfl rfl
set_option maxRecDepth 20000 in
theorem u1773 : Cond.code yX12_areTold cX12_areTold 3 (some .boolean) ∈ uw := uc7 7 rfl rfl
set_option maxRecDepth 20000 in
theorem u1774 : Cond.methodLink RX12 316 yX12_together ∈ uw := uc7 8 rfl rfl
set_option maxRecDepth 20000 in
theorem u1776 : Cond.instanceMethod yX12_together ∈ uw := uc7 10 rfl rfl
set_option maxRecDepth 20000 in
theorem u1777 : Cond.code yX12_together cX12_together 17 (some .long) ∈ uw := uc7 11 rfl rfl
set_option maxRecDepth 20000 in
theorem u1778 : Cond.methodLink RX12 320 yX12_thousandths ∈ uw := uc7 12 rfl rfl
set_option maxRecDepth 20000 in
theorem u1779 : Cond.static yX12_thousandths ∈ uw := uc7 13 rfl rfl
set_option maxRecDepth 20000 in
theorem u178 : Cond.instanceMethod yX2_init ∈ uw := uc0 92 rfl rfl
set_option maxRecDepth 20000 in
theorem u1780 : Cond.code yX12_thousandths cX12_thousandths 18 (some .long) ∈ uw := uc7 14 rfl rfl
set_option maxRecDepth 20000 in
theorem u1781 : Cond.constantLong RX12 311 10 ∈ uw := uc7 15 rfl rfl
set_option maxRecDepth 20000 in
theorem u1782 : Cond.methodLink "BinsThatTellLaw" 113 yX12_slope ∈ uw := uc7 16 rfl rfl
set_option maxRecDepth 20000 in
theorem u1783 : Cond.instanceMethod yX12_slope ∈ uw := uc7 17 rfl rfl
set_option maxRecDepth 20000 in
theorem u1784 : Cond.selects RX12 yX12_slope yX12_slope ∈ uw := uc7 18 rfl rfl
set_option maxRecDepth 20000 in
theorem u1785 : Cond.code yX12_slope cX12_slope 3 (some .int) ∈ uw := uc7 19 rfl rfl
set_option maxRecDepth 20000 in
theorem u1786 : Cond.methodLink "BinsThatTellLaw" 117 yX12_others ∈ uw := uc7 20 rfl rfl
set_option maxRecDepth 20000 in
theorem u1787 : Cond.instanceMethod yX12_others ∈ uw := uc7 21 rfl rfl
set_option maxRecDepth 20000 in
theorem u1788 : Cond.selects RX12 yX12_others yX12_others ∈ uw := uc7 22 rfl rfl
set_option maxRecDepth 20000 in
theorem u1789 : Cond.code yX12_others cX12_others 13 (some .int) ∈ uw := uc7 23 rfl rfl
set_option maxRecDepth 20000 in
theorem u179 : Cond.code yX2_init cX2_init 2 none ∈ uw := uc0 93 rfl rfl
set_option maxRecDepth 20000 in
theorem u1790 : Cond.constantLong RX12 323 2 ∈ uw := uc7 24 rfl rfl
set_option maxRecDepth 20000 in
theorem u1791 : Cond.methodLink RX12 325 yX12_areNeighbours ∈ uw := uc7 25 rfl rfl
set_option maxRecDepth 20000 in
theorem u1793 : Cond.instanceMethod yX12_areNeighbours ∈ uw := uc7 27 rfl rfl
set_option maxRecDepth 20000 in
theorem u1794 : Cond.code yX12_areNeighbours cX12_areNeighbours 4 (some .boolean) ∈ uw := uc7 28 rfl rfl
set_option maxRecDepth 20000 in
theorem u1795 : Cond.methodLink "BinsThatTellLaw" 121 yX12_worth ∈ uw := uc7 29 rfl rfl
set_option maxRecDepth 20000 in
theorem u1796 : Cond.instanceMethod yX12_worth ∈ uw := uc7 30 rfl rfl
set_option maxRecDepth 20000 in
theorem u1797 : Cond.selects RX12 yX12_worth yX12_worth ∈ uw := uc7 31 rfl rfl
set_option maxRecDepth 20000 in
theorem u1798 : Cond.code yX12_worth cX12_worth 13 (some .int) ∈ uw := uc7 32 rfl rfl
set_option maxRecDepth 20000 in
theorem u1799 : Cond.methodLink "BinsThatTellLaw" 125 yX12_waste ∈ uw := uc7 33 rfl rfl
theorem u18 : Cond.selects RX0 yX0_gatherOne yX0_gatherOne ∈ uw := uw_at 18 (by decide +kernel) rfl
set_option maxRecDepth 20000 in
theorem u180 : Cond.methodLinkNest RX2 1 yX1_init RX11 ∈ zNw := un0 94 rfl rfl
set_option maxRecDepth 20000 in
theorem u1800 : Cond.instanceMethod yX12_waste ∈ uw := uc7 34 rfl rfl
set_option maxRecDepth 20000 in
theorem u1801 : Cond.selects RX12 yX12_waste yX12_waste ∈ uw := uc7 35 rfl rfl
set_option maxRecDepth 20000 in
theorem u1802 : Cond.code yX12_waste cX12_waste 4 (some .int) ∈ uw := uc7 36 rfl rfl
set_option maxRecDepth 20000 in
theorem u1803 : Cond.methodLink RX12 334 yX12_wastes ∈ uw := uc7 37 rfl rfl
set_option maxRecDepth 20000 in
theorem u1805 : Cond.instanceMethod yX12_wastes ∈ uw := uc7 39 rfl rfl
set_option maxRecDepth 20000 in
theorem u1806 : Cond.code yX12_wastes cX12_wastes 4 none ∈ uw := uc7 40 rfl rfl
set_option maxRecDepth 20000 in
theorem u1807 : Cond.methodLink "BinsThatTellLaw" 130 yX12_story ∈ uw := uc7 41 rfl rfl
set_option maxRecDepth 20000 in
theorem u1808 : Cond.instanceMethod yX12_story ∈ uw := uc7 42 rfl rfl
set_option maxRecDepth 20000 in
theorem u1809 : Cond.selects RX12 yX12_story yX12_story ∈ uw := uc7 43 rfl rfl
set_option maxRecDepth 20000 in
theorem u181 : Cond.instanceMethod yX1_init ∈ uw := uc0 95 rfl rfl
set_option maxRecDepth 20000 in
theorem u1810 : Cond.code yX12_story cX12_story 7 (some .int) ∈ uw := uc7 44 rfl rfl
set_option maxRecDepth 20000 in
theorem u1811 : Cond.methodLink RX12 351 yX12_readsClaim ∈ uw := uc7 45 rfl rfl
set_option maxRecDepth 20000 in
theorem u1813 : Cond.instanceMethod yX12_readsClaim ∈ uw := uc7 47 rfl rfl
set_option maxRecDepth 20000 in
theorem u1814 : Cond.code yX12_readsClaim cX12_readsClaim 2 (some .boolean) ∈ uw := uc7 48 rfl rfl
set_option maxRecDepth 20000 in
theorem u1817 : Cond.methodLink "BinsThatTellLaw" 134 yX12_holds ∈ uw := uc7 51 rfl rfl
set_option maxRecDepth 20000 in
theorem u1818 : Cond.instanceMethod yX12_holds ∈ uw := uc7 52 rfl rfl
set_option maxRecDepth 20000 in
theorem u1819 : Cond.selects RX12 yX12_holds yX12_holds ∈ uw := uc7 53 rfl rfl
set_option maxRecDepth 20000 in
theorem u182 : Cond.code yX1_init cX1_init 1 none ∈ uw := uc0 96 rfl rfl
set_option maxRecDepth 20000 in
theorem u1820 : Cond.code yX12_holds cX12_holds 4 (some .int) ∈ uw := uc7 54 rfl rfl
set_option maxRecDepth 20000 in
theorem u1821 : Cond.methodLink RX12 380 yX12_holding ∈ uw := uc7 55 rfl rfl
set_option maxRecDepth 20000 in
theorem u1823 : Cond.instanceMethod yX12_holding ∈ uw := uc7 57 rfl rfl
set_option maxRecDepth 20000 in
theorem u1824 : Cond.code yX12_holding cX12_holding 4 (some .int) ∈ uw := uc7 58 rfl rfl
set_option maxRecDepth 20000 in
theorem u1825 : Cond.methodLink RX12 374 yX12_means ∈ uw := uc7 59 rfl rfl
set_option maxRecDepth 20000 in
theorem u1827 : Cond.instanceMethod yX12_means ∈ uw := uc7 61 rfl rfl
set_option maxRecDepth 20000 in
theorem u1828 : Cond.code yX12_means cX12_means 7 none ∈ uw := uc7 62 rfl rfl
set_option maxRecDepth 20000 in
theorem u1829 : Cond.methodLink RX12 377 yX12_fails ∈ uw := uc7 63 rfl rfl
set_option maxRecDepth 20000 in
theorem u183 : Cond.methodLink RX1 3 Lib.objectInit ∈ uw := uc0 97 rfl rfl
set_option maxRecDepth 20000 in
theorem u1831 : Cond.instanceMethod yX12_fails ∈ uw := uc7 65 rfl rfl
set_option maxRecDepth 20000 in
theorem u1832 : Cond.code yX12_fails cX12_fails 8 (some .int) ∈ uw := uc7 66 rfl rfl
set_option maxRecDepth 20000 in
theorem u1833 : Cond.methodLink "BinsThatTellLaw" 138 yX12_parts ∈ uw := uc7 67 rfl rfl
set_option maxRecDepth 20000 in
theorem u1834 : Cond.instanceMethod yX12_parts ∈ uw := uc7 68 rfl rfl
set_option maxRecDepth 20000 in
theorem u1835 : Cond.selects RX12 yX12_parts yX12_parts ∈ uw := uc7 69 rfl rfl
set_option maxRecDepth 20000 in
theorem u1836 : Cond.code yX12_parts cX12_parts 5 (some .int) ∈ uw := uc7 70 rfl rfl
set_option maxRecDepth 20000 in
theorem u1837 : Cond.methodLink RX12 383 yJ6_bitCount_0f7a4 ∈ uw := uc7 71 rfl rfl
set_option maxRecDepth 20000 in
theorem u1838 : Cond.methodLink "BinsThatTellLaw" 142 yX12_twice ∈ uw := uc7 72 rfl rfl
set_option maxRecDepth 20000 in
theorem u1839 : Cond.instanceMethod yX12_twice ∈ uw := uc7 73 rfl rfl
set_option maxRecDepth 20000 in
theorem u184 : Cond.fieldLink RX2 13 RX2 "numbers" "LBinsThatTell$Numbers;" ∈ uw := uc0 98 rfl rfl
set_option maxRecDepth 20000 in
theorem u1840 : Cond.selects RX12 yX12_twice yX12_twice ∈ uw := uc7 74 rfl rfl
set_option maxRecDepth 20000 in
theorem u1841 : Cond.code yX12_twice cX12_twice 4 (some .int) ∈ uw := uc7 75 rfl rfl
set_option maxRecDepth 20000 in
theorem u1842 : Cond.constantLong RX12 386 99 ∈ uw := uc7 76 rfl rfl
set_option maxRecDepth 20000 in
theorem u1843 : Cond.methodLink "BinsThatTellLaw" 146 yX12_alike ∈ uw := uc7 77 rfl rfl
set_option maxRecDepth 20000 in
theorem u1844 : Cond.instanceMethod yX12_alike ∈ uw := uc7 78 rfl rfl
set_option maxRecDepth 20000 in
theorem u1845 : Cond.selects RX12 yX12_alike yX12_alike ∈ uw := uc7 79 rfl rfl
set_option maxRecDepth 20000 in
theorem u1846 : Cond.code yX12_alike cX12_alike 8 (some .int) ∈ uw := uc7 80 rfl rfl
set_option maxRecDepth 20000 in
theorem u1847 : Cond.methodLink RX12 394 yX12_tookFor ∈ uw := uc7 81 rfl rfl
set_option maxRecDepth 20000 in
theorem u1849 : Cond.instanceMethod yX12_tookFor ∈ uw := uc7 83 rfl rfl
set_option maxRecDepth 20000 in
theorem u185 : Cond.fieldLink RX2 7 RX2 "known" "[I" ∈ uw := uc0 99 rfl rfl
set_option maxRecDepth 20000 in
theorem u1850 : Cond.code yX12_tookFor cX12_tookFor 5 (some .int) ∈ uw := uc7 84 rfl rfl
set_option maxRecDepth 20000 in
theorem u1851 : Cond.methodLink "BinsThatTellLaw" 150 yX12_mixed ∈ uw := uc7 85 rfl rfl
set_option maxRecDepth 20000 in
theorem u1852 : Cond.instanceMethod yX12_mixed ∈ uw := uc7 86 rfl rfl
set_option maxRecDepth 20000 in
theorem u1853 : Cond.selects RX12 yX12_mixed yX12_mixed ∈ uw := uc7 87 rfl rfl
set_option maxRecDepth 20000 in
theorem u1854 : Cond.code yX12_mixed cX12_mixed 7 (some .int) ∈ uw := uc7 88 rfl rfl
set_option maxRecDepth 20000 in
theorem u1858 : Cond.code yX12_leans cX12_leans 2 (some .int) ∈ uw := uc7 92 rfl rfl
set_option maxRecDepth 20000 in
theorem u1859 : Cond.methodLink "BinsThatTellLaw" 163 yX12_truly ∈ uw := uc7 93 rfl rfl
set_option maxRecDepth 20000 in
theorem u186 : Cond.fieldLink RX2 21 RX2 "which" "I" ∈ uw := uc0 100 rfl rfl
set_option maxRecDepth 20000 in
theorem u1860 : Cond.instanceMethod yX12_truly ∈ uw := uc7 94 rfl rfl
set_option maxRecDepth 20000 in
theorem u1861 : Cond.selects RX12 yX12_truly yX12_truly ∈ uw := uc7 95 rfl rfl
set_option maxRecDepth 20000 in
theorem u1862 : Cond.code yX12_truly cX12_truly 7 (some .int) ∈ uw := uc7 96 rfl rfl
set_option maxRecDepth 20000 in
theorem u1863 : Cond.methodLink "BinsThatTellLaw" 167 yX12_moved ∈ uw := uc7 97 rfl rfl
set_option maxRecDepth 20000 in
theorem u1864 : Cond.instanceMethod yX12_moved ∈ uw := uc7 98 rfl rfl
set_option maxRecDepth 20000 in
theorem u1865 : Cond.selects RX12 yX12_moved yX12_moved ∈ uw := uc7 99 rfl rfl
set_option maxRecDepth 20000 in
theorem u1866 : Cond.code yX12_moved cX12_moved 11 (some .int) ∈ uw := uc7 100 rfl rfl
set_option maxRecDepth 20000 in
theorem u1867 : Cond.methodLink "BinsThatTellLaw" 171 yX12_feasts ∈ uw := uc7 101 rfl rfl
set_option maxRecDepth 20000 in
theorem u1868 : Cond.instanceMethod yX12_feasts ∈ uw := uc7 102 rfl rfl
set_option maxRecDepth 20000 in
theorem u1869 : Cond.selects RX12 yX12_feasts yX12_feasts ∈ uw := uc7 103 rfl rfl
set_option maxRecDepth 20000 in
theorem u187 : Cond.fieldLink RX2 33 RX2 "awaits" "Z" ∈ uw := uc0 101 rfl rfl
set_option maxRecDepth 20000 in
theorem u1870 : Cond.code yX12_feasts cX12_feasts 5 (some .int) ∈ uw := uc7 104 rfl rfl
set_option maxRecDepth 20000 in
theorem u1871 : Cond.methodLink "BinsThatTellLaw" 175 yX12_need ∈ uw := uc7 105 rfl rfl
set_option maxRecDepth 20000 in
theorem u1872 : Cond.instanceMethod yX12_need ∈ uw := uc7 106 rfl rfl
set_option maxRecDepth 20000 in
theorem u1873 : Cond.selects RX12 yX12_need yX12_need ∈ uw := uc7 107 rfl rfl
set_option maxRecDepth 20000 in
theorem u1874 : Cond.code yX12_need cX12_need 6 (some .int) ∈ uw := uc7 108 rfl rfl
set_option maxRecDepth 20000 in
theorem u1875 : Cond.methodLink RX12 414 yX12_isNeed ∈ uw := uc7 109 rfl rfl
set_option maxRecDepth 20000 in
theorem u1877 : Cond.instanceMethod yX12_isNeed ∈ uw := uc7 111 rfl rfl
set_option maxRecDepth 20000 in
theorem u1878 : Cond.code yX12_isNeed cX12_isNeed 5 (some .boolean) ∈ uw := uc7 112 rfl rfl
set_option maxRecDepth 20000 in
theorem u1879 : Cond.methodLink RX12 418 yX12_takesMean ∈ uw := uc7 113 rfl rfl
set_option maxRecDepth 20000 in
theorem u188 : Cond.fieldLink RX2 37 RX2 "open" "I" ∈ uw := uc0 102 rfl rfl
set_option maxRecDepth 20000 in
theorem u1881 : Cond.instanceMethod yX12_takesMean ∈ uw := uc7 115 rfl rfl
set_option maxRecDepth 20000 in
theorem u1882 : Cond.code yX12_takesMean cX12_takesMean 10 none ∈ uw := uc7 116 rfl rfl
set_option maxRecDepth 20000 in
theorem u1883 : Cond.constantLong RX12 409 27720 ∈ uw := uc7 117 rfl rfl
set_option maxRecDepth 20000 in
theorem u1884 : Cond.methodLink RX12 422 yX12_fewest ∈ uw := uc7 118 rfl rfl
set_option maxRecDepth 20000 in
theorem u1886 : Cond.instanceMethod yX12_fewest ∈ uw := uc7 120 rfl rfl
set_option maxRecDepth 20000 in
theorem u1887 : Cond.code yX12_fewest cX12_fewest 12 (some .int) ∈ uw := uc7 121 rfl rfl
set_option maxRecDepth 20000 in
theorem u1888 : Cond.methodLink RX12 411 Lib.MathLoose.abs_long.x ∈ uw := uc7 122 rfl rfl
set_option maxRecDepth 20000 in
theorem u1889 : Cond.methodLink "BinsThatTellLaw" 179 yX12_weeks ∈ uw := uc7 123 rfl rfl
set_option maxRecDepth 20000 in
theorem u189 : Cond.fieldLink RX2 40 RX2 "digits" "I" ∈ uw := uc0 103 rfl rfl
set_option maxRecDepth 20000 in
theorem u1890 : Cond.instanceMethod yX12_weeks ∈ uw := uc7 124 rfl rfl
set_option maxRecDepth 20000 in
theorem u1891 : Cond.selects RX12 yX12_weeks yX12_weeks ∈ uw := uc7 125 rfl rfl
set_option maxRecDepth 20000 in
theorem u1892 : Cond.code yX12_weeks cX12_weeks 6 (some .int) ∈ uw := uc7 126 rfl rfl
set_option maxRecDepth 20000 in
theorem u1893 : Cond.methodLink "BinsThatTellLaw" 183 yX12_paper ∈ uw := uc7 127 rfl rfl
set_option maxRecDepth 20000 in
theorem u1894 : Cond.instanceMethod yX12_paper ∈ uw := uc7 128 rfl rfl
set_option maxRecDepth 20000 in
theorem u1895 : Cond.selects RX12 yX12_paper yX12_paper ∈ uw := uc7 129 rfl rfl
set_option maxRecDepth 20000 in
theorem u1896 : Cond.code yX12_paper cX12_paper 4 (some .int) ∈ uw := uc7 130 rfl rfl
set_option maxRecDepth 20000 in
theorem u1897 : Cond.constantLong RX12 429 9 ∈ uw := uc7 131 rfl rfl
set_option maxRecDepth 20000 in
theorem u1898 : Cond.methodLink RX12 431 yX12_isYear ∈ uw := uc7 132 rfl rfl
set_option maxRecDepth 20000 in
theorem u1899 : Cond.static yX12_isYear ∈ uw := uc7 133 rfl rfl
theorem u19 : Cond.selects RX0 yX0_lowerOf yX0_lowerOf ∈ uw := uw_at 19 (by decide +kernel) rfl
set_option maxRecDepth 20000 in
theorem u190 : Cond.fieldLink RX2 43 RX2 "compared" "I" ∈ uw := uc0 104 rfl rfl
set_option maxRecDepth 20000 in
theorem u1900 : Cond.code yX12_isYear cX12_isYear 1 (some .boolean) ∈ uw := uc7 134 rfl rfl
set_option maxRecDepth 20000 in
theorem u1901 : Cond.constantLong RX12 425 1900 ∈ uw := uc7 135 rfl rfl
set_option maxRecDepth 20000 in
theorem u1902 : Cond.constantLong RX12 427 2100 ∈ uw := uc7 136 rfl rfl
set_option maxRecDepth 20000 in
theorem u1903 : Cond.methodLink "BinsThatTellLaw" 187 yX12_year ∈ uw := uc7 137 rfl rfl
set_option maxRecDepth 20000 in
theorem u1904 : Cond.instanceMethod yX12_year ∈ uw := uc7 138 rfl rfl
set_option maxRecDepth 20000 in
theorem u1905 : Cond.selects RX12 yX12_year yX12_year ∈ uw := uc7 139 rfl rfl
set_option maxRecDepth 20000 in
theorem u1906 : Cond.code yX12_year cX12_year 2 (some .int) ∈ uw := uc7 140 rfl rfl
set_option maxRecDepth 20000 in
theorem u1907 : Cond.methodLink RX12 452 yX12_dates ∈ uw := uc7 141 rfl rfl
set_option maxRecDepth 20000 in
theorem u1909 : Cond.instanceMethod yX12_dates ∈ uw := uc7 143 rfl rfl
set_option maxRecDepth 20000 in
theorem u191 : Cond.fieldLink RX2 67 RX2 "at" "I" ∈ uw := uc0 105 rfl rfl
set_option maxRecDepth 20000 in
theorem u1910 : Cond.code yX12_dates cX12_dates 4 (some .boolean) ∈ uw := uc7 144 rfl rfl
set_option maxRecDepth 20000 in
theorem u1911 : Cond.methodLink "BinsThatTellLaw" 191 yX12_stray ∈ uw := uc7 145 rfl rfl
set_option maxRecDepth 20000 in
theorem u1912 : Cond.instanceMethod yX12_stray ∈ uw := uc7 146 rfl rfl
set_option maxRecDepth 20000 in
theorem u1913 : Cond.selects RX12 yX12_stray yX12_stray ∈ uw := uc7 147 rfl rfl
set_option maxRecDepth 20000 in
theorem u1914 : Cond.code yX12_stray cX12_stray 4 (some .int) ∈ uw := uc7 148 rfl rfl
set_option maxRecDepth 20000 in
theorem u1915 : Cond.methodLink "BinsThatTellLaw" 195 yX12_was ∈ uw := uc7 149 rfl rfl
set_option maxRecDepth 20000 in
theorem u1916 : Cond.instanceMethod yX12_was ∈ uw := uc7 150 rfl rfl
set_option maxRecDepth 20000 in
theorem u1917 : Cond.selects RX12 yX12_was yX12_was ∈ uw := uc7 151 rfl rfl
set_option maxRecDepth 20000 in
theorem u1918 : Cond.code yX12_was cX12_was 5 (some .int) ∈ uw := uc7 152 rfl rfl
set_option maxRecDepth 20000 in
theorem u1919 : Cond.constantLong RX12 459 9999 ∈ uw := uc7 153 rfl rfl
set_option maxRecDepth 20000 in
theorem u192 : Cond.fieldLink RX2 70 RX2 "till" "I" ∈ uw := uc0 106 rfl rfl
set_option maxRecDepth 20000 in
theorem u1920 : Cond.methodLink RX12 461 yX12_once ∈ uw := uc7 154 rfl rfl
set_option maxRecDepth 20000 in
theorem u1922 : Cond.instanceMethod yX12_once ∈ uw := uc7 156 rfl rfl
set_option maxRecDepth 20000 in
theorem u1923 : Cond.code yX12_once cX12_once 5 (some .long) ∈ uw := uc7 157 rfl rfl
set_option maxRecDepth 20000 in
theorem u1924 : Cond.methodLink RX12 455 yX12_power ∈ uw := uc7 158 rfl rfl
set_option maxRecDepth 20000 in
theorem u1925 : Cond.static yX12_power ∈ uw := uc7 159 rfl rfl
set_option maxRecDepth 20000 in
theorem u1926 : Cond.code yX12_power cX12_power 6 (some .long) ∈ uw := uc7 160 rfl rfl
set_option maxRecDepth 20000 in
theorem u1927 : Cond.methodLink "BinsThatTellLaw" 200 yX12_told ∈ uw := uc7 161 rfl rfl
set_option maxRecDepth 20000 in
theorem u1928 : Cond.instanceMethod yX12_told ∈ uw := uc7 162 rfl rfl
set_option maxRecDepth 20000 in
theorem u1929 : Cond.selects RX12 yX12_told yX12_told ∈ uw := uc7 163 rfl rfl
set_option maxRecDepth 20000 in
theorem u193 : Cond.fieldLink RX1 11 RX1 "signs" "[I" ∈ uw := uc0 107 rfl rfl
set_option maxRecDepth 20000 in
theorem u1930 : Cond.code yX12_told cX12_told 3 (some .boolean) ∈ uw := uc7 164 rfl rfl
set_option maxRecDepth 20000 in
theorem u1931 : Cond.methodLink "BinsThatTellLaw" 204 yX12_does ∈ uw := uc7 165 rfl rfl
set_option maxRecDepth 20000 in
theorem u1932 : Cond.instanceMethod yX12_does ∈ uw := uc7 166 rfl rfl
set_option maxRecDepth 20000 in
theorem u1933 : Cond.selects RX12 yX12_does yX12_does ∈ uw := uc7 167 rfl rfl
set_option maxRecDepth 20000 in
theorem u1934 : Cond.code yX12_does cX12_does 14 (some .int) ∈ uw := uc7 168 rfl rfl
set_option maxRecDepth 20000 in
theorem u1935 : Cond.methodLink "BinsThatTellLaw" 208 yX12_keep ∈ uw := uc7 169 rfl rfl
set_option maxRecDepth 20000 in
theorem u1936 : Cond.instanceMethod yX12_keep ∈ uw := uc7 170 rfl rfl
set_option maxRecDepth 20000 in
theorem u1937 : Cond.selects RX12 yX12_keep yX12_keep ∈ uw := uc7 171 rfl rfl
set_option maxRecDepth 20000 in
theorem u1938 : Cond.code yX12_keep cX12_keep 3 (some .boolean) ∈ uw := uc7 172 rfl rfl
set_option maxRecDepth 20000 in
theorem u1939 : Cond.methodLink "BinsThatTellLaw" 212 yX12_again ∈ uw := uc7 173 rfl rfl
set_option maxRecDepth 20000 in
theorem u194 : Cond.fieldLink RX1 15 RX1 "sizes" "[I" ∈ uw := uc0 108 rfl rfl
set_option maxRecDepth 20000 in
theorem u1940 : Cond.instanceMethod yX12_again ∈ uw := uc7 174 rfl rfl
set_option maxRecDepth 20000 in
theorem u1941 : Cond.selects RX12 yX12_again yX12_again ∈ uw := uc7 175 rfl rfl
set_option maxRecDepth 20000 in
theorem u1942 : Cond.code yX12_again cX12_again 3 (some .boolean) ∈ uw := uc7 176 rfl rfl
set_option maxRecDepth 20000 in
theorem u1943 : Cond.methodLink "BinsThatTellLaw" 216 yX12_count ∈ uw := uc7 177 rfl rfl
set_option maxRecDepth 20000 in
theorem u1944 : Cond.instanceMethod yX12_count ∈ uw := uc7 178 rfl rfl
set_option maxRecDepth 20000 in
theorem u1945 : Cond.selects RX12 yX12_count yX12_count ∈ uw := uc7 179 rfl rfl
set_option maxRecDepth 20000 in
theorem u1946 : Cond.code yX12_count cX12_count 2 (some .int) ∈ uw := uc7 180 rfl rfl
set_option maxRecDepth 20000 in
theorem u1947 : Cond.methodLink RX12 482 yX12_lawBits ∈ uw := uc7 181 rfl rfl
set_option maxRecDepth 20000 in
theorem u1949 : Cond.instanceMethod yX12_lawBits ∈ uw := uc7 183 rfl rfl
set_option maxRecDepth 20000 in
theorem u1950 : Cond.code yX12_lawBits cX12_lawBits 3 (some .int) ∈ uw := uc7 184 rfl rfl
set_option maxRecDepth 20000 in
theorem u1951 : Cond.methodLink RX12 485 yX12_numbersTold ∈ uw := uc7 185 rfl rfl
set_option maxRecDepth 20000 in
theorem u1953 : Cond.instanceMethod yX12_numbersTold ∈ uw := uc7 187 rfl rfl
set_option maxRecDepth 20000 in
theorem u1954 : Cond.code yX12_numbersTold cX12_numbersTold 3 (some .int) ∈ uw := uc7 188 rfl rfl
set_option maxRecDepth 20000 in
theorem u1959 : Cond.methodLink RX12 488 Lib.objectInit ∈ uw := uc7 193 rfl rfl
set_option maxRecDepth 20000 in
theorem u1960 : Cond.fieldLink RX12 3 RX12 "thrown" "I" ∈ uw := uc7 194 rfl rfl
set_option maxRecDepth 20000 in
theorem u1961 : Cond.fieldLink RX12 11 RX12 "rows" "I" ∈ uw := uc7 195 rfl rfl
set_option maxRecDepth 20000 in
theorem u1962 : Cond.fieldLink RX12 7 RX12 "row" "[J" ∈ uw := uc7 196 rfl rfl
set_option maxRecDepth 20000 in
theorem u1963 : Cond.fieldLink RX12 22 RX12 "sorts" "I" ∈ uw := uc7 197 rfl rfl
set_option maxRecDepth 20000 in
theorem u1964 : Cond.fieldLink RX12 42 RX12 "leaves" "[I" ∈ uw := uc7 198 rfl rfl
set_option maxRecDepth 20000 in
theorem u1965 : Cond.fieldLink RX12 46 RX12 "rightOf" "[I" ∈ uw := uc7 199 rfl rfl
set_option maxRecDepth 20000 in
theorem u1966 : Cond.fieldLink RX12 49 RX12 "lastsOf" "[I" ∈ uw := uc7 200 rfl rfl
set_option maxRecDepth 20000 in
theorem u1967 : Cond.fieldLink RX12 56 RX12 "sink" "[I" ∈ uw := uc7 201 rfl rfl
set_option maxRecDepth 20000 in
theorem u1968 : Cond.fieldLink RX12 59 RX12 "back" "[I" ∈ uw := uc7 202 rfl rfl
set_option maxRecDepth 20000 in
theorem u1969 : Cond.fieldLink RX12 62 RX12 "corner" "[I" ∈ uw := uc7 203 rfl rfl
set_option maxRecDepth 20000 in
theorem u1970 : Cond.fieldLink RX12 29 RX12 "streets" "I" ∈ uw := uc7 204 rfl rfl
set_option maxRecDepth 20000 in
theorem u1971 : Cond.fieldLink RX12 65 RX12 "houses" "[I" ∈ uw := uc7 205 rfl rfl
set_option maxRecDepth 20000 in
theorem u1972 : Cond.fieldLink RX12 71 RX12 "isLack" "[Z" ∈ uw := uc7 206 rfl rfl
set_option maxRecDepth 20000 in
theorem u1973 : Cond.fieldLink RX12 75 RX12 "number" "[I" ∈ uw := uc7 207 rfl rfl
set_option maxRecDepth 20000 in
theorem u1974 : Cond.fieldLink RX12 194 RX12 "random" "I" ∈ uw := uc7 208 rfl rfl
set_option maxRecDepth 20000 in
theorem u1975 : Cond.fieldLink RX12 134 RX12 "code" "[I" ∈ uw := uc7 209 rfl rfl
set_option maxRecDepth 20000 in
theorem u1976 : Cond.fieldLink RX12 137 RX12 "codes" "[I" ∈ uw := uc7 210 rfl rfl
set_option maxRecDepth 20000 in
theorem u1977 : Cond.fieldLink RX12 221 RX12 "stack" "[I" ∈ uw := uc7 211 rfl rfl
set_option maxRecDepth 20000 in
theorem u1978 : Cond.fieldLink RX12 108 RX12 "tape" "[I" ∈ uw := uc7 212 rfl rfl
set_option maxRecDepth 20000 in
theorem u1979 : Cond.fieldLink RX12 105 RX12 "taped" "I" ∈ uw := uc7 213 rfl rfl
set_option maxRecDepth 20000 in
theorem u1980 : Cond.fieldLink RX12 111 RX12 "place" "I" ∈ uw := uc7 214 rfl rfl
set_option maxRecDepth 20000 in
theorem u1981 : Cond.fieldLink RX12 117 RX12 "to" "I" ∈ uw := uc7 215 rfl rfl
set_option maxRecDepth 20000 in
theorem u1982 : Cond.fieldLink RX12 114 RX12 "open" "I" ∈ uw := uc7 216 rfl rfl
set_option maxRecDepth 20000 in
theorem u1983 : Cond.fieldLink RX12 148 RX12 "signs" "Ljava/lang/String;" ∈ uw := uc7 217 rfl rfl
set_option maxRecDepth 20000 in
theorem u1984 : Cond.fieldLink RX12 198 RX12 "streetNow" "I" ∈ uw := uc7 218 rfl rfl
set_option maxRecDepth 20000 in
theorem u1985 : Cond.fieldLink RX12 201 RX12 "weekNow" "I" ∈ uw := uc7 219 rfl rfl
set_option maxRecDepth 20000 in
theorem u1986 : Cond.fieldLink RX12 204 RX12 "sortNow" "I" ∈ uw := uc7 220 rfl rfl
set_option maxRecDepth 20000 in
theorem u1987 : Cond.fieldLink RX12 215 RX12 "bought" "I" ∈ uw := uc7 221 rfl rfl
set_option maxRecDepth 20000 in
theorem u1988 : Cond.fieldLink RX12 218 RX12 "eaten" "I" ∈ uw := uc7 222 rfl rfl
set_option maxRecDepth 20000 in
theorem u1989 : Cond.fieldLink RX12 270 RX12 "offMany" "I" ∈ uw := uc7 223 rfl rfl
set_option maxRecDepth 20000 in
theorem u1990 : Cond.fieldLink RX12 273 RX12 "offSum" "I" ∈ uw := uc7 224 rfl rfl
set_option maxRecDepth 20000 in
theorem u1991 : Cond.fieldLink RX12 276 RX12 "offLeast" "I" ∈ uw := uc7 225 rfl rfl
set_option maxRecDepth 20000 in
theorem u1992 : Cond.fieldLink RX12 279 RX12 "offMost" "I" ∈ uw := uc7 226 rfl rfl
set_option maxRecDepth 20000 in
theorem u1993 : Cond.fieldLink RX12 282 RX12 "offMore" "I" ∈ uw := uc7 227 rfl rfl
set_option maxRecDepth 20000 in
theorem u1994 : Cond.fieldLink RX12 285 RX12 "offLess" "I" ∈ uw := uc7 228 rfl rfl
set_option maxRecDepth 20000 in
theorem u1995 : Cond.fieldLink RX12 308 RX12 "threeKind" "[I" ∈ uw := uc7 229 rfl rfl
set_option maxRecDepth 20000 in
theorem u1996 : Cond.fieldLink RX12 328 RX12 "wasted" "[J" ∈ uw := uc7 230 rfl rfl
set_option maxRecDepth 20000 in
theorem u1997 : Cond.fieldLink RX12 331 RX12 "sold" "[J" ∈ uw := uc7 231 rfl rfl
set_option maxRecDepth 20000 in
theorem u1998 : Cond.fieldLink RX12 348 RX12 "stories" "I" ∈ uw := uc7 232 rfl rfl
set_option maxRecDepth 20000 in
theorem u1999 : Cond.fieldLink RX12 356 RX12 "claims" "[I" ∈ uw := uc7 233 rfl rfl
theorem u2 : Cond.selects RX2 yX2_takesBehind yX2_takesBehind ∈ uw := uw_at 2 (by decide +kernel) rfl
theorem u20 : Cond.selects RX0 yX0_spread yX0_spread ∈ uw := uw_at 20 (by decide +kernel) rfl
set_option maxRecDepth 20000 in
theorem u2000 : Cond.fieldLink RX12 359 RX12 "claimOne" "[I" ∈ uw := uc7 234 rfl rfl
set_option maxRecDepth 20000 in
theorem u2001 : Cond.fieldLink RX12 362 RX12 "claimAct" "[I" ∈ uw := uc7 235 rfl rfl
set_option maxRecDepth 20000 in
theorem u2002 : Cond.fieldLink RX12 365 RX12 "claimOther" "[I" ∈ uw := uc7 236 rfl rfl
set_option maxRecDepth 20000 in
theorem u2003 : Cond.fieldLink RX12 337 RX12 "readOne" "[I" ∈ uw := uc7 237 rfl rfl
set_option maxRecDepth 20000 in
theorem u2004 : Cond.fieldLink RX12 342 RX12 "readAct" "[I" ∈ uw := uc7 238 rfl rfl
set_option maxRecDepth 20000 in
theorem u2005 : Cond.fieldLink RX12 345 RX12 "readOther" "[I" ∈ uw := uc7 239 rfl rfl
set_option maxRecDepth 20000 in
theorem u2006 : Cond.fieldLink RX12 368 RX12 "signUp" "[J" ∈ uw := uc8 0 rfl rfl
set_option maxRecDepth 20000 in
theorem u2007 : Cond.fieldLink RX12 371 RX12 "signLow" "[J" ∈ uw := uc8 1 rfl rfl
set_option maxRecDepth 20000 in
theorem u2008 : Cond.fieldLink RX12 388 RX12 "takenMany" "I" ∈ uw := uc8 2 rfl rfl
set_option maxRecDepth 20000 in
theorem u2009 : Cond.fieldLink RX12 391 RX12 "taken" "[I" ∈ uw := uc8 3 rfl rfl
set_option maxRecDepth 20000 in
theorem u2010 : Cond.fieldLink RX12 397 RX12 "inWeek" "[I" ∈ uw := uc8 4 rfl rfl
set_option maxRecDepth 20000 in
theorem u2011 : Cond.fieldLink RX12 400 RX12 "sorted" "[I" ∈ uw := uc8 5 rfl rfl
set_option maxRecDepth 20000 in
theorem u2012 : Cond.fieldLink RX12 403 RX12 "meanOf" "[J" ∈ uw := uc8 6 rfl rfl
set_option maxRecDepth 20000 in
theorem u2013 : Cond.fieldLink RX12 406 RX12 "meanMany" "I" ∈ uw := uc8 7 rfl rfl
set_option maxRecDepth 20000 in
theorem u2014 : Cond.fieldLink RX12 434 RX12 "papers" "I" ∈ uw := uc8 8 rfl rfl
set_option maxRecDepth 20000 in
theorem u2015 : Cond.fieldLink RX12 437 RX12 "paperLayer" "[I" ∈ uw := uc8 9 rfl rfl
set_option maxRecDepth 20000 in
theorem u2016 : Cond.fieldLink RX12 440 RX12 "paperFrom" "[I" ∈ uw := uc8 10 rfl rfl
set_option maxRecDepth 20000 in
theorem u2017 : Cond.fieldLink RX12 443 RX12 "paperTo" "[I" ∈ uw := uc8 11 rfl rfl
set_option maxRecDepth 20000 in
theorem u2018 : Cond.fieldLink RX12 446 RX12 "firstYear" "[I" ∈ uw := uc8 12 rfl rfl
set_option maxRecDepth 20000 in
theorem u2019 : Cond.fieldLink RX12 449 RX12 "lastYear" "[I" ∈ uw := uc8 13 rfl rfl
set_option maxRecDepth 20000 in
theorem u2020 : Cond.fieldLink RX12 464 RX12 "toldFrom" "[I" ∈ uw := uc8 14 rfl rfl
set_option maxRecDepth 20000 in
theorem u2021 : Cond.fieldLink RX12 467 RX12 "four" "[J" ∈ uw := uc8 15 rfl rfl
set_option maxRecDepth 20000 in
theorem u2022 : Cond.fieldLink RX12 470 RX12 "fourMany" "[J" ∈ uw := uc8 16 rfl rfl
set_option maxRecDepth 20000 in
theorem u2023 : Cond.fieldLink RX12 473 RX12 "isKept" "[Z" ∈ uw := uc8 17 rfl rfl
set_option maxRecDepth 20000 in
theorem u2024 : Cond.fieldLink RX12 476 RX12 "kept" "[I" ∈ uw := uc8 18 rfl rfl
set_option maxRecDepth 20000 in
theorem u2025 : Cond.fieldLink RX12 479 RX12 "keptRandom" "[I" ∈ uw := uc8 19 rfl rfl
theorem u21 : Cond.selects RX0 yX0_hasNeighbours yX0_hasNeighbours ∈ uw := uw_at 21 (by decide +kernel) rfl
set_option maxRecDepth 20000 in
theorem u2162 : Cond.code yX12_row cX12_row 2 (some .long) ∈ uw := uc8 156 rfl rfl
set_option maxRecDepth 20000 in
theorem u2163 : Cond.sameMethod RX1 RX1 "wrongPlace" "(LBinsThatTell$Text;)I" ∈ uw := uc8 157 rfl rfl
set_option maxRecDepth 20000 in
theorem u2164 : Cond.sameMethod RX1 RX1 "isText" "(I)Z" ∈ uw := uc8 158 rfl rfl
set_option maxRecDepth 20000 in
theorem u2165 : Cond.selects RX2 ⟨RX1, "isText", "(I)Z"⟩ yX1_isText ∈ uw := uc8 159 rfl rfl
set_option maxRecDepth 20000 in
theorem u2166 : Cond.selects RX8 ⟨RX1, "isText", "(I)Z"⟩ yX1_isText ∈ uw := uc8 160 rfl rfl
set_option maxRecDepth 20000 in
theorem u218 : Cond.classLink RX11 39 RX10 ∈ uw := uc0 132 rfl rfl
set_option maxRecDepth 20000 in
theorem u2183 : Cond.fieldLink RJ0 15 RJ0 "coder" "B" ∈ uw := uc8 177 rfl rfl
set_option maxRecDepth 20000 in
theorem u2184 : Cond.fieldLink RJ0 9 RJ0 "value" "[B" ∈ uw := uc8 178 rfl rfl
set_option maxRecDepth 20000 in
theorem u219 : Cond.instantiable RX10 13 ∈ uw := uc0 133 rfl rfl
theorem u22 : Cond.selects RX0 yX0_leastShare yX0_leastShare ∈ uw := uw_at 22 (by decide +kernel) rfl
set_option maxRecDepth 20000 in
theorem u220 : Cond.methodLink RX11 41 yX10_init ∈ uw := uc0 134 rfl rfl
set_option maxRecDepth 20000 in
theorem u221 : Cond.instanceMethod yX10_init ∈ uw := uc0 135 rfl rfl
set_option maxRecDepth 20000 in
theorem u222 : Cond.code yX10_init cX10_init 3 none ∈ uw := uc0 136 rfl rfl
set_option maxRecDepth 20000 in
theorem u223 : Cond.methodLink RX10 3 Lib.objectInit ∈ uw := uc0 137 rfl rfl
set_option maxRecDepth 20000 in
theorem u224 : Cond.fieldLink RX10 39 RX10 "numbers" "LBinsThatTell$Numbers;" ∈ uw := uc0 138 rfl rfl
set_option maxRecDepth 20000 in
theorem u225 : Cond.fieldLink RX10 43 RX10 "laws" "LBinsThatTell$Laws;" ∈ uw := uc0 139 rfl rfl
set_option maxRecDepth 20000 in
theorem u226 : Cond.fieldLink RX10 9 RX10 "leaves" "[I" ∈ uw := uc0 140 rfl rfl
set_option maxRecDepth 20000 in
theorem u227 : Cond.fieldLink RX10 15 RX10 "rights" "[I" ∈ uw := uc0 141 rfl rfl
set_option maxRecDepth 20000 in
theorem u228 : Cond.fieldLink RX10 18 RX10 "lasts" "[I" ∈ uw := uc0 142 rfl rfl
set_option maxRecDepth 20000 in
theorem u229 : Cond.fieldLink RX10 21 RX10 "sinks" "[I" ∈ uw := uc0 143 rfl rfl
theorem u23 : Cond.selects RX8 yX8_measureWaste yX8_measureWaste ∈ uw := uw_at 23 (by decide +kernel) rfl
set_option maxRecDepth 20000 in
theorem u230 : Cond.fieldLink RX10 24 RX10 "backs" "[I" ∈ uw := uc0 144 rfl rfl
set_option maxRecDepth 20000 in
theorem u231 : Cond.fieldLink RX10 27 RX10 "corners" "[I" ∈ uw := uc0 145 rfl rfl
set_option maxRecDepth 20000 in
theorem u232 : Cond.fieldLink RX10 30 RX10 "lackWeeks" "[I" ∈ uw := uc0 146 rfl rfl
set_option maxRecDepth 20000 in
theorem u233 : Cond.fieldLink RX10 33 RX10 "houses" "[I" ∈ uw := uc0 147 rfl rfl
set_option maxRecDepth 20000 in
theorem u234 : Cond.fieldLink RX10 36 RX10 "toldFrom" "[I" ∈ uw := uc0 148 rfl rfl
set_option maxRecDepth 20000 in
theorem u235 : Cond.fieldLink RX10 51 RX10 "sorts" "I" ∈ uw := uc0 149 rfl rfl
set_option maxRecDepth 20000 in
theorem u236 : Cond.fieldLink RX10 59 RX10 "streets" "I" ∈ uw := uc0 150 rfl rfl
theorem u24 : Cond.selects RX8 yX8_clearThings yX8_clearThings ∈ uw := uw_at 24 (by decide +kernel) rfl
theorem u25 : Cond.selects RX8 yX8_addTo yX8_addTo ∈ uw := uw_at 25 (by decide +kernel) rfl
theorem u26 : Cond.selects RX8 yX8_compareThings yX8_compareThings ∈ uw := uw_at 26 (by decide +kernel) rfl
set_option maxRecDepth 20000 in
theorem u264 : Cond.classLink RX11 48 RX0 ∈ uw := uc0 178 rfl rfl
set_option maxRecDepth 20000 in
theorem u265 : Cond.instantiable RX0 12 ∈ uw := uc0 179 rfl rfl
set_option maxRecDepth 20000 in
theorem u266 : Cond.methodLink RX11 50 yX0_init ∈ uw := uc0 180 rfl rfl
set_option maxRecDepth 20000 in
theorem u267 : Cond.instanceMethod yX0_init ∈ uw := uc0 181 rfl rfl
set_option maxRecDepth 20000 in
theorem u268 : Cond.code yX0_init cX0_init 4 none ∈ uw := uc0 182 rfl rfl
set_option maxRecDepth 20000 in
theorem u269 : Cond.methodLink RX0 3 Lib.objectInit ∈ uw := uc0 183 rfl rfl
theorem u27 : Cond.selects RX8 yX8_isHad yX8_isHad ∈ uw := uw_at 27 (by decide +kernel) rfl
set_option maxRecDepth 20000 in
theorem u270 : Cond.fieldLink RX0 18 RX0 "town" "LBinsThatTell$Town;" ∈ uw := uc0 184 rfl rfl
set_option maxRecDepth 20000 in
theorem u271 : Cond.fieldLink RX0 22 RX0 "numbers" "LBinsThatTell$Numbers;" ∈ uw := uc0 185 rfl rfl
set_option maxRecDepth 20000 in
theorem u272 : Cond.fieldLink RX0 26 RX0 "row" "LBinsThatTell$Row;" ∈ uw := uc0 186 rfl rfl
set_option maxRecDepth 20000 in
theorem u273 : Cond.fieldLink RX0 89 RX0 "cells" "I" ∈ uw := uc0 187 rfl rfl
set_option maxRecDepth 20000 in
theorem u274 : Cond.fieldLink RX0 93 RX0 "sum" "I" ∈ uw := uc0 188 rfl rfl
set_option maxRecDepth 20000 in
theorem u275 : Cond.fieldLink RX0 96 RX0 "least" "I" ∈ uw := uc0 189 rfl rfl
set_option maxRecDepth 20000 in
theorem u276 : Cond.fieldLink RX0 99 RX0 "greatest" "I" ∈ uw := uc0 190 rfl rfl
set_option maxRecDepth 20000 in
theorem u277 : Cond.fieldLink RX0 102 RX0 "tooMuch" "I" ∈ uw := uc0 191 rfl rfl
set_option maxRecDepth 20000 in
theorem u278 : Cond.fieldLink RX0 105 RX0 "tooLittle" "I" ∈ uw := uc0 192 rfl rfl
set_option maxRecDepth 20000 in
theorem u279 : Cond.fieldLink RX0 140 RX0 "gathered" "I" ∈ uw := uc0 193 rfl rfl
theorem u28 : Cond.selects RX8 yX8_judge yX8_judge ∈ uw := uw_at 28 (by decide +kernel) rfl
set_option maxRecDepth 20000 in
theorem u280 : Cond.fieldLink RX0 11 RX0 "sums" "[J" ∈ uw := uc0 194 rfl rfl
set_option maxRecDepth 20000 in
theorem u281 : Cond.fieldLink RX0 15 RX0 "products" "[J" ∈ uw := uc0 195 rfl rfl
theorem u29 : Cond.selects RX8 yX8_measureMeans yX8_measureMeans ∈ uw := uw_at 29 (by decide +kernel) rfl
theorem u3 : Cond.selects RX10 yX10_liveSort yX10_liveSort ∈ uw := uw_at 3 (by decide +kernel) rfl
theorem u30 : Cond.selects RX8 yX8_failingOf yX8_failingOf ∈ uw := uw_at 30 (by decide +kernel) rfl
set_option maxRecDepth 20000 in
theorem u307 : Cond.classLink RX11 57 RX8 ∈ uw := uc0 221 rfl rfl
set_option maxRecDepth 20000 in
theorem u308 : Cond.instantiable RX8 10 ∈ uw := uc0 222 rfl rfl
set_option maxRecDepth 20000 in
theorem u309 : Cond.methodLink RX11 59 yX8_init ∈ uw := uc0 223 rfl rfl
theorem u31 : Cond.selects RX8 yX8_isSo yX8_isSo ∈ uw := uw_at 31 (by decide +kernel) rfl
set_option maxRecDepth 20000 in
theorem u310 : Cond.instanceMethod yX8_init ∈ uw := uc0 224 rfl rfl
set_option maxRecDepth 20000 in
theorem u311 : Cond.code yX8_init cX8_init 4 none ∈ uw := uc0 225 rfl rfl
set_option maxRecDepth 20000 in
theorem u312 : Cond.methodLinkNest RX8 3 yX1_init RX11 ∈ zNw := un0 226 rfl rfl
set_option maxRecDepth 20000 in
theorem u313 : Cond.fieldLink RX8 22 RX8 "town" "LBinsThatTell$Town;" ∈ uw := uc0 227 rfl rfl
set_option maxRecDepth 20000 in
theorem u314 : Cond.fieldLink RX8 26 RX8 "numbers" "LBinsThatTell$Numbers;" ∈ uw := uc0 228 rfl rfl
set_option maxRecDepth 20000 in
theorem u315 : Cond.fieldLink RX8 30 RX8 "row" "LBinsThatTell$Row;" ∈ uw := uc0 229 rfl rfl
set_option maxRecDepth 20000 in
theorem u316 : Cond.fieldLink RX8 34 RX8 "stories" "I" ∈ uw := uc0 230 rfl rfl
set_option maxRecDepth 20000 in
theorem u317 : Cond.fieldLink RX8 42 RX8 "taken" "I" ∈ uw := uc0 231 rfl rfl
set_option maxRecDepth 20000 in
theorem u318 : Cond.fieldLink RX8 11 RX8 "uppers" "[J" ∈ uw := uc0 232 rfl rfl
set_option maxRecDepth 20000 in
theorem u319 : Cond.fieldLink RX8 15 RX8 "lowers" "[J" ∈ uw := uc0 233 rfl rfl
theorem u32 : Cond.selects RX7 yX7_takenAs yX7_takenAs ∈ uw := uw_at 32 (by decide +kernel) rfl
set_option maxRecDepth 20000 in
theorem u320 : Cond.fieldLink RX8 18 RX8 "failing" "[I" ∈ uw := uc0 234 rfl rfl
theorem u33 : Cond.selects RX7 yX7_takenByFirst yX7_takenByFirst ∈ uw := uw_at 33 (by decide +kernel) rfl
theorem u34 : Cond.selects RX7 yX7_takenBySecond yX7_takenBySecond ∈ uw := uw_at 34 (by decide +kernel) rfl
set_option maxRecDepth 20000 in
theorem u340 : Cond.classLink RX11 64 RX7 ∈ uw := uc1 14 rfl rfl
set_option maxRecDepth 20000 in
theorem u341 : Cond.instantiable RX7 5 ∈ uw := uc1 15 rfl rfl
set_option maxRecDepth 20000 in
theorem u342 : Cond.methodLink RX11 66 yX7_init ∈ uw := uc1 16 rfl rfl
set_option maxRecDepth 20000 in
theorem u343 : Cond.instanceMethod yX7_init ∈ uw := uc1 17 rfl rfl
set_option maxRecDepth 20000 in
theorem u344 : Cond.code yX7_init cX7_init 4 none ∈ uw := uc1 18 rfl rfl
set_option maxRecDepth 20000 in
theorem u345 : Cond.methodLink RX7 3 Lib.objectInit ∈ uw := uc1 19 rfl rfl
set_option maxRecDepth 20000 in
theorem u346 : Cond.fieldLink RX7 15 RX7 "town" "LBinsThatTell$Town;" ∈ uw := uc1 20 rfl rfl
set_option maxRecDepth 20000 in
theorem u347 : Cond.fieldLink RX7 19 RX7 "numbers" "LBinsThatTell$Numbers;" ∈ uw := uc1 21 rfl rfl
set_option maxRecDepth 20000 in
theorem u348 : Cond.fieldLink RX7 23 RX7 "row" "LBinsThatTell$Row;" ∈ uw := uc1 22 rfl rfl
set_option maxRecDepth 20000 in
theorem u349 : Cond.fieldLink RX7 9 RX7 "taken" "[I" ∈ uw := uc1 23 rfl rfl
theorem u35 : Cond.selects RX6 yX6_bagsOf yX6_bagsOf ∈ uw := uw_at 35 (by decide +kernel) rfl
set_option maxRecDepth 20000 in
theorem u350 : Cond.fieldLink RX7 27 RX7 "pieces" "I" ∈ uw := uc1 24 rfl rfl
theorem u36 : Cond.selects RX6 yX6_insert yX6_insert ∈ uw := uw_at 36 (by decide +kernel) rfl
set_option maxRecDepth 20000 in
theorem u362 : Cond.classLink RX11 71 RX6 ∈ uw := uc1 36 rfl rfl
set_option maxRecDepth 20000 in
theorem u363 : Cond.instantiable RX6 11 ∈ uw := uc1 37 rfl rfl
set_option maxRecDepth 20000 in
theorem u364 : Cond.methodLink RX11 73 yX6_init ∈ uw := uc1 38 rfl rfl
set_option maxRecDepth 20000 in
theorem u365 : Cond.instanceMethod yX6_init ∈ uw := uc1 39 rfl rfl
set_option maxRecDepth 20000 in
theorem u366 : Cond.code yX6_init cX6_init 4 none ∈ uw := uc1 40 rfl rfl
set_option maxRecDepth 20000 in
theorem u367 : Cond.methodLink RX6 3 Lib.objectInit ∈ uw := uc1 41 rfl rfl
set_option maxRecDepth 20000 in
theorem u368 : Cond.fieldLink RX6 34 RX6 "town" "LBinsThatTell$Town;" ∈ uw := uc1 42 rfl rfl
set_option maxRecDepth 20000 in
theorem u369 : Cond.fieldLink RX6 38 RX6 "numbers" "LBinsThatTell$Numbers;" ∈ uw := uc1 43 rfl rfl
theorem u37 : Cond.selects RX6 yX6_gatherMeans yX6_gatherMeans ∈ uw := uw_at 37 (by decide +kernel) rfl
set_option maxRecDepth 20000 in
theorem u370 : Cond.fieldLink RX6 42 RX6 "row" "LBinsThatTell$Row;" ∈ uw := uc1 44 rfl rfl
set_option maxRecDepth 20000 in
theorem u371 : Cond.fieldLink RX6 9 RX6 "totals" "[I" ∈ uw := uc1 45 rfl rfl
set_option maxRecDepth 20000 in
theorem u372 : Cond.fieldLink RX6 15 RX6 "sorted" "[I" ∈ uw := uc1 46 rfl rfl
set_option maxRecDepth 20000 in
theorem u373 : Cond.fieldLink RX6 18 RX6 "means" "[J" ∈ uw := uc1 47 rfl rfl
set_option maxRecDepth 20000 in
theorem u374 : Cond.fieldLink RX6 110 RX6 "many" "I" ∈ uw := uc1 48 rfl rfl
set_option maxRecDepth 20000 in
theorem u375 : Cond.fieldLink RX6 22 RX6 "ways" "[I" ∈ uw := uc1 49 rfl rfl
set_option maxRecDepth 20000 in
theorem u376 : Cond.fieldLink RX6 25 RX6 "nearWays" "[I" ∈ uw := uc1 50 rfl rfl
set_option maxRecDepth 20000 in
theorem u377 : Cond.fieldLink RX6 28 RX6 "sums" "[J" ∈ uw := uc1 51 rfl rfl
set_option maxRecDepth 20000 in
theorem u378 : Cond.fieldLink RX6 31 RX6 "cells" "[J" ∈ uw := uc1 52 rfl rfl
theorem u38 : Cond.selects RX6 yX6_countWays yX6_countWays ∈ uw := uw_at 38 (by decide +kernel) rfl
theorem u39 : Cond.selects RX3 yX3_clash yX3_clash ∈ uw := uw_at 39 (by decide +kernel) rfl
theorem u4 : Cond.selects RX2 yX2_either yX2_either ∈ uw := uw_at 4 (by decide +kernel) rfl
theorem u40 : Cond.selects RX3 yX3_allPapers yX3_allPapers ∈ uw := uw_at 40 (by decide +kernel) rfl
set_option maxRecDepth 20000 in
theorem u402 : Cond.classLink RX11 78 RX3 ∈ uw := uc1 76 rfl rfl
set_option maxRecDepth 20000 in
theorem u403 : Cond.instantiable RX3 7 ∈ uw := uc1 77 rfl rfl
set_option maxRecDepth 20000 in
theorem u404 : Cond.methodLink RX11 80 yX3_init ∈ uw := uc1 78 rfl rfl
set_option maxRecDepth 20000 in
theorem u405 : Cond.instanceMethod yX3_init ∈ uw := uc1 79 rfl rfl
set_option maxRecDepth 20000 in
theorem u406 : Cond.code yX3_init cX3_init 3 none ∈ uw := uc1 80 rfl rfl
set_option maxRecDepth 20000 in
theorem u407 : Cond.methodLink RX3 3 Lib.objectInit ∈ uw := uc1 81 rfl rfl
set_option maxRecDepth 20000 in
theorem u408 : Cond.fieldLink RX3 24 RX3 "town" "LBinsThatTell$Town;" ∈ uw := uc1 82 rfl rfl
set_option maxRecDepth 20000 in
theorem u409 : Cond.fieldLink RX3 28 RX3 "row" "LBinsThatTell$Row;" ∈ uw := uc1 83 rfl rfl
theorem u41 : Cond.selects RX3 yX3_goTogether yX3_goTogether ∈ uw := uw_at 41 (by decide +kernel) rfl
set_option maxRecDepth 20000 in
theorem u410 : Cond.fieldLink RX3 11 RX3 "layers" "[I" ∈ uw := uc1 84 rfl rfl
set_option maxRecDepth 20000 in
theorem u411 : Cond.fieldLink RX3 15 RX3 "firsts" "[I" ∈ uw := uc1 85 rfl rfl
set_option maxRecDepth 20000 in
theorem u412 : Cond.fieldLink RX3 18 RX3 "lasts" "[I" ∈ uw := uc1 86 rfl rfl
set_option maxRecDepth 20000 in
theorem u413 : Cond.fieldLink RX3 21 RX3 "clashes" "[I" ∈ uw := uc1 87 rfl rfl
set_option maxRecDepth 20000 in
theorem u414 : Cond.fieldLink RX3 32 RX3 "papers" "I" ∈ uw := uc1 88 rfl rfl
theorem u42 : Cond.selects RX3 yX3_firstYearOf yX3_firstYearOf ∈ uw := uw_at 42 (by decide +kernel) rfl
theorem u43 : Cond.selects RX3 yX3_lastYearOf yX3_lastYearOf ∈ uw := uw_at 43 (by decide +kernel) rfl
set_option maxRecDepth 20000 in
theorem u430 : Cond.fieldLink RX11 12 RX11 "theRow" "LBinsThatTell$Row;" ∈ uw := uc1 104 rfl rfl
set_option maxRecDepth 20000 in
theorem u431 : Cond.fieldLink RX11 19 RX11 "theText" "LBinsThatTell$Text;" ∈ uw := uc1 105 rfl rfl
set_option maxRecDepth 20000 in
theorem u432 : Cond.fieldLink RX11 26 RX11 "numbers" "LBinsThatTell$Numbers;" ∈ uw := uc1 106 rfl rfl
set_option maxRecDepth 20000 in
theorem u433 : Cond.fieldLink RX11 35 RX11 "laws" "LBinsThatTell$Laws;" ∈ uw := uc1 107 rfl rfl
set_option maxRecDepth 20000 in
theorem u434 : Cond.fieldLink RX11 44 RX11 "town" "LBinsThatTell$Town;" ∈ uw := uc1 108 rfl rfl
set_option maxRecDepth 20000 in
theorem u435 : Cond.fieldLink RX11 53 RX11 "answers" "LBinsThatTell$Answers;" ∈ uw := uc1 109 rfl rfl
set_option maxRecDepth 20000 in
theorem u436 : Cond.fieldLink RX11 60 RX11 "stories" "LBinsThatTell$Stories;" ∈ uw := uc1 110 rfl rfl
set_option maxRecDepth 20000 in
theorem u437 : Cond.fieldLink RX11 67 RX11 "sorters" "LBinsThatTell$Sorters;" ∈ uw := uc1 111 rfl rfl
set_option maxRecDepth 20000 in
theorem u438 : Cond.fieldLink RX11 74 RX11 "samples" "LBinsThatTell$Samples;" ∈ uw := uc1 112 rfl rfl
set_option maxRecDepth 20000 in
theorem u439 : Cond.fieldLink RX11 83 RX11 "mound" "LBinsThatTell$Mound;" ∈ uw := uc1 113 rfl rfl
theorem u44 : Cond.selects RX6 yX6_gatherGroups yX6_gatherGroups ∈ uw := uw_at 44 (by decide +kernel) rfl
theorem u46 : Cond.selects RX12 yX12_isSort yX12_isSort ∈ uw := uw_at 46 (by decide +kernel) rfl
set_option maxRecDepth 20000 in
theorem u461 : Cond.methodLink "BinsThatTellLaw" 23 yX11_sort ∈ uw := uc1 135 rfl rfl
set_option maxRecDepth 20000 in
theorem u462 : Cond.instanceMethod yX11_sort ∈ uw := uc1 136 rfl rfl
set_option maxRecDepth 20000 in
theorem u463 : Cond.selects RX11 yX11_sort yX11_sort ∈ uw := uc1 137 rfl rfl
set_option maxRecDepth 20000 in
theorem u464 : Cond.code yX11_sort cX11_sort 4 (some .int) ∈ uw := uc1 138 rfl rfl
set_option maxRecDepth 20000 in
theorem u465 : Cond.methodLink RX11 87 yX10_addSort ∈ uw := uc1 139 rfl rfl
set_option maxRecDepth 20000 in
theorem u466 : Cond.instanceMethod yX10_addSort ∈ uw := uc1 140 rfl rfl
set_option maxRecDepth 20000 in
theorem u467 : Cond.selects RX10 yX10_addSort yX10_addSort ∈ uw := uc1 141 rfl rfl
set_option maxRecDepth 20000 in
theorem u468 : Cond.code yX10_addSort cX10_addSort 5 (some .int) ∈ uw := uc1 142 rfl rfl
set_option maxRecDepth 20000 in
theorem u469 : Cond.methodLinkNest RX10 47 yX11_between RX11 ∈ zNw := un1 143 rfl rfl
theorem u47 : Cond.selects RX12 yX12_isCell yX12_isCell ∈ uw := uw_at 47 (by decide +kernel) rfl
set_option maxRecDepth 20000 in
theorem u470 : Cond.static yX11_between ∈ uw := uc1 144 rfl rfl
set_option maxRecDepth 20000 in
theorem u471 : Cond.code yX11_between cX11_between 3 (some .boolean) ∈ uw := uc1 145 rfl rfl
set_option maxRecDepth 20000 in
theorem u472 : Cond.methodLink "BinsThatTellLaw" 28 yX11_goes ∈ uw := uc1 146 rfl rfl
set_option maxRecDepth 20000 in
theorem u473 : Cond.instanceMethod yX11_goes ∈ uw := uc1 147 rfl rfl
set_option maxRecDepth 20000 in
theorem u474 : Cond.selects RX11 yX11_goes yX11_goes ∈ uw := uc1 148 rfl rfl
set_option maxRecDepth 20000 in
theorem u475 : Cond.code yX11_goes cX11_goes 5 (some .boolean) ∈ uw := uc1 149 rfl rfl
set_option maxRecDepth 20000 in
theorem u476 : Cond.methodLink RX11 91 yX10_setGone ∈ uw := uc1 150 rfl rfl
set_option maxRecDepth 20000 in
theorem u477 : Cond.instanceMethod yX10_setGone ∈ uw := uc1 151 rfl rfl
set_option maxRecDepth 20000 in
theorem u478 : Cond.selects RX10 yX10_setGone yX10_setGone ∈ uw := uc1 152 rfl rfl
set_option maxRecDepth 20000 in
theorem u479 : Cond.code yX10_setGone cX10_setGone 6 (some .boolean) ∈ uw := uc1 153 rfl rfl
theorem u48 : Cond.selects RX12 yX12_at yX12_at ∈ uw := uw_at 48 (by decide +kernel) rfl
set_option maxRecDepth 20000 in
theorem u480 : Cond.methodLink RX10 55 yX10_hasSort ∈ uw := uc1 154 rfl rfl
set_option maxRecDepth 20000 in
theorem u481 : Cond.instanceMethod yX10_hasSort ∈ uw := uc1 155 rfl rfl
set_option maxRecDepth 20000 in
theorem u482 : Cond.selects RX10 yX10_hasSort yX10_hasSort ∈ uw := uc1 156 rfl rfl
set_option maxRecDepth 20000 in
theorem u483 : Cond.code yX10_hasSort cX10_hasSort 2 (some .boolean) ∈ uw := uc1 157 rfl rfl
set_option maxRecDepth 20000 in
theorem u484 : Cond.methodLink "BinsThatTellLaw" 33 yX11_street ∈ uw := uc1 158 rfl rfl
set_option maxRecDepth 20000 in
theorem u485 : Cond.instanceMethod yX11_street ∈ uw := uc1 159 rfl rfl
set_option maxRecDepth 20000 in
theorem u486 : Cond.selects RX11 yX11_street yX11_street ∈ uw := uc1 160 rfl rfl
set_option maxRecDepth 20000 in
theorem u487 : Cond.code yX11_street cX11_street 2 (some .int) ∈ uw := uc1 161 rfl rfl
set_option maxRecDepth 20000 in
theorem u488 : Cond.methodLink RX11 95 yX10_addStreet ∈ uw := uc1 162 rfl rfl
set_option maxRecDepth 20000 in
theorem u489 : Cond.instanceMethod yX10_addStreet ∈ uw := uc1 163 rfl rfl
theorem u49 : Cond.selects RX12 yX12_sets yX12_sets ∈ uw := uw_at 49 (by decide +kernel) rfl
set_option maxRecDepth 20000 in
theorem u490 : Cond.selects RX10 yX10_addStreet yX10_addStreet ∈ uw := uc1 164 rfl rfl
set_option maxRecDepth 20000 in
theorem u491 : Cond.code yX10_addStreet cX10_addStreet 2 (some .int) ∈ uw := uc1 165 rfl rfl
set_option maxRecDepth 20000 in
theorem u492 : Cond.methodLink "BinsThatTellLaw" 37 yX11_lack ∈ uw := uc1 166 rfl rfl
set_option maxRecDepth 20000 in
theorem u493 : Cond.instanceMethod yX11_lack ∈ uw := uc1 167 rfl rfl
set_option maxRecDepth 20000 in
theorem u494 : Cond.selects RX11 yX11_lack yX11_lack ∈ uw := uc1 168 rfl rfl
set_option maxRecDepth 20000 in
theorem u495 : Cond.code yX11_lack cX11_lack 4 (some .boolean) ∈ uw := uc1 169 rfl rfl
set_option maxRecDepth 20000 in
theorem u496 : Cond.methodLink RX11 99 yX10_setLack ∈ uw := uc1 170 rfl rfl
set_option maxRecDepth 20000 in
theorem u497 : Cond.instanceMethod yX10_setLack ∈ uw := uc1 171 rfl rfl
set_option maxRecDepth 20000 in
theorem u498 : Cond.selects RX10 yX10_setLack yX10_setLack ∈ uw := uc1 172 rfl rfl
set_option maxRecDepth 20000 in
theorem u499 : Cond.code yX10_setLack cX10_setLack 5 (some .boolean) ∈ uw := uc1 173 rfl rfl
theorem u5 : Cond.selects RX2 yX2_both yX2_both ∈ uw := uw_at 5 (by decide +kernel) rfl
theorem u50 : Cond.selects RX12 yX12_begins yX12_begins ∈ uw := uw_at 50 (by decide +kernel) rfl
set_option maxRecDepth 20000 in
theorem u500 : Cond.methodLinkNest RX10 62 yX11_isWeek RX11 ∈ zNw := un1 174 rfl rfl
set_option maxRecDepth 20000 in
theorem u501 : Cond.static yX11_isWeek ∈ uw := uc1 175 rfl rfl
set_option maxRecDepth 20000 in
theorem u502 : Cond.code yX11_isWeek cX11_isWeek 1 (some .boolean) ∈ uw := uc1 176 rfl rfl
set_option maxRecDepth 20000 in
theorem u503 : Cond.methodLink RX11 107 yX11_between ∈ uw := uc1 177 rfl rfl
set_option maxRecDepth 20000 in
theorem u504 : Cond.methodLink "BinsThatTellLaw" 42 yX11_put ∈ uw := uc1 178 rfl rfl
set_option maxRecDepth 20000 in
theorem u505 : Cond.instanceMethod yX11_put ∈ uw := uc1 179 rfl rfl
set_option maxRecDepth 20000 in
theorem u506 : Cond.selects RX11 yX11_put yX11_put ∈ uw := uc1 180 rfl rfl
set_option maxRecDepth 20000 in
theorem u507 : Cond.code yX11_put cX11_put 6 (some .int) ∈ uw := uc1 181 rfl rfl
set_option maxRecDepth 20000 in
theorem u508 : Cond.methodLink RX11 103 yX10_hasNumber ∈ uw := uc1 182 rfl rfl
set_option maxRecDepth 20000 in
theorem u509 : Cond.instanceMethod yX10_hasNumber ∈ uw := uc1 183 rfl rfl
theorem u51 : Cond.selects RX12 yX12_ranked yX12_ranked ∈ uw := uw_at 51 (by decide +kernel) rfl
set_option maxRecDepth 20000 in
theorem u510 : Cond.selects RX10 yX10_hasNumber yX10_hasNumber ∈ uw := uc1 184 rfl rfl
set_option maxRecDepth 20000 in
theorem u511 : Cond.code yX10_hasNumber cX10_hasNumber 4 (some .boolean) ∈ uw := uc1 185 rfl rfl
set_option maxRecDepth 20000 in
theorem u512 : Cond.methodLinkNest RX10 72 yX11_isKind RX11 ∈ zNw := un1 186 rfl rfl
set_option maxRecDepth 20000 in
theorem u513 : Cond.static yX11_isKind ∈ uw := uc1 187 rfl rfl
set_option maxRecDepth 20000 in
theorem u514 : Cond.code yX11_isKind cX11_isKind 1 (some .boolean) ∈ uw := uc1 188 rfl rfl
set_option maxRecDepth 20000 in
theorem u515 : Cond.methodLink RX10 75 yX10_hasCell ∈ uw := uc1 189 rfl rfl
set_option maxRecDepth 20000 in
theorem u516 : Cond.instanceMethod yX10_hasCell ∈ uw := uc1 190 rfl rfl
set_option maxRecDepth 20000 in
theorem u517 : Cond.selects RX10 yX10_hasCell yX10_hasCell ∈ uw := uc1 191 rfl rfl
set_option maxRecDepth 20000 in
theorem u518 : Cond.code yX10_hasCell cX10_hasCell 2 (some .boolean) ∈ uw := uc1 192 rfl rfl
set_option maxRecDepth 20000 in
theorem u519 : Cond.methodLink RX10 68 yX10_cellCount ∈ uw := uc1 193 rfl rfl
theorem u52 : Cond.selects RX12 yX12_ahead yX12_ahead ∈ uw := uw_at 52 (by decide +kernel) rfl
set_option maxRecDepth 20000 in
theorem u520 : Cond.instanceMethod yX10_cellCount ∈ uw := uc1 194 rfl rfl
set_option maxRecDepth 20000 in
theorem u521 : Cond.selects RX10 yX10_cellCount yX10_cellCount ∈ uw := uc1 195 rfl rfl
set_option maxRecDepth 20000 in
theorem u522 : Cond.code yX10_cellCount cX10_cellCount 1 (some .int) ∈ uw := uc1 196 rfl rfl
set_option maxRecDepth 20000 in
theorem u523 : Cond.methodLink RX11 110 yX4_of ∈ uw := uc1 197 rfl rfl
set_option maxRecDepth 20000 in
theorem u524 : Cond.instanceMethod yX4_of ∈ uw := uc1 198 rfl rfl
set_option maxRecDepth 20000 in
theorem u525 : Cond.selects RX4 yX4_of yX4_of ∈ uw := uc1 199 rfl rfl
set_option maxRecDepth 20000 in
theorem u526 : Cond.code yX4_of cX4_of 5 (some .int) ∈ uw := uc1 200 rfl rfl
set_option maxRecDepth 20000 in
theorem u527 : Cond.methodLink RX4 31 yX4_placeOf ∈ uw := uc1 201 rfl rfl
set_option maxRecDepth 20000 in
theorem u528 : Cond.static yX4_placeOf ∈ uw := uc1 202 rfl rfl
set_option maxRecDepth 20000 in
theorem u529 : Cond.code yX4_placeOf cX4_placeOf 4 (some .int) ∈ uw := uc1 203 rfl rfl
theorem u53 : Cond.selects RX12 yX12_among yX12_among ∈ uw := uw_at 53 (by decide +kernel) rfl
set_option maxRecDepth 20000 in
theorem u530 : Cond.methodLink RX11 113 yX4_change ∈ uw := uc1 204 rfl rfl
set_option maxRecDepth 20000 in
theorem u531 : Cond.instanceMethod yX4_change ∈ uw := uc1 205 rfl rfl
set_option maxRecDepth 20000 in
theorem u532 : Cond.selects RX4 yX4_change yX4_change ∈ uw := uc1 206 rfl rfl
set_option maxRecDepth 20000 in
theorem u533 : Cond.code yX4_change cX4_change 6 none ∈ uw := uc1 207 rfl rfl
set_option maxRecDepth 20000 in
theorem u534 : Cond.methodLink "BinsThatTellLaw" 47 yX11_get ∈ uw := uc1 208 rfl rfl
set_option maxRecDepth 20000 in
theorem u535 : Cond.instanceMethod yX11_get ∈ uw := uc1 209 rfl rfl
set_option maxRecDepth 20000 in
theorem u536 : Cond.selects RX11 yX11_get yX11_get ∈ uw := uc1 210 rfl rfl
set_option maxRecDepth 20000 in
theorem u537 : Cond.code yX11_get cX11_get 4 (some .int) ∈ uw := uc1 211 rfl rfl
set_option maxRecDepth 20000 in
theorem u538 : Cond.methodLink "BinsThatTellLaw" 51 yX11_sheet ∈ uw := uc1 212 rfl rfl
set_option maxRecDepth 20000 in
theorem u539 : Cond.instanceMethod yX11_sheet ∈ uw := uc1 213 rfl rfl
theorem u54 : Cond.selects RX12 yX12_thing yX12_thing ∈ uw := uw_at 54 (by decide +kernel) rfl
set_option maxRecDepth 20000 in
theorem u540 : Cond.selects RX11 yX11_sheet yX11_sheet ∈ uw := uc1 214 rfl rfl
set_option maxRecDepth 20000 in
theorem u541 : Cond.code yX11_sheet cX11_sheet 6 (some .int) ∈ uw := uc1 215 rfl rfl
set_option maxRecDepth 20000 in
theorem u542 : Cond.methodLink RX11 117 yX10_readSheet ∈ uw := uc1 216 rfl rfl
set_option maxRecDepth 20000 in
theorem u543 : Cond.instanceMethod yX10_readSheet ∈ uw := uc1 217 rfl rfl
set_option maxRecDepth 20000 in
theorem u544 : Cond.selects RX10 yX10_readSheet yX10_readSheet ∈ uw := uc1 218 rfl rfl
set_option maxRecDepth 20000 in
theorem u545 : Cond.code yX10_readSheet cX10_readSheet 9 (some .int) ∈ uw := uc1 219 rfl rfl
set_option maxRecDepth 20000 in
theorem u546 : Cond.methodLink RX10 82 yX10_entryOf ∈ uw := uc1 220 rfl rfl
set_option maxRecDepth 20000 in
theorem u547 : Cond.static yX10_entryOf ∈ uw := uc1 221 rfl rfl
set_option maxRecDepth 20000 in
theorem u548 : Cond.code yX10_entryOf cX10_entryOf 2 (some .int) ∈ uw := uc1 222 rfl rfl
set_option maxRecDepth 20000 in
theorem u549 : Cond.methodLinkNest RX10 86 yX11_within RX11 ∈ zNw := un1 223 rfl rfl
theorem u55 : Cond.selects RX12 yX12_isDigit yX12_isDigit ∈ uw := uw_at 55 (by decide +kernel) rfl
set_option maxRecDepth 20000 in
theorem u550 : Cond.static yX11_within ∈ uw := uc1 224 rfl rfl
set_option maxRecDepth 20000 in
theorem u551 : Cond.code yX11_within cX11_within 3 (some .int) ∈ uw := uc1 225 rfl rfl
set_option maxRecDepth 20000 in
theorem u552 : Cond.methodLink RX10 90 yX4_change ∈ uw := uc1 226 rfl rfl
set_option maxRecDepth 20000 in
theorem u553 : Cond.methodLink "BinsThatTellLaw" 56 yX11_sign ∈ uw := uc1 227 rfl rfl
set_option maxRecDepth 20000 in
theorem u554 : Cond.instanceMethod yX11_sign ∈ uw := uc1 228 rfl rfl
set_option maxRecDepth 20000 in
theorem u555 : Cond.selects RX11 yX11_sign yX11_sign ∈ uw := uc1 229 rfl rfl
set_option maxRecDepth 20000 in
theorem u556 : Cond.code yX11_sign cX11_sign 2 (some .int) ∈ uw := uc1 230 rfl rfl
set_option maxRecDepth 20000 in
theorem u557 : Cond.methodLink RX11 121 yX9_append ∈ uw := uc1 231 rfl rfl
set_option maxRecDepth 20000 in
theorem u558 : Cond.instanceMethod yX9_append ∈ uw := uc1 232 rfl rfl
set_option maxRecDepth 20000 in
theorem u559 : Cond.selects RX9 yX9_append yX9_append ∈ uw := uc1 233 rfl rfl
theorem u56 : Cond.selects RX12 yX12_marks yX12_marks ∈ uw := uw_at 56 (by decide +kernel) rfl
set_option maxRecDepth 20000 in
theorem u560 : Cond.code yX9_append cX9_append 3 (some .int) ∈ uw := uc1 234 rfl rfl
set_option maxRecDepth 20000 in
theorem u561 : Cond.methodLink "BinsThatTellLaw" 60 yX11_end ∈ uw := uc1 235 rfl rfl
set_option maxRecDepth 20000 in
theorem u562 : Cond.instanceMethod yX11_end ∈ uw := uc1 236 rfl rfl
set_option maxRecDepth 20000 in
theorem u563 : Cond.selects RX11 yX11_end yX11_end ∈ uw := uc1 237 rfl rfl
set_option maxRecDepth 20000 in
theorem u564 : Cond.code yX11_end cX11_end 2 (some .boolean) ∈ uw := uc1 238 rfl rfl
set_option maxRecDepth 20000 in
theorem u565 : Cond.methodLink RX11 124 yX9_cut ∈ uw := uc1 239 rfl rfl
set_option maxRecDepth 20000 in
theorem u566 : Cond.instanceMethod yX9_cut ∈ uw := uc2 0 rfl rfl
set_option maxRecDepth 20000 in
theorem u567 : Cond.selects RX9 yX9_cut yX9_cut ∈ uw := uc2 1 rfl rfl
set_option maxRecDepth 20000 in
theorem u568 : Cond.code yX9_cut cX9_cut 2 (some .boolean) ∈ uw := uc2 2 rfl rfl
set_option maxRecDepth 20000 in
theorem u569 : Cond.methodLink "BinsThatTellLaw" 65 yX11_law ∈ uw := uc2 3 rfl rfl
theorem u57 : Cond.selects RX12 yX12_fault yX12_fault ∈ uw := uw_at 57 (by decide +kernel) rfl
set_option maxRecDepth 20000 in
theorem u570 : Cond.instanceMethod yX11_law ∈ uw := uc2 4 rfl rfl
set_option maxRecDepth 20000 in
theorem u571 : Cond.selects RX11 yX11_law yX11_law ∈ uw := uc2 5 rfl rfl
set_option maxRecDepth 20000 in
theorem u572 : Cond.code yX11_law cX11_law 3 (some .int) ∈ uw := uc2 6 rfl rfl
set_option maxRecDepth 20000 in
theorem u573 : Cond.methodLink RX11 128 yX2_isLaw ∈ uw := uc2 7 rfl rfl
set_option maxRecDepth 20000 in
theorem u574 : Cond.instanceMethod yX2_isLaw ∈ uw := uc2 8 rfl rfl
set_option maxRecDepth 20000 in
theorem u575 : Cond.selects RX2 yX2_isLaw yX2_isLaw ∈ uw := uc2 9 rfl rfl
set_option maxRecDepth 20000 in
theorem u576 : Cond.code yX2_isLaw cX2_isLaw 2 (some .boolean) ∈ uw := uc2 10 rfl rfl
set_option maxRecDepth 20000 in
theorem u577 : Cond.methodLink RX2 17 ⟨"BinsThatTell$Laws", "isText", "(I)Z"⟩ ∈ uw := uc2 11 rfl rfl
set_option maxRecDepth 20000 in
theorem u578 : Cond.sameMethod RX2 RX1 "isText" "(I)Z" ∈ uw := uc2 12 rfl rfl
set_option maxRecDepth 20000 in
theorem u579 : Cond.declares ⟨RX1, "isText", "(I)Z"⟩ ∈ zNw := un2 13 rfl rfl
theorem u58 : Cond.selects RX12 yX12_isStreet yX12_isStreet ∈ uw := uw_at 58 (by decide +kernel) rfl
set_option maxRecDepth 20000 in
theorem u580 : Cond.selects RX2 ⟨RX2, "isText", "(I)Z"⟩ yX1_isText ∈ uw := uc2 14 rfl rfl
set_option maxRecDepth 20000 in
theorem u581 : Cond.instanceMethod yX1_isText ∈ uw := uc2 15 rfl rfl
set_option maxRecDepth 20000 in
theorem u582 : Cond.code yX1_isText cX1_isText 2 (some .boolean) ∈ uw := uc2 16 rfl rfl
set_option maxRecDepth 20000 in
theorem u583 : Cond.methodLink RX11 131 yX2_enact ∈ uw := uc2 17 rfl rfl
set_option maxRecDepth 20000 in
theorem u584 : Cond.instanceMethod yX2_enact ∈ uw := uc2 18 rfl rfl
set_option maxRecDepth 20000 in
theorem u585 : Cond.selects RX2 yX2_enact yX2_enact ∈ uw := uc2 19 rfl rfl
set_option maxRecDepth 20000 in
theorem u586 : Cond.code yX2_enact cX2_enact 3 (some .int) ∈ uw := uc2 20 rfl rfl
set_option maxRecDepth 20000 in
theorem u587 : Cond.methodLink RX2 25 ⟨"BinsThatTell$Laws", "write", "(ILBinsThatTell$Text;)I"⟩ ∈ uw := uc2 21 rfl rfl
set_option maxRecDepth 20000 in
theorem u588 : Cond.sameMethod RX2 RX1 "write" "(ILBinsThatTell$Text;)I" ∈ uw := uc2 22 rfl rfl
theorem u59 : Cond.selects RX12 yX12_lawed yX12_lawed ∈ uw := uw_at 59 (by decide +kernel) rfl
set_option maxRecDepth 20000 in
theorem u590 : Cond.selects RX2 ⟨RX2, "write", "(ILBinsThatTell$Text;)I"⟩ yX1_write ∈ uw := uc2 24 rfl rfl
set_option maxRecDepth 20000 in
theorem u591 : Cond.instanceMethod yX1_write ∈ uw := uc2 25 rfl rfl
set_option maxRecDepth 20000 in
theorem u592 : Cond.code yX1_write cX1_write 5 (some .int) ∈ uw := uc2 26 rfl rfl
set_option maxRecDepth 20000 in
theorem u593 : Cond.methodLink RX1 18 yX1_wrongPlace ∈ uw := uc2 27 rfl rfl
set_option maxRecDepth 20000 in
theorem u595 : Cond.instanceMethod yX1_wrongPlace ∈ uw := uc2 29 rfl rfl
set_option maxRecDepth 20000 in
theorem u596 : Cond.code yX1_wrongPlace cX1_wrongPlace 3 (some .int) ∈ uw := uc2 30 rfl rfl
set_option maxRecDepth 20000 in
theorem u597 : Cond.methodLink RX1 36 ⟨"BinsThatTell$Book", "begin", "()V"⟩ ∈ uw := uc2 31 rfl rfl
set_option maxRecDepth 20000 in
theorem u598 : Cond.declares ⟨RX1, "begin", "()V"⟩ ∈ zNw := un2 32 rfl rfl
set_option maxRecDepth 20000 in
theorem u599 : Cond.sameMethod RX1 RX1 "begin" "()V" ∈ uw := uc2 33 rfl rfl
theorem u6 : Cond.selects RX2 yX2_comparison yX2_comparison ∈ uw := uw_at 6 (by decide +kernel) rfl
theorem u60 : Cond.selects RX12 yX12_worked yX12_worked ∈ uw := uw_at 60 (by decide +kernel) rfl
set_option maxRecDepth 20000 in
theorem u600 : Cond.selects RX2 ⟨RX1, "begin", "()V"⟩ yX2_begin ∈ uw := uc2 34 rfl rfl
set_option maxRecDepth 20000 in
theorem u601 : Cond.instanceMethod yX2_begin ∈ uw := uc2 35 rfl rfl
set_option maxRecDepth 20000 in
theorem u602 : Cond.code yX2_begin cX2_begin 1 none ∈ uw := uc2 36 rfl rfl
set_option maxRecDepth 20000 in
theorem u603 : Cond.selects RX8 ⟨RX1, "begin", "()V"⟩ yX8_begin ∈ uw := uc2 37 rfl rfl
set_option maxRecDepth 20000 in
theorem u604 : Cond.instanceMethod yX8_begin ∈ uw := uc2 38 rfl rfl
set_option maxRecDepth 20000 in
theorem u605 : Cond.code yX8_begin cX8_begin 1 none ∈ uw := uc2 39 rfl rfl
set_option maxRecDepth 20000 in
theorem u606 : Cond.methodLink RX1 26 yX9_size ∈ uw := uc2 40 rfl rfl
set_option maxRecDepth 20000 in
theorem u607 : Cond.instanceMethod yX9_size ∈ uw := uc2 41 rfl rfl
set_option maxRecDepth 20000 in
theorem u608 : Cond.selects RX9 yX9_size yX9_size ∈ uw := uc2 42 rfl rfl
set_option maxRecDepth 20000 in
theorem u609 : Cond.code yX9_size cX9_size 1 (some .int) ∈ uw := uc2 43 rfl rfl
theorem u61 : Cond.selects RX12 yX12_valueOf yX12_valueOf ∈ uw := uw_at 61 (by decide +kernel) rfl
set_option maxRecDepth 20000 in
theorem u610 : Cond.methodLink RX1 32 yX9_at ∈ uw := uc2 44 rfl rfl
set_option maxRecDepth 20000 in
theorem u611 : Cond.instanceMethod yX9_at ∈ uw := uc2 45 rfl rfl
set_option maxRecDepth 20000 in
theorem u612 : Cond.selects RX9 yX9_at yX9_at ∈ uw := uc2 46 rfl rfl
set_option maxRecDepth 20000 in
theorem u613 : Cond.code yX9_at cX9_at 2 (some .int) ∈ uw := uc2 47 rfl rfl
set_option maxRecDepth 20000 in
theorem u614 : Cond.methodLink RX1 39 ⟨"BinsThatTell$Book", "takes", "(I)Z"⟩ ∈ uw := uc2 48 rfl rfl
set_option maxRecDepth 20000 in
theorem u615 : Cond.declares ⟨RX1, "takes", "(I)Z"⟩ ∈ zNw := un2 49 rfl rfl
set_option maxRecDepth 20000 in
theorem u616 : Cond.sameMethod RX1 RX1 "takes" "(I)Z" ∈ uw := uc2 50 rfl rfl
set_option maxRecDepth 20000 in
theorem u617 : Cond.selects RX2 ⟨RX1, "takes", "(I)Z"⟩ yX2_takes ∈ uw := uc2 51 rfl rfl
set_option maxRecDepth 20000 in
theorem u618 : Cond.instanceMethod yX2_takes ∈ uw := uc2 52 rfl rfl
set_option maxRecDepth 20000 in
theorem u619 : Cond.code yX2_takes cX2_takes 2 (some .boolean) ∈ uw := uc2 53 rfl rfl
theorem u62 : Cond.selects RX12 yX12_draws yX12_draws ∈ uw := uw_at 62 (by decide +kernel) rfl
set_option maxRecDepth 20000 in
theorem u620 : Cond.methodLink RX2 46 yX2_takesAhead ∈ uw := uc2 54 rfl rfl
set_option maxRecDepth 20000 in
theorem u622 : Cond.instanceMethod yX2_takesAhead ∈ uw := uc2 56 rfl rfl
set_option maxRecDepth 20000 in
theorem u623 : Cond.code yX2_takesAhead cX2_takesAhead 2 (some .boolean) ∈ uw := uc2 57 rfl rfl
set_option maxRecDepth 20000 in
theorem u624 : Cond.methodLink RX2 52 yX2_isDigit ∈ uw := uc2 58 rfl rfl
set_option maxRecDepth 20000 in
theorem u625 : Cond.static yX2_isDigit ∈ uw := uc2 59 rfl rfl
set_option maxRecDepth 20000 in
theorem u626 : Cond.code yX2_isDigit cX2_isDigit 1 (some .boolean) ∈ uw := uc2 60 rfl rfl
set_option maxRecDepth 20000 in
theorem u627 : Cond.methodLink RX2 55 yX2_isThing ∈ uw := uc2 61 rfl rfl
set_option maxRecDepth 20000 in
theorem u629 : Cond.instanceMethod yX2_isThing ∈ uw := uc2 63 rfl rfl
theorem u63 : Cond.selects RX12 yX12_bags yX12_bags ∈ uw := uw_at 63 (by decide +kernel) rfl
set_option maxRecDepth 20000 in
theorem u630 : Cond.code yX2_isThing cX2_isThing 2 (some .boolean) ∈ uw := uc2 64 rfl rfl
set_option maxRecDepth 20000 in
theorem u631 : Cond.methodLink RX2 49 yX2_takesBehind ∈ uw := uc2 65 rfl rfl
set_option maxRecDepth 20000 in
theorem u633 : Cond.instanceMethod yX2_takesBehind ∈ uw := uc2 67 rfl rfl
set_option maxRecDepth 20000 in
theorem u634 : Cond.code yX2_takesBehind cX2_takesBehind 3 (some .boolean) ∈ uw := uc2 68 rfl rfl
set_option maxRecDepth 20000 in
theorem u635 : Cond.methodLink RX2 58 yX2_isComparison ∈ uw := uc2 69 rfl rfl
set_option maxRecDepth 20000 in
theorem u636 : Cond.static yX2_isComparison ∈ uw := uc2 70 rfl rfl
set_option maxRecDepth 20000 in
theorem u637 : Cond.code yX2_isComparison cX2_isComparison 1 (some .boolean) ∈ uw := uc2 71 rfl rfl
set_option maxRecDepth 20000 in
theorem u638 : Cond.methodLinkNest RX2 61 yX11_hasBit RX11 ∈ zNw := un2 72 rfl rfl
set_option maxRecDepth 20000 in
theorem u639 : Cond.static yX11_hasBit ∈ uw := uc2 73 rfl rfl
theorem u64 : Cond.selects RX12 yX12_isTold yX12_isTold ∈ uw := uw_at 64 (by decide +kernel) rfl
set_option maxRecDepth 20000 in
theorem u640 : Cond.code yX11_hasBit cX11_hasBit 2 (some .boolean) ∈ uw := uc2 74 rfl rfl
set_option maxRecDepth 20000 in
theorem u641 : Cond.selects RX8 ⟨RX1, "takes", "(I)Z"⟩ yX8_takes ∈ uw := uc2 75 rfl rfl
set_option maxRecDepth 20000 in
theorem u642 : Cond.instanceMethod yX8_takes ∈ uw := uc2 76 rfl rfl
set_option maxRecDepth 20000 in
theorem u643 : Cond.code yX8_takes cX8_takes 3 (some .boolean) ∈ uw := uc2 77 rfl rfl
set_option maxRecDepth 20000 in
theorem u644 : Cond.methodLink RX8 45 yX8_thingOf ∈ uw := uc2 78 rfl rfl
set_option maxRecDepth 20000 in
theorem u645 : Cond.static yX8_thingOf ∈ uw := uc2 79 rfl rfl
set_option maxRecDepth 20000 in
theorem u646 : Cond.code yX8_thingOf cX8_thingOf 1 (some .int) ∈ uw := uc2 80 rfl rfl
set_option maxRecDepth 20000 in
theorem u648 : Cond.methodLink RX8 51 yJ0_indexOf_0f7a4 ∈ uw := uc2 82 rfl rfl
set_option maxRecDepth 20000 in
theorem u649 : Cond.instanceMethod yJ0_indexOf_0f7a4 ∈ uw := uc2 83 rfl rfl
theorem u65 : Cond.selects RX12 yX12_enters yX12_enters ∈ uw := uw_at 65 (by decide +kernel) rfl
set_option maxRecDepth 20000 in
theorem u650 : Cond.selects RJ0 yJ0_indexOf_0f7a4 yJ0_indexOf_0f7a4 ∈ uw := uc2 84 rfl rfl
set_option maxRecDepth 20000 in
theorem u651 : Cond.code yJ0_indexOf_0f7a4 cJ0_indexOf_0f7a4 2 (some .int) ∈ uw := uc2 85 rfl rfl
set_option maxRecDepth 20000 in
theorem u652 : Cond.methodLink RJ0 633 yJ0_indexOf_7cf53 ∈ uw := uc2 86 rfl rfl
set_option maxRecDepth 20000 in
theorem u653 : Cond.instanceMethod yJ0_indexOf_7cf53 ∈ uw := uc2 87 rfl rfl
set_option maxRecDepth 20000 in
theorem u654 : Cond.selects RJ0 yJ0_indexOf_7cf53 yJ0_indexOf_7cf53 ∈ uw := uc2 88 rfl rfl
set_option maxRecDepth 20000 in
theorem u655 : Cond.code yJ0_indexOf_7cf53 cJ0_indexOf_7cf53 3 (some .int) ∈ uw := uc2 89 rfl rfl
set_option maxRecDepth 20000 in
theorem u656 : Cond.methodLink RJ0 492 yJ0_isLatin1_aae02 ∈ uw := uc2 90 rfl rfl
set_option maxRecDepth 20000 in
theorem u657 : Cond.instanceMethod yJ0_isLatin1_aae02 ∈ uw := uc2 91 rfl rfl
set_option maxRecDepth 20000 in
theorem u658 : Cond.selects RJ0 yJ0_isLatin1_aae02 yJ0_isLatin1_aae02 ∈ uw := uc2 92 rfl rfl
set_option maxRecDepth 20000 in
theorem u659 : Cond.code yJ0_isLatin1_aae02 cJ0_isLatin1_aae02 1 (some .boolean) ∈ uw := uc2 93 rfl rfl
theorem u66 : Cond.selects RX12 yX12_entersFraction yX12_entersFraction ∈ uw := uw_at 66 (by decide +kernel) rfl
set_option maxRecDepth 20000 in
theorem u660 : Cond.fieldLink RJ0 38 RJ0 "COMPACT_STRINGS" "Z" ∈ uw := uc2 94 rfl rfl
set_option maxRecDepth 20000 in
theorem u662 : Cond.methodLink RJ0 505 yJ0_length_8abf5 ∈ uw := uc2 96 rfl rfl
set_option maxRecDepth 20000 in
theorem u663 : Cond.instanceMethod yJ0_length_8abf5 ∈ uw := uc2 97 rfl rfl
set_option maxRecDepth 20000 in
theorem u664 : Cond.selects RJ0 yJ0_length_8abf5 yJ0_length_8abf5 ∈ uw := uc2 98 rfl rfl
set_option maxRecDepth 20000 in
theorem u665 : Cond.code yJ0_length_8abf5 cJ0_length_8abf5 1 (some .int) ∈ uw := uc2 99 rfl rfl
set_option maxRecDepth 20000 in
theorem u666 : Cond.methodLink RJ0 335 yJ0_coder_7d493 ∈ uw := uc2 100 rfl rfl
set_option maxRecDepth 20000 in
theorem u667 : Cond.instanceMethod yJ0_coder_7d493 ∈ uw := uc2 101 rfl rfl
set_option maxRecDepth 20000 in
theorem u668 : Cond.selects RJ0 yJ0_coder_7d493 yJ0_coder_7d493 ∈ uw := uc2 102 rfl rfl
set_option maxRecDepth 20000 in
theorem u669 : Cond.code yJ0_coder_7d493 cJ0_coder_7d493 1 (some .byte) ∈ uw := uc2 103 rfl rfl
theorem u67 : Cond.selects RX12 yX12_goesAll yX12_goesAll ∈ uw := uw_at 67 (by decide +kernel) rfl
set_option maxRecDepth 20000 in
theorem u670 : Cond.methodLink RJ0 637 yJ1_indexOf_4cfef ∈ uw := uc2 104 rfl rfl
set_option maxRecDepth 20000 in
theorem u671 : Cond.static yJ1_indexOf_4cfef ∈ uw := uc2 105 rfl rfl
set_option maxRecDepth 20000 in
theorem u672 : Cond.code yJ1_indexOf_4cfef cJ1_indexOf_4cfef 4 (some .int) ∈ uw := uc2 106 rfl rfl
set_option maxRecDepth 20000 in
theorem u673 : Cond.methodLink RJ1 88 yJ1_canEncode_9a6ad ∈ uw := uc2 107 rfl rfl
set_option maxRecDepth 20000 in
theorem u674 : Cond.static yJ1_canEncode_9a6ad ∈ uw := uc2 108 rfl rfl
set_option maxRecDepth 20000 in
theorem u675 : Cond.code yJ1_canEncode_9a6ad cJ1_canEncode_9a6ad 1 (some .boolean) ∈ uw := uc2 109 rfl rfl
set_option maxRecDepth 20000 in
theorem u676 : Cond.methodLink RJ1 92 Lib.Math.max.name ∈ uw := uc2 110 rfl rfl
set_option maxRecDepth 20000 in
theorem u677 : Cond.static Lib.Math.max.name ∈ uw := uc2 111 rfl rfl
set_option maxRecDepth 20000 in
theorem u678 : Cond.code Lib.Math.max.name Lib.Math.max.code 2 (some .int) ∈ uw := uc2 112 rfl rfl
set_option maxRecDepth 20000 in
theorem u679 : Cond.methodLink RJ1 38 Lib.Math.min.name ∈ uw := uc2 113 rfl rfl
theorem u68 : Cond.selects RX12 yX12_offs yX12_offs ∈ uw := uw_at 68 (by decide +kernel) rfl
set_option maxRecDepth 20000 in
theorem u680 : Cond.static Lib.Math.min.name ∈ uw := uc2 114 rfl rfl
set_option maxRecDepth 20000 in
theorem u681 : Cond.code Lib.Math.min.name Lib.Math.min.code 2 (some .int) ∈ uw := uc2 115 rfl rfl
set_option maxRecDepth 20000 in
theorem u682 : Cond.methodLink RJ1 95 yJ1_indexOfChar_4cfef ∈ uw := uc2 116 rfl rfl
set_option maxRecDepth 20000 in
theorem u683 : Cond.static yJ1_indexOfChar_4cfef ∈ uw := uc2 117 rfl rfl
set_option maxRecDepth 20000 in
theorem u684 : Cond.code yJ1_indexOfChar_4cfef cJ1_indexOfChar_4cfef 6 (some .int) ∈ uw := uc2 118 rfl rfl
theorem u69 : Cond.selects RX12 yX12_threeMany yX12_threeMany ∈ uw := uw_at 69 (by decide +kernel) rfl
theorem u7 : Cond.selects RX2 yX2_added yX2_added ∈ uw := uw_at 7 (by decide +kernel) rfl
theorem u70 : Cond.selects RX12 yX12_areTold yX12_areTold ∈ uw := uw_at 70 (by decide +kernel) rfl
set_option maxRecDepth 20000 in
theorem u703 : Cond.fieldLink RJ0 1053 RJ3 "SIOOBE_FORMATTER" "Ljava/util/function/BiFunction;" ∈ uw := uc2 137 rfl rfl
theorem u71 : Cond.selects RX12 yX12_together yX12_together ∈ uw := uw_at 71 (by decide +kernel) rfl
theorem u72 : Cond.selects RX12 yX12_areNeighbours yX12_areNeighbours ∈ uw := uw_at 72 (by decide +kernel) rfl
theorem u73 : Cond.selects RX12 yX12_wastes yX12_wastes ∈ uw := uw_at 73 (by decide +kernel) rfl
set_option maxRecDepth 20000 in
theorem u734 : Cond.methodLink RX1 42 ⟨"BinsThatTell$Book", "couldEnd", "()Z"⟩ ∈ uw := uc2 168 rfl rfl
set_option maxRecDepth 20000 in
theorem u735 : Cond.declares ⟨RX1, "couldEnd", "()Z"⟩ ∈ zNw := un2 169 rfl rfl
set_option maxRecDepth 20000 in
theorem u736 : Cond.sameMethod RX1 RX1 "couldEnd" "()Z" ∈ uw := uc2 170 rfl rfl
set_option maxRecDepth 20000 in
theorem u737 : Cond.selects RX2 ⟨RX1, "couldEnd", "()Z"⟩ yX2_couldEnd ∈ uw := uc2 171 rfl rfl
set_option maxRecDepth 20000 in
theorem u738 : Cond.instanceMethod yX2_couldEnd ∈ uw := uc2 172 rfl rfl
set_option maxRecDepth 20000 in
theorem u739 : Cond.code yX2_couldEnd cX2_couldEnd 1 (some .boolean) ∈ uw := uc2 173 rfl rfl
theorem u74 : Cond.selects RX12 yX12_readsClaim yX12_readsClaim ∈ uw := uw_at 74 (by decide +kernel) rfl
set_option maxRecDepth 20000 in
theorem u740 : Cond.selects RX8 ⟨RX1, "couldEnd", "()Z"⟩ yX8_couldEnd ∈ uw := uc2 174 rfl rfl
set_option maxRecDepth 20000 in
theorem u741 : Cond.instanceMethod yX8_couldEnd ∈ uw := uc2 175 rfl rfl
set_option maxRecDepth 20000 in
theorem u742 : Cond.code yX8_couldEnd cX8_couldEnd 1 (some .boolean) ∈ uw := uc2 176 rfl rfl
set_option maxRecDepth 20000 in
theorem u743 : Cond.methodLink RX1 22 yX1_isText ∈ uw := uc2 177 rfl rfl
set_option maxRecDepth 20000 in
theorem u745 : Cond.methodLink "BinsThatTellLaw" 69 yX11_live ∈ uw := uc2 179 rfl rfl
set_option maxRecDepth 20000 in
theorem u746 : Cond.instanceMethod yX11_live ∈ uw := uc2 180 rfl rfl
set_option maxRecDepth 20000 in
theorem u747 : Cond.selects RX11 yX11_live yX11_live ∈ uw := uc2 181 rfl rfl
set_option maxRecDepth 20000 in
theorem u748 : Cond.code yX11_live cX11_live 3 (some .int) ∈ uw := uc2 182 rfl rfl
set_option maxRecDepth 20000 in
theorem u749 : Cond.methodLink RX11 135 yX10_liveWeek ∈ uw := uc2 183 rfl rfl
theorem u75 : Cond.selects RX12 yX12_holding yX12_holding ∈ uw := uw_at 75 (by decide +kernel) rfl
set_option maxRecDepth 20000 in
theorem u750 : Cond.instanceMethod yX10_liveWeek ∈ uw := uc2 184 rfl rfl
set_option maxRecDepth 20000 in
theorem u751 : Cond.selects RX10 yX10_liveWeek yX10_liveWeek ∈ uw := uc2 185 rfl rfl
set_option maxRecDepth 20000 in
theorem u752 : Cond.code yX10_liveWeek cX10_liveWeek 5 (some .int) ∈ uw := uc2 186 rfl rfl
set_option maxRecDepth 20000 in
theorem u753 : Cond.methodLink RX10 65 yX10_hasStreet ∈ uw := uc2 187 rfl rfl
set_option maxRecDepth 20000 in
theorem u754 : Cond.instanceMethod yX10_hasStreet ∈ uw := uc2 188 rfl rfl
set_option maxRecDepth 20000 in
theorem u755 : Cond.selects RX10 yX10_hasStreet yX10_hasStreet ∈ uw := uc2 189 rfl rfl
set_option maxRecDepth 20000 in
theorem u756 : Cond.code yX10_hasStreet cX10_hasStreet 2 (some .boolean) ∈ uw := uc2 190 rfl rfl
set_option maxRecDepth 20000 in
theorem u757 : Cond.methodLink RX10 96 yX2_let ∈ uw := uc2 191 rfl rfl
set_option maxRecDepth 20000 in
theorem u758 : Cond.instanceMethod yX2_let ∈ uw := uc2 192 rfl rfl
set_option maxRecDepth 20000 in
theorem u759 : Cond.selects RX2 yX2_let yX2_let ∈ uw := uc2 193 rfl rfl
theorem u76 : Cond.selects RX12 yX12_means yX12_means ∈ uw := uw_at 76 (by decide +kernel) rfl
set_option maxRecDepth 20000 in
theorem u760 : Cond.code yX2_let cX2_let 4 none ∈ uw := uc2 194 rfl rfl
set_option maxRecDepth 20000 in
theorem u761 : Cond.methodLink RX10 102 yX10_liveSort ∈ uw := uc2 195 rfl rfl
set_option maxRecDepth 20000 in
theorem u763 : Cond.instanceMethod yX10_liveSort ∈ uw := uc2 197 rfl rfl
set_option maxRecDepth 20000 in
theorem u764 : Cond.code yX10_liveSort cX10_liveSort 10 (some .int) ∈ uw := uc2 198 rfl rfl
set_option maxRecDepth 20000 in
theorem u765 : Cond.methodLink RX10 105 yX10_rightOf ∈ uw := uc2 199 rfl rfl
set_option maxRecDepth 20000 in
theorem u766 : Cond.instanceMethod yX10_rightOf ∈ uw := uc2 200 rfl rfl
set_option maxRecDepth 20000 in
theorem u767 : Cond.selects RX10 yX10_rightOf yX10_rightOf ∈ uw := uc2 201 rfl rfl
set_option maxRecDepth 20000 in
theorem u768 : Cond.code yX10_rightOf cX10_rightOf 2 (some .int) ∈ uw := uc2 202 rfl rfl
set_option maxRecDepth 20000 in
theorem u769 : Cond.methodLink RX10 109 yX10_leavesOf ∈ uw := uc2 203 rfl rfl
theorem u77 : Cond.selects RX12 yX12_fails yX12_fails ∈ uw := uw_at 77 (by decide +kernel) rfl
set_option maxRecDepth 20000 in
theorem u770 : Cond.instanceMethod yX10_leavesOf ∈ uw := uc2 204 rfl rfl
set_option maxRecDepth 20000 in
theorem u771 : Cond.selects RX10 yX10_leavesOf yX10_leavesOf ∈ uw := uc2 205 rfl rfl
set_option maxRecDepth 20000 in
theorem u772 : Cond.code yX10_leavesOf cX10_leavesOf 2 (some .int) ∈ uw := uc2 206 rfl rfl
set_option maxRecDepth 20000 in
theorem u773 : Cond.methodLink RX10 112 yX10_isLack ∈ uw := uc2 207 rfl rfl
set_option maxRecDepth 20000 in
theorem u774 : Cond.instanceMethod yX10_isLack ∈ uw := uc2 208 rfl rfl
set_option maxRecDepth 20000 in
theorem u775 : Cond.selects RX10 yX10_isLack yX10_isLack ∈ uw := uc2 209 rfl rfl
set_option maxRecDepth 20000 in
theorem u776 : Cond.code yX10_isLack cX10_isLack 3 (some .boolean) ∈ uw := uc2 210 rfl rfl
set_option maxRecDepth 20000 in
theorem u777 : Cond.methodLinkNest RX10 78 yX11_hasBit RX11 ∈ zNw := un2 211 rfl rfl
set_option maxRecDepth 20000 in
theorem u778 : Cond.methodLink RX10 115 yX2_reckon ∈ uw := uc2 212 rfl rfl
set_option maxRecDepth 20000 in
theorem u779 : Cond.instanceMethod yX2_reckon ∈ uw := uc2 213 rfl rfl
theorem u78 : Cond.selects RX12 yX12_tookFor yX12_tookFor ∈ uw := uw_at 78 (by decide +kernel) rfl
set_option maxRecDepth 20000 in
theorem u780 : Cond.selects RX2 yX2_reckon yX2_reckon ∈ uw := uc2 214 rfl rfl
set_option maxRecDepth 20000 in
theorem u781 : Cond.code yX2_reckon cX2_reckon 3 (some .int) ∈ uw := uc2 215 rfl rfl
set_option maxRecDepth 20000 in
theorem u782 : Cond.methodLink RX2 29 ⟨"BinsThatTell$Laws", "sizeOf", "(I)I"⟩ ∈ uw := uc2 216 rfl rfl
set_option maxRecDepth 20000 in
theorem u783 : Cond.sameMethod RX2 RX1 "sizeOf" "(I)I" ∈ uw := uc2 217 rfl rfl
set_option maxRecDepth 20000 in
theorem u785 : Cond.selects RX2 ⟨RX2, "sizeOf", "(I)I"⟩ yX1_sizeOf ∈ uw := uc2 219 rfl rfl
set_option maxRecDepth 20000 in
theorem u786 : Cond.instanceMethod yX1_sizeOf ∈ uw := uc2 220 rfl rfl
set_option maxRecDepth 20000 in
theorem u787 : Cond.code yX1_sizeOf cX1_sizeOf 2 (some .int) ∈ uw := uc2 221 rfl rfl
set_option maxRecDepth 20000 in
theorem u788 : Cond.methodLink RX2 73 yX2_either ∈ uw := uc2 222 rfl rfl
theorem u79 : Cond.selects RX12 yX12_isNeed yX12_isNeed ∈ uw := uw_at 79 (by decide +kernel) rfl
set_option maxRecDepth 20000 in
theorem u790 : Cond.instanceMethod yX2_either ∈ uw := uc2 224 rfl rfl
set_option maxRecDepth 20000 in
theorem u791 : Cond.code yX2_either cX2_either 4 (some .int) ∈ uw := uc2 225 rfl rfl
set_option maxRecDepth 20000 in
theorem u792 : Cond.methodLink RX2 80 yX2_both ∈ uw := uc2 226 rfl rfl
set_option maxRecDepth 20000 in
theorem u794 : Cond.instanceMethod yX2_both ∈ uw := uc2 228 rfl rfl
set_option maxRecDepth 20000 in
theorem u795 : Cond.code yX2_both cX2_both 4 (some .int) ∈ uw := uc2 229 rfl rfl
set_option maxRecDepth 20000 in
theorem u796 : Cond.methodLink RX2 87 yX2_comparison ∈ uw := uc2 230 rfl rfl
set_option maxRecDepth 20000 in
theorem u798 : Cond.instanceMethod yX2_comparison ∈ uw := uc2 232 rfl rfl
set_option maxRecDepth 20000 in
theorem u799 : Cond.code yX2_comparison cX2_comparison 6 (some .int) ∈ uw := uc2 233 rfl rfl
theorem u8 : Cond.selects RX2 yX2_multiplied yX2_multiplied ∈ uw := uw_at 8 (by decide +kernel) rfl
theorem u80 : Cond.selects RX12 yX12_takesMean yX12_takesMean ∈ uw := uw_at 80 (by decide +kernel) rfl
set_option maxRecDepth 20000 in
theorem u800 : Cond.methodLink RX2 90 yX2_added ∈ uw := uc2 234 rfl rfl
set_option maxRecDepth 20000 in
theorem u802 : Cond.instanceMethod yX2_added ∈ uw := uc2 236 rfl rfl
set_option maxRecDepth 20000 in
theorem u803 : Cond.code yX2_added cX2_added 5 (some .int) ∈ uw := uc2 237 rfl rfl
set_option maxRecDepth 20000 in
theorem u804 : Cond.methodLink RX2 93 yX2_multiplied ∈ uw := uc2 238 rfl rfl
set_option maxRecDepth 20000 in
theorem u806 : Cond.instanceMethod yX2_multiplied ∈ uw := uc3 0 rfl rfl
set_option maxRecDepth 20000 in
theorem u807 : Cond.code yX2_multiplied cX2_multiplied 5 (some .int) ∈ uw := uc3 1 rfl rfl
set_option maxRecDepth 20000 in
theorem u808 : Cond.methodLink RX2 96 yX2_thing ∈ uw := uc3 2 rfl rfl
theorem u81 : Cond.selects RX12 yX12_fewest yX12_fewest ∈ uw := uw_at 81 (by decide +kernel) rfl
set_option maxRecDepth 20000 in
theorem u810 : Cond.instanceMethod yX2_thing ∈ uw := uc3 4 rfl rfl
set_option maxRecDepth 20000 in
theorem u811 : Cond.code yX2_thing cX2_thing 6 (some .int) ∈ uw := uc3 5 rfl rfl
set_option maxRecDepth 20000 in
theorem u812 : Cond.methodLink RX2 83 yX2_here ∈ uw := uc3 6 rfl rfl
set_option maxRecDepth 20000 in
theorem u814 : Cond.instanceMethod yX2_here ∈ uw := uc3 8 rfl rfl
set_option maxRecDepth 20000 in
theorem u815 : Cond.code yX2_here cX2_here 1 (some .int) ∈ uw := uc3 9 rfl rfl
set_option maxRecDepth 20000 in
theorem u816 : Cond.methodLink RX2 76 ⟨"BinsThatTell$Laws", "signAt", "(II)I"⟩ ∈ uw := uc3 10 rfl rfl
set_option maxRecDepth 20000 in
theorem u817 : Cond.sameMethod RX2 RX1 "signAt" "(II)I" ∈ uw := uc3 11 rfl rfl
set_option maxRecDepth 20000 in
theorem u819 : Cond.selects RX2 ⟨RX2, "signAt", "(II)I"⟩ yX1_signAt ∈ uw := uc3 13 rfl rfl
theorem u82 : Cond.selects RX12 yX12_dates yX12_dates ∈ uw := uw_at 82 (by decide +kernel) rfl
set_option maxRecDepth 20000 in
theorem u820 : Cond.instanceMethod yX1_signAt ∈ uw := uc3 14 rfl rfl
set_option maxRecDepth 20000 in
theorem u821 : Cond.code yX1_signAt cX1_signAt 4 (some .int) ∈ uw := uc3 15 rfl rfl
set_option maxRecDepth 20000 in
theorem u822 : Cond.methodLink RX2 99 yX2_bareThing ∈ uw := uc3 16 rfl rfl
set_option maxRecDepth 20000 in
theorem u824 : Cond.instanceMethod yX2_bareThing ∈ uw := uc3 18 rfl rfl
set_option maxRecDepth 20000 in
theorem u825 : Cond.code yX2_bareThing cX2_bareThing 4 (some .int) ∈ uw := uc3 19 rfl rfl
set_option maxRecDepth 20000 in
theorem u826 : Cond.methodLink RX2 102 yX4_draw ∈ uw := uc3 20 rfl rfl
set_option maxRecDepth 20000 in
theorem u827 : Cond.instanceMethod yX4_draw ∈ uw := uc3 21 rfl rfl
set_option maxRecDepth 20000 in
theorem u828 : Cond.selects RX4 yX4_draw yX4_draw ∈ uw := uc3 22 rfl rfl
set_option maxRecDepth 20000 in
theorem u829 : Cond.code yX4_draw cX4_draw 2 (some .int) ∈ uw := uc3 23 rfl rfl
theorem u83 : Cond.selects RX12 yX12_once yX12_once ∈ uw := uw_at 83 (by decide +kernel) rfl
set_option maxRecDepth 20000 in
theorem u830 : Cond.constant RX4 51 1103515245 ∈ uw := uc3 24 rfl rfl
set_option maxRecDepth 20000 in
theorem u831 : Cond.methodLink RX10 118 yX10_throwAway ∈ uw := uc3 25 rfl rfl
set_option maxRecDepth 20000 in
theorem u833 : Cond.instanceMethod yX10_throwAway ∈ uw := uc3 27 rfl rfl
set_option maxRecDepth 20000 in
theorem u834 : Cond.code yX10_throwAway cX10_throwAway 8 (some .int) ∈ uw := uc3 28 rfl rfl
set_option maxRecDepth 20000 in
theorem u835 : Cond.methodLink RX10 122 yX4_addToBag ∈ uw := uc3 29 rfl rfl
set_option maxRecDepth 20000 in
theorem u836 : Cond.instanceMethod yX4_addToBag ∈ uw := uc3 30 rfl rfl
set_option maxRecDepth 20000 in
theorem u837 : Cond.selects RX4 yX4_addToBag yX4_addToBag ∈ uw := uc3 31 rfl rfl
set_option maxRecDepth 20000 in
theorem u838 : Cond.code yX4_addToBag cX4_addToBag 5 none ∈ uw := uc3 32 rfl rfl
set_option maxRecDepth 20000 in
theorem u839 : Cond.methodLink RX4 35 yX4_of ∈ uw := uc3 33 rfl rfl
theorem u84 : Cond.selects RX12 yX12_lawBits yX12_lawBits ∈ uw := uw_at 84 (by decide +kernel) rfl
set_option maxRecDepth 20000 in
theorem u840 : Cond.methodLink RX4 38 Lib.Math.max.name ∈ uw := uc3 34 rfl rfl
set_option maxRecDepth 20000 in
theorem u841 : Cond.methodLink RX4 44 Lib.Math.min.name ∈ uw := uc3 35 rfl rfl
set_option maxRecDepth 20000 in
theorem u842 : Cond.methodLink RX4 47 yX4_change ∈ uw := uc3 36 rfl rfl
set_option maxRecDepth 20000 in
theorem u843 : Cond.methodLink "BinsThatTellLaw" 74 yX11_seed ∈ uw := uc3 37 rfl rfl
set_option maxRecDepth 20000 in
theorem u844 : Cond.instanceMethod yX11_seed ∈ uw := uc3 38 rfl rfl
set_option maxRecDepth 20000 in
theorem u845 : Cond.selects RX11 yX11_seed yX11_seed ∈ uw := uc3 39 rfl rfl
set_option maxRecDepth 20000 in
theorem u846 : Cond.code yX11_seed cX11_seed 2 (some .int) ∈ uw := uc3 40 rfl rfl
set_option maxRecDepth 20000 in
theorem u847 : Cond.methodLink RX11 139 yX4_reseed ∈ uw := uc3 41 rfl rfl
set_option maxRecDepth 20000 in
theorem u848 : Cond.instanceMethod yX4_reseed ∈ uw := uc3 42 rfl rfl
set_option maxRecDepth 20000 in
theorem u849 : Cond.selects RX4 yX4_reseed yX4_reseed ∈ uw := uc3 43 rfl rfl
theorem u85 : Cond.selects RX12 yX12_numbersTold yX12_numbersTold ∈ uw := uw_at 85 (by decide +kernel) rfl
set_option maxRecDepth 20000 in
theorem u850 : Cond.code yX4_reseed cX4_reseed 3 (some .int) ∈ uw := uc3 44 rfl rfl
set_option maxRecDepth 20000 in
theorem u851 : Cond.methodLink "BinsThatTellLaw" 78 yX11_sum ∈ uw := uc3 45 rfl rfl
set_option maxRecDepth 20000 in
theorem u852 : Cond.instanceMethod yX11_sum ∈ uw := uc3 46 rfl rfl
set_option maxRecDepth 20000 in
theorem u853 : Cond.selects RX11 yX11_sum yX11_sum ∈ uw := uc3 47 rfl rfl
set_option maxRecDepth 20000 in
theorem u854 : Cond.code yX11_sum cX11_sum 5 (some .int) ∈ uw := uc3 48 rfl rfl
set_option maxRecDepth 20000 in
theorem u855 : Cond.methodLink RX11 142 yX0_total ∈ uw := uc3 49 rfl rfl
set_option maxRecDepth 20000 in
theorem u856 : Cond.instanceMethod yX0_total ∈ uw := uc3 50 rfl rfl
set_option maxRecDepth 20000 in
theorem u857 : Cond.selects RX0 yX0_total yX0_total ∈ uw := uc3 51 rfl rfl
set_option maxRecDepth 20000 in
theorem u858 : Cond.code yX0_total cX0_total 10 (some .int) ∈ uw := uc3 52 rfl rfl
set_option maxRecDepth 20000 in
theorem u859 : Cond.methodLinkNest RX0 30 yX11_between RX11 ∈ zNw := un3 53 rfl rfl
set_option maxRecDepth 20000 in
theorem u860 : Cond.methodLinkNest RX0 34 yX11_isKind RX11 ∈ zNw := un3 54 rfl rfl
set_option maxRecDepth 20000 in
theorem u861 : Cond.methodLink RX0 38 yX10_hasSort ∈ uw := uc3 55 rfl rfl
set_option maxRecDepth 20000 in
theorem u862 : Cond.methodLink RX0 43 yX10_cellCount ∈ uw := uc3 56 rfl rfl
set_option maxRecDepth 20000 in
theorem u863 : Cond.methodLinkNest RX0 47 yX11_hasBit RX11 ∈ zNw := un3 57 rfl rfl
set_option maxRecDepth 20000 in
theorem u864 : Cond.methodLink RX0 51 yX4_has ∈ uw := uc3 58 rfl rfl
set_option maxRecDepth 20000 in
theorem u865 : Cond.instanceMethod yX4_has ∈ uw := uc3 59 rfl rfl
set_option maxRecDepth 20000 in
theorem u866 : Cond.selects RX4 yX4_has yX4_has ∈ uw := uc3 60 rfl rfl
set_option maxRecDepth 20000 in
theorem u867 : Cond.code yX4_has cX4_has 4 (some .boolean) ∈ uw := uc3 61 rfl rfl
set_option maxRecDepth 20000 in
theorem u868 : Cond.methodLink RX0 56 yX4_of ∈ uw := uc3 62 rfl rfl
set_option maxRecDepth 20000 in
theorem u869 : Cond.methodLink RX0 60 yX5_clear ∈ uw := uc3 63 rfl rfl
set_option maxRecDepth 20000 in
theorem u87 : Cond.initialized RX11 ∈ uw := uc0 1 rfl rfl
set_option maxRecDepth 20000 in
theorem u870 : Cond.instanceMethod yX5_clear ∈ uw := uc3 64 rfl rfl
set_option maxRecDepth 20000 in
theorem u871 : Cond.selects RX5 yX5_clear yX5_clear ∈ uw := uc3 65 rfl rfl
set_option maxRecDepth 20000 in
theorem u872 : Cond.code yX5_clear cX5_clear 1 (some (.object "BinsThatTell$Row")) ∈ uw := uc3 66 rfl rfl
set_option maxRecDepth 20000 in
theorem u873 : Cond.methodLink RX0 66 yX5_add ∈ uw := uc3 67 rfl rfl
set_option maxRecDepth 20000 in
theorem u874 : Cond.instanceMethod yX5_add ∈ uw := uc3 68 rfl rfl
set_option maxRecDepth 20000 in
theorem u875 : Cond.selects RX5 yX5_add yX5_add ∈ uw := uc3 69 rfl rfl
set_option maxRecDepth 20000 in
theorem u876 : Cond.code yX5_add cX5_add 3 (some (.object "BinsThatTell$Row")) ∈ uw := uc3 70 rfl rfl
set_option maxRecDepth 20000 in
theorem u877 : Cond.methodLink "BinsThatTellLaw" 82 yX11_bounds ∈ uw := uc3 71 rfl rfl
set_option maxRecDepth 20000 in
theorem u878 : Cond.instanceMethod yX11_bounds ∈ uw := uc3 72 rfl rfl
set_option maxRecDepth 20000 in
theorem u879 : Cond.selects RX11 yX11_bounds yX11_bounds ∈ uw := uc3 73 rfl rfl
set_option maxRecDepth 20000 in
theorem u88 : Cond.initialized RX5 ∈ uw := uc0 2 rfl rfl
set_option maxRecDepth 20000 in
theorem u880 : Cond.code yX11_bounds cX11_bounds 4 (some .int) ∈ uw := uc3 74 rfl rfl
set_option maxRecDepth 20000 in
theorem u881 : Cond.methodLink RX11 146 yX0_eatenInCell ∈ uw := uc3 75 rfl rfl
set_option maxRecDepth 20000 in
theorem u882 : Cond.instanceMethod yX0_eatenInCell ∈ uw := uc3 76 rfl rfl
set_option maxRecDepth 20000 in
theorem u883 : Cond.selects RX0 yX0_eatenInCell yX0_eatenInCell ∈ uw := uc3 77 rfl rfl
set_option maxRecDepth 20000 in
theorem u884 : Cond.code yX0_eatenInCell cX0_eatenInCell 8 (some .int) ∈ uw := uc3 78 rfl rfl
set_option maxRecDepth 20000 in
theorem u885 : Cond.methodLink RX0 70 yX10_hasCell ∈ uw := uc3 79 rfl rfl
set_option maxRecDepth 20000 in
theorem u886 : Cond.methodLink RX0 73 yX10_leavesOf ∈ uw := uc3 80 rfl rfl
set_option maxRecDepth 20000 in
theorem u887 : Cond.methodLink RX0 77 yX10_staysOf ∈ uw := uc3 81 rfl rfl
set_option maxRecDepth 20000 in
theorem u888 : Cond.instanceMethod yX10_staysOf ∈ uw := uc3 82 rfl rfl
set_option maxRecDepth 20000 in
theorem u889 : Cond.selects RX10 yX10_staysOf yX10_staysOf ∈ uw := uc3 83 rfl rfl
set_option maxRecDepth 20000 in
theorem u89 : Cond.initialized RX9 ∈ uw := uc0 3 rfl rfl
set_option maxRecDepth 20000 in
theorem u890 : Cond.code yX10_staysOf cX10_staysOf 2 (some .int) ∈ uw := uc3 84 rfl rfl
set_option maxRecDepth 20000 in
theorem u891 : Cond.methodLink RX0 80 yX5_addFraction ∈ uw := uc3 85 rfl rfl
set_option maxRecDepth 20000 in
theorem u892 : Cond.instanceMethod yX5_addFraction ∈ uw := uc3 86 rfl rfl
set_option maxRecDepth 20000 in
theorem u893 : Cond.selects RX5 yX5_addFraction yX5_addFraction ∈ uw := uc3 87 rfl rfl
set_option maxRecDepth 20000 in
theorem u894 : Cond.code yX5_addFraction cX5_addFraction 9 (some (.object "BinsThatTell$Row")) ∈ uw := uc3 88 rfl rfl
set_option maxRecDepth 20000 in
theorem u895 : Cond.methodLinkNest RX5 19 yX11_commonDivisor RX11 ∈ zNw := un3 89 rfl rfl
set_option maxRecDepth 20000 in
theorem u896 : Cond.static yX11_commonDivisor ∈ uw := uc3 90 rfl rfl
set_option maxRecDepth 20000 in
theorem u897 : Cond.code yX11_commonDivisor cX11_commonDivisor 11 (some .long) ∈ uw := uc3 91 rfl rfl
set_option maxRecDepth 20000 in
theorem u898 : Cond.methodLink RX11 280 Lib.MathLoose.abs_long.x ∈ uw := uc3 92 rfl rfl
set_option maxRecDepth 20000 in
theorem u899 : Cond.static Lib.MathLoose.abs_long.x ∈ uw := uc3 93 rfl rfl
theorem u9 : Cond.selects RX2 yX2_thing yX2_thing ∈ uw := uw_at 9 (by decide +kernel) rfl
set_option maxRecDepth 20000 in
theorem u90 : Cond.initialized RX4 ∈ uw := uc0 4 rfl rfl
set_option maxRecDepth 20000 in
theorem u900 : Cond.code Lib.MathLoose.abs_long.x Lib.MathLoose.abs_long.code 2 (some .long) ∈ uw := uc3 94 rfl rfl
set_option maxRecDepth 20000 in
theorem u901 : Cond.methodLink RX5 23 yX5_add ∈ uw := uc3 95 rfl rfl
set_option maxRecDepth 20000 in
theorem u902 : Cond.constantLong RX0 84 100 ∈ uw := uc3 96 rfl rfl
set_option maxRecDepth 20000 in
theorem u903 : Cond.methodLink "BinsThatTellLaw" 86 yX11_line ∈ uw := uc3 97 rfl rfl
set_option maxRecDepth 20000 in
theorem u904 : Cond.instanceMethod yX11_line ∈ uw := uc3 98 rfl rfl
set_option maxRecDepth 20000 in
theorem u905 : Cond.selects RX11 yX11_line yX11_line ∈ uw := uc3 99 rfl rfl
set_option maxRecDepth 20000 in
theorem u906 : Cond.code yX11_line cX11_line 4 (some .int) ∈ uw := uc3 100 rfl rfl
set_option maxRecDepth 20000 in
theorem u907 : Cond.methodLink RX11 149 yX0_surely ∈ uw := uc3 101 rfl rfl
set_option maxRecDepth 20000 in
theorem u908 : Cond.instanceMethod yX0_surely ∈ uw := uc3 102 rfl rfl
set_option maxRecDepth 20000 in
theorem u909 : Cond.selects RX0 yX0_surely yX0_surely ∈ uw := uc3 103 rfl rfl
set_option maxRecDepth 20000 in
theorem u91 : Cond.initialized RX1 ∈ uw := uc0 5 rfl rfl
set_option maxRecDepth 20000 in
theorem u910 : Cond.code yX0_surely cX0_surely 13 (some .int) ∈ uw := uc3 104 rfl rfl
set_option maxRecDepth 20000 in
theorem u911 : Cond.methodLinkNest RX0 86 yX11_isWay RX11 ∈ zNw := un3 105 rfl rfl
set_option maxRecDepth 20000 in
theorem u912 : Cond.static yX11_isWay ∈ uw := uc3 106 rfl rfl
set_option maxRecDepth 20000 in
theorem u913 : Cond.code yX11_isWay cX11_isWay 1 (some .boolean) ∈ uw := uc3 107 rfl rfl
set_option maxRecDepth 20000 in
theorem u914 : Cond.methodLink "BinsThatTellLaw" 90 yX11_off ∈ uw := uc3 108 rfl rfl
set_option maxRecDepth 20000 in
theorem u915 : Cond.instanceMethod yX11_off ∈ uw := uc3 109 rfl rfl
set_option maxRecDepth 20000 in
theorem u916 : Cond.selects RX11 yX11_off yX11_off ∈ uw := uc3 110 rfl rfl
set_option maxRecDepth 20000 in
theorem u917 : Cond.code yX11_off cX11_off 3 (some .int) ∈ uw := uc3 111 rfl rfl
set_option maxRecDepth 20000 in
theorem u918 : Cond.methodLink RX11 152 yX0_offBy ∈ uw := uc3 112 rfl rfl
set_option maxRecDepth 20000 in
theorem u919 : Cond.instanceMethod yX0_offBy ∈ uw := uc3 113 rfl rfl
set_option maxRecDepth 20000 in
theorem u92 : Cond.initialized RX2 ∈ uw := uc0 6 rfl rfl
set_option maxRecDepth 20000 in
theorem u920 : Cond.selects RX0 yX0_offBy yX0_offBy ∈ uw := uc3 114 rfl rfl
set_option maxRecDepth 20000 in
theorem u921 : Cond.code yX0_offBy cX0_offBy 3 (some .int) ∈ uw := uc3 115 rfl rfl
set_option maxRecDepth 20000 in
theorem u922 : Cond.methodLink RX0 112 yX0_measure ∈ uw := uc3 116 rfl rfl
set_option maxRecDepth 20000 in
theorem u924 : Cond.instanceMethod yX0_measure ∈ uw := uc3 118 rfl rfl
set_option maxRecDepth 20000 in
theorem u925 : Cond.code yX0_measure cX0_measure 4 none ∈ uw := uc3 119 rfl rfl
set_option maxRecDepth 20000 in
theorem u926 : Cond.methodLink RX0 108 yX0_measureOne ∈ uw := uc3 120 rfl rfl
set_option maxRecDepth 20000 in
theorem u928 : Cond.instanceMethod yX0_measureOne ∈ uw := uc3 122 rfl rfl
set_option maxRecDepth 20000 in
theorem u929 : Cond.code yX0_measureOne cX0_measureOne 2 none ∈ uw := uc3 123 rfl rfl
set_option maxRecDepth 20000 in
theorem u93 : Cond.initialized RX10 ∈ uw := uc0 7 rfl rfl
set_option maxRecDepth 20000 in
theorem u930 : Cond.methodLink "BinsThatTellLaw" 94 yX11_nearest ∈ uw := uc3 124 rfl rfl
set_option maxRecDepth 20000 in
theorem u931 : Cond.instanceMethod yX11_nearest ∈ uw := uc3 125 rfl rfl
set_option maxRecDepth 20000 in
theorem u932 : Cond.selects RX11 yX11_nearest yX11_nearest ∈ uw := uc3 126 rfl rfl
set_option maxRecDepth 20000 in
theorem u933 : Cond.code yX11_nearest cX11_nearest 2 (some .int) ∈ uw := uc3 127 rfl rfl
set_option maxRecDepth 20000 in
theorem u934 : Cond.methodLink RX11 155 yX0_nearestWay ∈ uw := uc3 128 rfl rfl
set_option maxRecDepth 20000 in
theorem u935 : Cond.instanceMethod yX0_nearestWay ∈ uw := uc3 129 rfl rfl
set_option maxRecDepth 20000 in
theorem u936 : Cond.selects RX0 yX0_nearestWay yX0_nearestWay ∈ uw := uc3 130 rfl rfl
set_option maxRecDepth 20000 in
theorem u937 : Cond.code yX0_nearestWay cX0_nearestWay 10 (some .int) ∈ uw := uc3 131 rfl rfl
set_option maxRecDepth 20000 in
theorem u938 : Cond.methodLink RX0 116 Lib.Math.abs.name ∈ uw := uc3 132 rfl rfl
set_option maxRecDepth 20000 in
theorem u939 : Cond.static Lib.Math.abs.name ∈ uw := uc3 133 rfl rfl
set_option maxRecDepth 20000 in
theorem u94 : Cond.initialized RX0 ∈ uw := uc0 8 rfl rfl
set_option maxRecDepth 20000 in
theorem u940 : Cond.code Lib.Math.abs.name Lib.Math.abs.code 1 (some .int) ∈ uw := uc3 134 rfl rfl
set_option maxRecDepth 20000 in
theorem u941 : Cond.methodLinkNest RX0 121 yX11_compareFractions RX11 ∈ zNw := un3 135 rfl rfl
set_option maxRecDepth 20000 in
theorem u942 : Cond.static yX11_compareFractions ∈ uw := uc3 136 rfl rfl
set_option maxRecDepth 20000 in
theorem u943 : Cond.code yX11_compareFractions cX11_compareFractions 8 (some .int) ∈ uw := uc3 137 rfl rfl
set_option maxRecDepth 20000 in
theorem u944 : Cond.methodLink RX11 274 yJ13_compare_74951 ∈ uw := uc3 138 rfl rfl
set_option maxRecDepth 20000 in
theorem u945 : Cond.static yJ13_compare_74951 ∈ uw := uc3 139 rfl rfl
set_option maxRecDepth 20000 in
theorem u946 : Cond.code yJ13_compare_74951 cJ13_compare_74951 4 (some .int) ∈ uw := uc3 140 rfl rfl
set_option maxRecDepth 20000 in
theorem u947 : Cond.methodLink "BinsThatTellLaw" 98 yX11_worst ∈ uw := uc3 141 rfl rfl
set_option maxRecDepth 20000 in
theorem u948 : Cond.instanceMethod yX11_worst ∈ uw := uc3 142 rfl rfl
set_option maxRecDepth 20000 in
theorem u949 : Cond.selects RX11 yX11_worst yX11_worst ∈ uw := uc3 143 rfl rfl
set_option maxRecDepth 20000 in
theorem u95 : Cond.initialized RX8 ∈ uw := uc0 9 rfl rfl
set_option maxRecDepth 20000 in
theorem u950 : Cond.code yX11_worst cX11_worst 3 (some .int) ∈ uw := uc3 144 rfl rfl
set_option maxRecDepth 20000 in
theorem u951 : Cond.methodLink RX11 158 yX0_worstSort ∈ uw := uc3 145 rfl rfl
set_option maxRecDepth 20000 in
theorem u952 : Cond.instanceMethod yX0_worstSort ∈ uw := uc3 146 rfl rfl
set_option maxRecDepth 20000 in
theorem u953 : Cond.selects RX0 yX0_worstSort yX0_worstSort ∈ uw := uc3 147 rfl rfl
set_option maxRecDepth 20000 in
theorem u954 : Cond.code yX0_worstSort cX0_worstSort 10 (some .int) ∈ uw := uc3 148 rfl rfl
set_option maxRecDepth 20000 in
theorem u955 : Cond.methodLink RX0 125 yX10_sortCount ∈ uw := uc3 149 rfl rfl
set_option maxRecDepth 20000 in
theorem u956 : Cond.instanceMethod yX10_sortCount ∈ uw := uc3 150 rfl rfl
set_option maxRecDepth 20000 in
theorem u957 : Cond.selects RX10 yX10_sortCount yX10_sortCount ∈ uw := uc3 151 rfl rfl
set_option maxRecDepth 20000 in
theorem u958 : Cond.code yX10_sortCount cX10_sortCount 1 (some .int) ∈ uw := uc3 152 rfl rfl
set_option maxRecDepth 20000 in
theorem u959 : Cond.methodLink "BinsThatTellLaw" 102 yX11_right ∈ uw := uc3 153 rfl rfl
set_option maxRecDepth 20000 in
theorem u96 : Cond.initialized RX7 ∈ uw := uc0 10 rfl rfl
set_option maxRecDepth 20000 in
theorem u960 : Cond.instanceMethod yX11_right ∈ uw := uc3 154 rfl rfl
set_option maxRecDepth 20000 in
theorem u961 : Cond.selects RX11 yX11_right yX11_right ∈ uw := uc3 155 rfl rfl
set_option maxRecDepth 20000 in
theorem u962 : Cond.code yX11_right cX11_right 2 (some .int) ∈ uw := uc3 156 rfl rfl
set_option maxRecDepth 20000 in
theorem u963 : Cond.methodLink RX11 161 yX0_pairsByRight ∈ uw := uc3 157 rfl rfl
set_option maxRecDepth 20000 in
theorem u964 : Cond.instanceMethod yX0_pairsByRight ∈ uw := uc3 158 rfl rfl
set_option maxRecDepth 20000 in
theorem u965 : Cond.selects RX0 yX0_pairsByRight yX0_pairsByRight ∈ uw := uc3 159 rfl rfl
set_option maxRecDepth 20000 in
theorem u966 : Cond.code yX0_pairsByRight cX0_pairsByRight 8 (some .int) ∈ uw := uc3 160 rfl rfl
set_option maxRecDepth 20000 in
theorem u967 : Cond.methodLink RX0 128 yX0_goesWithRight ∈ uw := uc3 161 rfl rfl
set_option maxRecDepth 20000 in
theorem u969 : Cond.instanceMethod yX0_goesWithRight ∈ uw := uc3 163 rfl rfl
set_option maxRecDepth 20000 in
theorem u97 : Cond.initialized RX6 ∈ uw := uc0 11 rfl rfl
set_option maxRecDepth 20000 in
theorem u970 : Cond.code yX0_goesWithRight cX0_goesWithRight 10 (some .int) ∈ uw := uc3 164 rfl rfl
set_option maxRecDepth 20000 in
theorem u971 : Cond.methodLink RX0 131 yX10_rightOf ∈ uw := uc3 165 rfl rfl
set_option maxRecDepth 20000 in
theorem u972 : Cond.methodLink RX0 134 yJ6_compare_7cf53 ∈ uw := uc3 166 rfl rfl
set_option maxRecDepth 20000 in
theorem u973 : Cond.static yJ6_compare_7cf53 ∈ uw := uc3 167 rfl rfl
set_option maxRecDepth 20000 in
theorem u974 : Cond.code yJ6_compare_7cf53 cJ6_compare_7cf53 2 (some .int) ∈ uw := uc3 168 rfl rfl
set_option maxRecDepth 20000 in
theorem u975 : Cond.methodLink "BinsThatTellLaw" 106 yX11_three ∈ uw := uc3 169 rfl rfl
set_option maxRecDepth 20000 in
theorem u976 : Cond.instanceMethod yX11_three ∈ uw := uc3 170 rfl rfl
set_option maxRecDepth 20000 in
theorem u977 : Cond.selects RX11 yX11_three yX11_three ∈ uw := uc3 171 rfl rfl
set_option maxRecDepth 20000 in
theorem u978 : Cond.code yX11_three cX11_three 3 (some .int) ∈ uw := uc3 172 rfl rfl
set_option maxRecDepth 20000 in
theorem u979 : Cond.methodLink RX11 164 yX0_threeApart ∈ uw := uc3 173 rfl rfl
set_option maxRecDepth 20000 in
theorem u98 : Cond.initialized RX3 ∈ uw := uc0 12 rfl rfl
set_option maxRecDepth 20000 in
theorem u980 : Cond.instanceMethod yX0_threeApart ∈ uw := uc3 174 rfl rfl
set_option maxRecDepth 20000 in
theorem u981 : Cond.selects RX0 yX0_threeApart yX0_threeApart ∈ uw := uc3 175 rfl rfl
set_option maxRecDepth 20000 in
theorem u982 : Cond.code yX0_threeApart cX0_threeApart 6 (some .int) ∈ uw := uc3 176 rfl rfl
set_option maxRecDepth 20000 in
theorem u983 : Cond.methodLink RX0 159 yX0_gather ∈ uw := uc3 177 rfl rfl
set_option maxRecDepth 20000 in
theorem u985 : Cond.instanceMethod yX0_gather ∈ uw := uc3 179 rfl rfl
set_option maxRecDepth 20000 in
theorem u986 : Cond.code yX0_gather cX0_gather 4 none ∈ uw := uc3 180 rfl rfl
set_option maxRecDepth 20000 in
theorem u987 : Cond.methodLink RX0 143 yJ7_fill_d0a16 ∈ uw := uc3 181 rfl rfl
set_option maxRecDepth 20000 in
theorem u988 : Cond.static yJ7_fill_d0a16 ∈ uw := uc3 182 rfl rfl
set_option maxRecDepth 20000 in
theorem u989 : Cond.code yJ7_fill_d0a16 cJ7_fill_d0a16 5 none ∈ uw := uc3 183 rfl rfl
set_option maxRecDepth 20000 in
theorem u99 : Cond.initialized RX12 ∈ uw := uc0 13 rfl rfl
set_option maxRecDepth 20000 in
theorem u990 : Cond.methodLink RX0 149 yX0_isWhole ∈ uw := uc3 184 rfl rfl
set_option maxRecDepth 20000 in
theorem u992 : Cond.instanceMethod yX0_isWhole ∈ uw := uc3 186 rfl rfl
set_option maxRecDepth 20000 in
theorem u993 : Cond.code yX0_isWhole cX0_isWhole 4 (some .boolean) ∈ uw := uc3 187 rfl rfl
set_option maxRecDepth 20000 in
theorem u994 : Cond.methodLink RX0 152 yX0_gatherOne ∈ uw := uc3 188 rfl rfl
set_option maxRecDepth 20000 in
theorem u996 : Cond.instanceMethod yX0_gatherOne ∈ uw := uc3 190 rfl rfl
set_option maxRecDepth 20000 in
theorem u997 : Cond.code yX0_gatherOne cX0_gatherOne 8 none ∈ uw := uc3 191 rfl rfl
set_option maxRecDepth 20000 in
theorem u998 : Cond.methodLink RX0 156 yX0_kindOf ∈ uw := uc3 192 rfl rfl
set_option maxRecDepth 20000 in
theorem u999 : Cond.static yX0_kindOf ∈ uw := uc3 193 rfl rfl
theorem uX0 : Cond.selects RX2 ⟨RX1, "wrongPlace", "(LBinsThatTell$Text;)I"⟩ yX1_wrongPlace ∈ uw := uw_ex 0 rfl
theorem uX1 : Cond.selects RX8 ⟨RX1, "wrongPlace", "(LBinsThatTell$Text;)I"⟩ yX1_wrongPlace ∈ uw := uw_ex 1 rfl
theorem hd_J0_charAt_5068e : yJ0_charAt_5068e.cls ≠ "java/lang/invoke/MethodHandle" ∧ yJ0_charAt_5068e.cls ≠ "java/lang/invoke/VarHandle" ∧ (parseMethodDescriptor yJ0_charAt_5068e.desc).map (fun d => d.parameters.length) = some 1 := by decide +kernel
theorem hd_J0_checkIndex_df160 : yJ0_checkIndex_df160.cls ≠ "java/lang/invoke/MethodHandle" ∧ yJ0_checkIndex_df160.cls ≠ "java/lang/invoke/VarHandle" ∧ (parseMethodDescriptor yJ0_checkIndex_df160.desc).map (fun d => d.parameters.length) = some 2 := by decide +kernel
theorem hd_J0_coder_7d493 : yJ0_coder_7d493.cls ≠ "java/lang/invoke/MethodHandle" ∧ yJ0_coder_7d493.cls ≠ "java/lang/invoke/VarHandle" ∧ (parseMethodDescriptor yJ0_coder_7d493.desc).map (fun d => d.parameters.length) = some 0 := by decide +kernel
theorem hd_J0_indexOf_0f7a4 : yJ0_indexOf_0f7a4.cls ≠ "java/lang/invoke/MethodHandle" ∧ yJ0_indexOf_0f7a4.cls ≠ "java/lang/invoke/VarHandle" ∧ (parseMethodDescriptor yJ0_indexOf_0f7a4.desc).map (fun d => d.parameters.length) = some 1 := by decide +kernel
theorem hd_J0_indexOf_7cf53 : yJ0_indexOf_7cf53.cls ≠ "java/lang/invoke/MethodHandle" ∧ yJ0_indexOf_7cf53.cls ≠ "java/lang/invoke/VarHandle" ∧ (parseMethodDescriptor yJ0_indexOf_7cf53.desc).map (fun d => d.parameters.length) = some 2 := by decide +kernel
theorem hd_J0_isLatin1_aae02 : yJ0_isLatin1_aae02.cls ≠ "java/lang/invoke/MethodHandle" ∧ yJ0_isLatin1_aae02.cls ≠ "java/lang/invoke/VarHandle" ∧ (parseMethodDescriptor yJ0_isLatin1_aae02.desc).map (fun d => d.parameters.length) = some 0 := by decide +kernel
theorem hd_J0_length_8abf5 : yJ0_length_8abf5.cls ≠ "java/lang/invoke/MethodHandle" ∧ yJ0_length_8abf5.cls ≠ "java/lang/invoke/VarHandle" ∧ (parseMethodDescriptor yJ0_length_8abf5.desc).map (fun d => d.parameters.length) = some 0 := by decide +kernel
theorem hd_J13_compare_74951 : yJ13_compare_74951.cls ≠ "java/lang/invoke/MethodHandle" ∧ yJ13_compare_74951.cls ≠ "java/lang/invoke/VarHandle" ∧ (parseMethodDescriptor yJ13_compare_74951.desc).map (fun d => d.parameters.length) = some 2 := by decide +kernel
theorem hd_J13_signum_95d88 : yJ13_signum_95d88.cls ≠ "java/lang/invoke/MethodHandle" ∧ yJ13_signum_95d88.cls ≠ "java/lang/invoke/VarHandle" ∧ (parseMethodDescriptor yJ13_signum_95d88.desc).map (fun d => d.parameters.length) = some 1 := by decide +kernel
theorem hd_J1_canEncode_9a6ad : yJ1_canEncode_9a6ad.cls ≠ "java/lang/invoke/MethodHandle" ∧ yJ1_canEncode_9a6ad.cls ≠ "java/lang/invoke/VarHandle" ∧ (parseMethodDescriptor yJ1_canEncode_9a6ad.desc).map (fun d => d.parameters.length) = some 1 := by decide +kernel
theorem hd_J1_charAt_3b067 : yJ1_charAt_3b067.cls ≠ "java/lang/invoke/MethodHandle" ∧ yJ1_charAt_3b067.cls ≠ "java/lang/invoke/VarHandle" ∧ (parseMethodDescriptor yJ1_charAt_3b067.desc).map (fun d => d.parameters.length) = some 2 := by decide +kernel
theorem hd_J1_indexOfChar_4cfef : yJ1_indexOfChar_4cfef.cls ≠ "java/lang/invoke/MethodHandle" ∧ yJ1_indexOfChar_4cfef.cls ≠ "java/lang/invoke/VarHandle" ∧ (parseMethodDescriptor yJ1_indexOfChar_4cfef.desc).map (fun d => d.parameters.length) = some 4 := by decide +kernel
theorem hd_J1_indexOf_4cfef : yJ1_indexOf_4cfef.cls ≠ "java/lang/invoke/MethodHandle" ∧ yJ1_indexOf_4cfef.cls ≠ "java/lang/invoke/VarHandle" ∧ (parseMethodDescriptor yJ1_indexOf_4cfef.desc).map (fun d => d.parameters.length) = some 4 := by decide +kernel
theorem hd_J3_checkIndex_8e157 : yJ3_checkIndex_8e157.cls ≠ "java/lang/invoke/MethodHandle" ∧ yJ3_checkIndex_8e157.cls ≠ "java/lang/invoke/VarHandle" ∧ (parseMethodDescriptor yJ3_checkIndex_8e157.desc).map (fun d => d.parameters.length) = some 3 := by decide +kernel
theorem hd_J6_bitCount_0f7a4 : yJ6_bitCount_0f7a4.cls ≠ "java/lang/invoke/MethodHandle" ∧ yJ6_bitCount_0f7a4.cls ≠ "java/lang/invoke/VarHandle" ∧ (parseMethodDescriptor yJ6_bitCount_0f7a4.desc).map (fun d => d.parameters.length) = some 1 := by decide +kernel
theorem hd_J6_compare_7cf53 : yJ6_compare_7cf53.cls ≠ "java/lang/invoke/MethodHandle" ∧ yJ6_compare_7cf53.cls ≠ "java/lang/invoke/VarHandle" ∧ (parseMethodDescriptor yJ6_compare_7cf53.desc).map (fun d => d.parameters.length) = some 2 := by decide +kernel
theorem hd_J6_numberOfTrailingZeros_0f7a4 : yJ6_numberOfTrailingZeros_0f7a4.cls ≠ "java/lang/invoke/MethodHandle" ∧ yJ6_numberOfTrailingZeros_0f7a4.cls ≠ "java/lang/invoke/VarHandle" ∧ (parseMethodDescriptor yJ6_numberOfTrailingZeros_0f7a4.desc).map (fun d => d.parameters.length) = some 1 := by decide +kernel
theorem hd_J6_signum_0f7a4 : yJ6_signum_0f7a4.cls ≠ "java/lang/invoke/MethodHandle" ∧ yJ6_signum_0f7a4.cls ≠ "java/lang/invoke/VarHandle" ∧ (parseMethodDescriptor yJ6_signum_0f7a4.desc).map (fun d => d.parameters.length) = some 1 := by decide +kernel
theorem hd_J7_fill_53178 : yJ7_fill_53178.cls ≠ "java/lang/invoke/MethodHandle" ∧ yJ7_fill_53178.cls ≠ "java/lang/invoke/VarHandle" ∧ (parseMethodDescriptor yJ7_fill_53178.desc).map (fun d => d.parameters.length) = some 2 := by decide +kernel
theorem hd_J7_fill_d0a16 : yJ7_fill_d0a16.cls ≠ "java/lang/invoke/MethodHandle" ∧ yJ7_fill_d0a16.cls ≠ "java/lang/invoke/VarHandle" ∧ (parseMethodDescriptor yJ7_fill_d0a16.desc).map (fun d => d.parameters.length) = some 2 := by decide +kernel
theorem hd_X0_bestShare : yX0_bestShare.cls ≠ "java/lang/invoke/MethodHandle" ∧ yX0_bestShare.cls ≠ "java/lang/invoke/VarHandle" ∧ (parseMethodDescriptor yX0_bestShare.desc).map (fun d => d.parameters.length) = some 2 := by decide +kernel
theorem hd_X0_eatenInCell : yX0_eatenInCell.cls ≠ "java/lang/invoke/MethodHandle" ∧ yX0_eatenInCell.cls ≠ "java/lang/invoke/VarHandle" ∧ (parseMethodDescriptor yX0_eatenInCell.desc).map (fun d => d.parameters.length) = some 3 := by decide +kernel
theorem hd_X0_gather : yX0_gather.cls ≠ "java/lang/invoke/MethodHandle" ∧ yX0_gather.cls ≠ "java/lang/invoke/VarHandle" ∧ (parseMethodDescriptor yX0_gather.desc).map (fun d => d.parameters.length) = some 2 := by decide +kernel
theorem hd_X0_gatherOne : yX0_gatherOne.cls ≠ "java/lang/invoke/MethodHandle" ∧ yX0_gatherOne.cls ≠ "java/lang/invoke/VarHandle" ∧ (parseMethodDescriptor yX0_gatherOne.desc).map (fun d => d.parameters.length) = some 3 := by decide +kernel
theorem hd_X0_goesWithRight : yX0_goesWithRight.cls ≠ "java/lang/invoke/MethodHandle" ∧ yX0_goesWithRight.cls ≠ "java/lang/invoke/VarHandle" ∧ (parseMethodDescriptor yX0_goesWithRight.desc).map (fun d => d.parameters.length) = some 3 := by decide +kernel
theorem hd_X0_hasNeighbours : yX0_hasNeighbours.cls ≠ "java/lang/invoke/MethodHandle" ∧ yX0_hasNeighbours.cls ≠ "java/lang/invoke/VarHandle" ∧ (parseMethodDescriptor yX0_hasNeighbours.desc).map (fun d => d.parameters.length) = some 3 := by decide +kernel
theorem hd_X0_init : yX0_init.cls ≠ "java/lang/invoke/MethodHandle" ∧ yX0_init.cls ≠ "java/lang/invoke/VarHandle" ∧ (parseMethodDescriptor yX0_init.desc).map (fun d => d.parameters.length) = some 3 := by decide +kernel
theorem hd_X0_isWhole : yX0_isWhole.cls ≠ "java/lang/invoke/MethodHandle" ∧ yX0_isWhole.cls ≠ "java/lang/invoke/VarHandle" ∧ (parseMethodDescriptor yX0_isWhole.desc).map (fun d => d.parameters.length) = some 3 := by decide +kernel
theorem hd_X0_kindOf : yX0_kindOf.cls ≠ "java/lang/invoke/MethodHandle" ∧ yX0_kindOf.cls ≠ "java/lang/invoke/VarHandle" ∧ (parseMethodDescriptor yX0_kindOf.desc).map (fun d => d.parameters.length) = some 2 := by decide +kernel
theorem hd_X0_leastShare : yX0_leastShare.cls ≠ "java/lang/invoke/MethodHandle" ∧ yX0_leastShare.cls ≠ "java/lang/invoke/VarHandle" ∧ (parseMethodDescriptor yX0_leastShare.desc).map (fun d => d.parameters.length) = some 3 := by decide +kernel
theorem hd_X0_lowerOf : yX0_lowerOf.cls ≠ "java/lang/invoke/MethodHandle" ∧ yX0_lowerOf.cls ≠ "java/lang/invoke/VarHandle" ∧ (parseMethodDescriptor yX0_lowerOf.desc).map (fun d => d.parameters.length) = some 1 := by decide +kernel
theorem hd_X0_measure : yX0_measure.cls ≠ "java/lang/invoke/MethodHandle" ∧ yX0_measure.cls ≠ "java/lang/invoke/VarHandle" ∧ (parseMethodDescriptor yX0_measure.desc).map (fun d => d.parameters.length) = some 2 := by decide +kernel
theorem hd_X0_measureOne : yX0_measureOne.cls ≠ "java/lang/invoke/MethodHandle" ∧ yX0_measureOne.cls ≠ "java/lang/invoke/VarHandle" ∧ (parseMethodDescriptor yX0_measureOne.desc).map (fun d => d.parameters.length) = some 1 := by decide +kernel
theorem hd_X0_nearerNeighbours : yX0_nearerNeighbours.cls ≠ "java/lang/invoke/MethodHandle" ∧ yX0_nearerNeighbours.cls ≠ "java/lang/invoke/VarHandle" ∧ (parseMethodDescriptor yX0_nearerNeighbours.desc).map (fun d => d.parameters.length) = some 2 := by decide +kernel
theorem hd_X0_nearestWay : yX0_nearestWay.cls ≠ "java/lang/invoke/MethodHandle" ∧ yX0_nearestWay.cls ≠ "java/lang/invoke/VarHandle" ∧ (parseMethodDescriptor yX0_nearestWay.desc).map (fun d => d.parameters.length) = some 1 := by decide +kernel
theorem hd_X0_offBy : yX0_offBy.cls ≠ "java/lang/invoke/MethodHandle" ∧ yX0_offBy.cls ≠ "java/lang/invoke/VarHandle" ∧ (parseMethodDescriptor yX0_offBy.desc).map (fun d => d.parameters.length) = some 2 := by decide +kernel
theorem hd_X0_pairsByRight : yX0_pairsByRight.cls ≠ "java/lang/invoke/MethodHandle" ∧ yX0_pairsByRight.cls ≠ "java/lang/invoke/VarHandle" ∧ (parseMethodDescriptor yX0_pairsByRight.desc).map (fun d => d.parameters.length) = some 1 := by decide +kernel
theorem hd_X0_saidByShop : yX0_saidByShop.cls ≠ "java/lang/invoke/MethodHandle" ∧ yX0_saidByShop.cls ≠ "java/lang/invoke/VarHandle" ∧ (parseMethodDescriptor yX0_saidByShop.desc).map (fun d => d.parameters.length) = some 2 := by decide +kernel
theorem hd_X0_spread : yX0_spread.cls ≠ "java/lang/invoke/MethodHandle" ∧ yX0_spread.cls ≠ "java/lang/invoke/VarHandle" ∧ (parseMethodDescriptor yX0_spread.desc).map (fun d => d.parameters.length) = some 2 := by decide +kernel
theorem hd_X0_surely : yX0_surely.cls ≠ "java/lang/invoke/MethodHandle" ∧ yX0_surely.cls ≠ "java/lang/invoke/VarHandle" ∧ (parseMethodDescriptor yX0_surely.desc).map (fun d => d.parameters.length) = some 3 := by decide +kernel
theorem hd_X0_thousandths : yX0_thousandths.cls ≠ "java/lang/invoke/MethodHandle" ∧ yX0_thousandths.cls ≠ "java/lang/invoke/VarHandle" ∧ (parseMethodDescriptor yX0_thousandths.desc).map (fun d => d.parameters.length) = some 2 := by decide +kernel
theorem hd_X0_threeApart : yX0_threeApart.cls ≠ "java/lang/invoke/MethodHandle" ∧ yX0_threeApart.cls ≠ "java/lang/invoke/VarHandle" ∧ (parseMethodDescriptor yX0_threeApart.desc).map (fun d => d.parameters.length) = some 2 := by decide +kernel
theorem hd_X0_total : yX0_total.cls ≠ "java/lang/invoke/MethodHandle" ∧ yX0_total.cls ≠ "java/lang/invoke/VarHandle" ∧ (parseMethodDescriptor yX0_total.desc).map (fun d => d.parameters.length) = some 4 := by decide +kernel
theorem hd_X0_worstSort : yX0_worstSort.cls ≠ "java/lang/invoke/MethodHandle" ∧ yX0_worstSort.cls ≠ "java/lang/invoke/VarHandle" ∧ (parseMethodDescriptor yX0_worstSort.desc).map (fun d => d.parameters.length) = some 2 := by decide +kernel
theorem hd_X10_addSort : yX10_addSort.cls ≠ "java/lang/invoke/MethodHandle" ∧ yX10_addSort.cls ≠ "java/lang/invoke/VarHandle" ∧ (parseMethodDescriptor yX10_addSort.desc).map (fun d => d.parameters.length) = some 3 := by decide +kernel
theorem hd_X10_addStreet : yX10_addStreet.cls ≠ "java/lang/invoke/MethodHandle" ∧ yX10_addStreet.cls ≠ "java/lang/invoke/VarHandle" ∧ (parseMethodDescriptor yX10_addStreet.desc).map (fun d => d.parameters.length) = some 1 := by decide +kernel
theorem hd_X10_cellCount : yX10_cellCount.cls ≠ "java/lang/invoke/MethodHandle" ∧ yX10_cellCount.cls ≠ "java/lang/invoke/VarHandle" ∧ (parseMethodDescriptor yX10_cellCount.desc).map (fun d => d.parameters.length) = some 0 := by decide +kernel
theorem hd_X10_entryOf : yX10_entryOf.cls ≠ "java/lang/invoke/MethodHandle" ∧ yX10_entryOf.cls ≠ "java/lang/invoke/VarHandle" ∧ (parseMethodDescriptor yX10_entryOf.desc).map (fun d => d.parameters.length) = some 2 := by decide +kernel
theorem hd_X10_hasCell : yX10_hasCell.cls ≠ "java/lang/invoke/MethodHandle" ∧ yX10_hasCell.cls ≠ "java/lang/invoke/VarHandle" ∧ (parseMethodDescriptor yX10_hasCell.desc).map (fun d => d.parameters.length) = some 1 := by decide +kernel
theorem hd_X10_hasNumber : yX10_hasNumber.cls ≠ "java/lang/invoke/MethodHandle" ∧ yX10_hasNumber.cls ≠ "java/lang/invoke/VarHandle" ∧ (parseMethodDescriptor yX10_hasNumber.desc).map (fun d => d.parameters.length) = some 3 := by decide +kernel
theorem hd_X10_hasSort : yX10_hasSort.cls ≠ "java/lang/invoke/MethodHandle" ∧ yX10_hasSort.cls ≠ "java/lang/invoke/VarHandle" ∧ (parseMethodDescriptor yX10_hasSort.desc).map (fun d => d.parameters.length) = some 1 := by decide +kernel
theorem hd_X10_hasStreet : yX10_hasStreet.cls ≠ "java/lang/invoke/MethodHandle" ∧ yX10_hasStreet.cls ≠ "java/lang/invoke/VarHandle" ∧ (parseMethodDescriptor yX10_hasStreet.desc).map (fun d => d.parameters.length) = some 1 := by decide +kernel
theorem hd_X10_init : yX10_init.cls ≠ "java/lang/invoke/MethodHandle" ∧ yX10_init.cls ≠ "java/lang/invoke/VarHandle" ∧ (parseMethodDescriptor yX10_init.desc).map (fun d => d.parameters.length) = some 2 := by decide +kernel
theorem hd_X10_isLack : yX10_isLack.cls ≠ "java/lang/invoke/MethodHandle" ∧ yX10_isLack.cls ≠ "java/lang/invoke/VarHandle" ∧ (parseMethodDescriptor yX10_isLack.desc).map (fun d => d.parameters.length) = some 2 := by decide +kernel
theorem hd_X10_lastsOf : yX10_lastsOf.cls ≠ "java/lang/invoke/MethodHandle" ∧ yX10_lastsOf.cls ≠ "java/lang/invoke/VarHandle" ∧ (parseMethodDescriptor yX10_lastsOf.desc).map (fun d => d.parameters.length) = some 1 := by decide +kernel
theorem hd_X10_leavesOf : yX10_leavesOf.cls ≠ "java/lang/invoke/MethodHandle" ∧ yX10_leavesOf.cls ≠ "java/lang/invoke/VarHandle" ∧ (parseMethodDescriptor yX10_leavesOf.desc).map (fun d => d.parameters.length) = some 1 := by decide +kernel
theorem hd_X10_liveSort : yX10_liveSort.cls ≠ "java/lang/invoke/MethodHandle" ∧ yX10_liveSort.cls ≠ "java/lang/invoke/VarHandle" ∧ (parseMethodDescriptor yX10_liveSort.desc).map (fun d => d.parameters.length) = some 3 := by decide +kernel
theorem hd_X10_liveWeek : yX10_liveWeek.cls ≠ "java/lang/invoke/MethodHandle" ∧ yX10_liveWeek.cls ≠ "java/lang/invoke/VarHandle" ∧ (parseMethodDescriptor yX10_liveWeek.desc).map (fun d => d.parameters.length) = some 2 := by decide +kernel
theorem hd_X10_readSheet : yX10_readSheet.cls ≠ "java/lang/invoke/MethodHandle" ∧ yX10_readSheet.cls ≠ "java/lang/invoke/VarHandle" ∧ (parseMethodDescriptor yX10_readSheet.desc).map (fun d => d.parameters.length) = some 5 := by decide +kernel
theorem hd_X10_rightOf : yX10_rightOf.cls ≠ "java/lang/invoke/MethodHandle" ∧ yX10_rightOf.cls ≠ "java/lang/invoke/VarHandle" ∧ (parseMethodDescriptor yX10_rightOf.desc).map (fun d => d.parameters.length) = some 1 := by decide +kernel
theorem hd_X10_setGone : yX10_setGone.cls ≠ "java/lang/invoke/MethodHandle" ∧ yX10_setGone.cls ≠ "java/lang/invoke/VarHandle" ∧ (parseMethodDescriptor yX10_setGone.desc).map (fun d => d.parameters.length) = some 4 := by decide +kernel
theorem hd_X10_setLack : yX10_setLack.cls ≠ "java/lang/invoke/MethodHandle" ∧ yX10_setLack.cls ≠ "java/lang/invoke/VarHandle" ∧ (parseMethodDescriptor yX10_setLack.desc).map (fun d => d.parameters.length) = some 3 := by decide +kernel
theorem hd_X10_setTold : yX10_setTold.cls ≠ "java/lang/invoke/MethodHandle" ∧ yX10_setTold.cls ≠ "java/lang/invoke/VarHandle" ∧ (parseMethodDescriptor yX10_setTold.desc).map (fun d => d.parameters.length) = some 2 := by decide +kernel
theorem hd_X10_sortCount : yX10_sortCount.cls ≠ "java/lang/invoke/MethodHandle" ∧ yX10_sortCount.cls ≠ "java/lang/invoke/VarHandle" ∧ (parseMethodDescriptor yX10_sortCount.desc).map (fun d => d.parameters.length) = some 0 := by decide +kernel
theorem hd_X10_staysOf : yX10_staysOf.cls ≠ "java/lang/invoke/MethodHandle" ∧ yX10_staysOf.cls ≠ "java/lang/invoke/VarHandle" ∧ (parseMethodDescriptor yX10_staysOf.desc).map (fun d => d.parameters.length) = some 1 := by decide +kernel
theorem hd_X10_streetCount : yX10_streetCount.cls ≠ "java/lang/invoke/MethodHandle" ∧ yX10_streetCount.cls ≠ "java/lang/invoke/VarHandle" ∧ (parseMethodDescriptor yX10_streetCount.desc).map (fun d => d.parameters.length) = some 0 := by decide +kernel
theorem hd_X10_throwAway : yX10_throwAway.cls ≠ "java/lang/invoke/MethodHandle" ∧ yX10_throwAway.cls ≠ "java/lang/invoke/VarHandle" ∧ (parseMethodDescriptor yX10_throwAway.desc).map (fun d => d.parameters.length) = some 4 := by decide +kernel
theorem hd_X10_toldFromOf : yX10_toldFromOf.cls ≠ "java/lang/invoke/MethodHandle" ∧ yX10_toldFromOf.cls ≠ "java/lang/invoke/VarHandle" ∧ (parseMethodDescriptor yX10_toldFromOf.desc).map (fun d => d.parameters.length) = some 1 := by decide +kernel
theorem hd_X11_again : yX11_again.cls ≠ "java/lang/invoke/MethodHandle" ∧ yX11_again.cls ≠ "java/lang/invoke/VarHandle" ∧ (parseMethodDescriptor yX11_again.desc).map (fun d => d.parameters.length) = some 1 := by decide +kernel
theorem hd_X11_alike : yX11_alike.cls ≠ "java/lang/invoke/MethodHandle" ∧ yX11_alike.cls ≠ "java/lang/invoke/VarHandle" ∧ (parseMethodDescriptor yX11_alike.desc).map (fun d => d.parameters.length) = some 0 := by decide +kernel
theorem hd_X11_between : yX11_between.cls ≠ "java/lang/invoke/MethodHandle" ∧ yX11_between.cls ≠ "java/lang/invoke/VarHandle" ∧ (parseMethodDescriptor yX11_between.desc).map (fun d => d.parameters.length) = some 3 := by decide +kernel
theorem hd_X11_bounds : yX11_bounds.cls ≠ "java/lang/invoke/MethodHandle" ∧ yX11_bounds.cls ≠ "java/lang/invoke/VarHandle" ∧ (parseMethodDescriptor yX11_bounds.desc).map (fun d => d.parameters.length) = some 3 := by decide +kernel
theorem hd_X11_commonDivisor : yX11_commonDivisor.cls ≠ "java/lang/invoke/MethodHandle" ∧ yX11_commonDivisor.cls ≠ "java/lang/invoke/VarHandle" ∧ (parseMethodDescriptor yX11_commonDivisor.desc).map (fun d => d.parameters.length) = some 2 := by decide +kernel
theorem hd_X11_compareFractions : yX11_compareFractions.cls ≠ "java/lang/invoke/MethodHandle" ∧ yX11_compareFractions.cls ≠ "java/lang/invoke/VarHandle" ∧ (parseMethodDescriptor yX11_compareFractions.desc).map (fun d => d.parameters.length) = some 4 := by decide +kernel
theorem hd_X11_count : yX11_count.cls ≠ "java/lang/invoke/MethodHandle" ∧ yX11_count.cls ≠ "java/lang/invoke/VarHandle" ∧ (parseMethodDescriptor yX11_count.desc).map (fun d => d.parameters.length) = some 1 := by decide +kernel
theorem hd_X11_does : yX11_does.cls ≠ "java/lang/invoke/MethodHandle" ∧ yX11_does.cls ≠ "java/lang/invoke/VarHandle" ∧ (parseMethodDescriptor yX11_does.desc).map (fun d => d.parameters.length) = some 3 := by decide +kernel
theorem hd_X11_end : yX11_end.cls ≠ "java/lang/invoke/MethodHandle" ∧ yX11_end.cls ≠ "java/lang/invoke/VarHandle" ∧ (parseMethodDescriptor yX11_end.desc).map (fun d => d.parameters.length) = some 1 := by decide +kernel
theorem hd_X11_feasts : yX11_feasts.cls ≠ "java/lang/invoke/MethodHandle" ∧ yX11_feasts.cls ≠ "java/lang/invoke/VarHandle" ∧ (parseMethodDescriptor yX11_feasts.desc).map (fun d => d.parameters.length) = some 1 := by decide +kernel
theorem hd_X11_get : yX11_get.cls ≠ "java/lang/invoke/MethodHandle" ∧ yX11_get.cls ≠ "java/lang/invoke/VarHandle" ∧ (parseMethodDescriptor yX11_get.desc).map (fun d => d.parameters.length) = some 3 := by decide +kernel
theorem hd_X11_goes : yX11_goes.cls ≠ "java/lang/invoke/MethodHandle" ∧ yX11_goes.cls ≠ "java/lang/invoke/VarHandle" ∧ (parseMethodDescriptor yX11_goes.desc).map (fun d => d.parameters.length) = some 4 := by decide +kernel
theorem hd_X11_hasBit : yX11_hasBit.cls ≠ "java/lang/invoke/MethodHandle" ∧ yX11_hasBit.cls ≠ "java/lang/invoke/VarHandle" ∧ (parseMethodDescriptor yX11_hasBit.desc).map (fun d => d.parameters.length) = some 2 := by decide +kernel
theorem hd_X11_holds : yX11_holds.cls ≠ "java/lang/invoke/MethodHandle" ∧ yX11_holds.cls ≠ "java/lang/invoke/VarHandle" ∧ (parseMethodDescriptor yX11_holds.desc).map (fun d => d.parameters.length) = some 1 := by decide +kernel
theorem hd_X11_isKind : yX11_isKind.cls ≠ "java/lang/invoke/MethodHandle" ∧ yX11_isKind.cls ≠ "java/lang/invoke/VarHandle" ∧ (parseMethodDescriptor yX11_isKind.desc).map (fun d => d.parameters.length) = some 1 := by decide +kernel
theorem hd_X11_isWay : yX11_isWay.cls ≠ "java/lang/invoke/MethodHandle" ∧ yX11_isWay.cls ≠ "java/lang/invoke/VarHandle" ∧ (parseMethodDescriptor yX11_isWay.desc).map (fun d => d.parameters.length) = some 1 := by decide +kernel
theorem hd_X11_isWeek : yX11_isWeek.cls ≠ "java/lang/invoke/MethodHandle" ∧ yX11_isWeek.cls ≠ "java/lang/invoke/VarHandle" ∧ (parseMethodDescriptor yX11_isWeek.desc).map (fun d => d.parameters.length) = some 1 := by decide +kernel
theorem hd_X11_keep : yX11_keep.cls ≠ "java/lang/invoke/MethodHandle" ∧ yX11_keep.cls ≠ "java/lang/invoke/VarHandle" ∧ (parseMethodDescriptor yX11_keep.desc).map (fun d => d.parameters.length) = some 1 := by decide +kernel
theorem hd_X11_lack : yX11_lack.cls ≠ "java/lang/invoke/MethodHandle" ∧ yX11_lack.cls ≠ "java/lang/invoke/VarHandle" ∧ (parseMethodDescriptor yX11_lack.desc).map (fun d => d.parameters.length) = some 3 := by decide +kernel
theorem hd_X11_law : yX11_law.cls ≠ "java/lang/invoke/MethodHandle" ∧ yX11_law.cls ≠ "java/lang/invoke/VarHandle" ∧ (parseMethodDescriptor yX11_law.desc).map (fun d => d.parameters.length) = some 1 := by decide +kernel
theorem hd_X11_line : yX11_line.cls ≠ "java/lang/invoke/MethodHandle" ∧ yX11_line.cls ≠ "java/lang/invoke/VarHandle" ∧ (parseMethodDescriptor yX11_line.desc).map (fun d => d.parameters.length) = some 3 := by decide +kernel
theorem hd_X11_live : yX11_live.cls ≠ "java/lang/invoke/MethodHandle" ∧ yX11_live.cls ≠ "java/lang/invoke/VarHandle" ∧ (parseMethodDescriptor yX11_live.desc).map (fun d => d.parameters.length) = some 2 := by decide +kernel
theorem hd_X11_mixed : yX11_mixed.cls ≠ "java/lang/invoke/MethodHandle" ∧ yX11_mixed.cls ≠ "java/lang/invoke/VarHandle" ∧ (parseMethodDescriptor yX11_mixed.desc).map (fun d => d.parameters.length) = some 0 := by decide +kernel
theorem hd_X11_moved : yX11_moved.cls ≠ "java/lang/invoke/MethodHandle" ∧ yX11_moved.cls ≠ "java/lang/invoke/VarHandle" ∧ (parseMethodDescriptor yX11_moved.desc).map (fun d => d.parameters.length) = some 2 := by decide +kernel
theorem hd_X11_nearest : yX11_nearest.cls ≠ "java/lang/invoke/MethodHandle" ∧ yX11_nearest.cls ≠ "java/lang/invoke/VarHandle" ∧ (parseMethodDescriptor yX11_nearest.desc).map (fun d => d.parameters.length) = some 1 := by decide +kernel
theorem hd_X11_need : yX11_need.cls ≠ "java/lang/invoke/MethodHandle" ∧ yX11_need.cls ≠ "java/lang/invoke/VarHandle" ∧ (parseMethodDescriptor yX11_need.desc).map (fun d => d.parameters.length) = some 4 := by decide +kernel
theorem hd_X11_off : yX11_off.cls ≠ "java/lang/invoke/MethodHandle" ∧ yX11_off.cls ≠ "java/lang/invoke/VarHandle" ∧ (parseMethodDescriptor yX11_off.desc).map (fun d => d.parameters.length) = some 2 := by decide +kernel
theorem hd_X11_others : yX11_others.cls ≠ "java/lang/invoke/MethodHandle" ∧ yX11_others.cls ≠ "java/lang/invoke/VarHandle" ∧ (parseMethodDescriptor yX11_others.desc).map (fun d => d.parameters.length) = some 2 := by decide +kernel
theorem hd_X11_paper : yX11_paper.cls ≠ "java/lang/invoke/MethodHandle" ∧ yX11_paper.cls ≠ "java/lang/invoke/VarHandle" ∧ (parseMethodDescriptor yX11_paper.desc).map (fun d => d.parameters.length) = some 3 := by decide +kernel
theorem hd_X11_parts : yX11_parts.cls ≠ "java/lang/invoke/MethodHandle" ∧ yX11_parts.cls ≠ "java/lang/invoke/VarHandle" ∧ (parseMethodDescriptor yX11_parts.desc).map (fun d => d.parameters.length) = some 0 := by decide +kernel
theorem hd_X11_put : yX11_put.cls ≠ "java/lang/invoke/MethodHandle" ∧ yX11_put.cls ≠ "java/lang/invoke/VarHandle" ∧ (parseMethodDescriptor yX11_put.desc).map (fun d => d.parameters.length) = some 4 := by decide +kernel
theorem hd_X11_right : yX11_right.cls ≠ "java/lang/invoke/MethodHandle" ∧ yX11_right.cls ≠ "java/lang/invoke/VarHandle" ∧ (parseMethodDescriptor yX11_right.desc).map (fun d => d.parameters.length) = some 1 := by decide +kernel
theorem hd_X11_seed : yX11_seed.cls ≠ "java/lang/invoke/MethodHandle" ∧ yX11_seed.cls ≠ "java/lang/invoke/VarHandle" ∧ (parseMethodDescriptor yX11_seed.desc).map (fun d => d.parameters.length) = some 1 := by decide +kernel
theorem hd_X11_sheet : yX11_sheet.cls ≠ "java/lang/invoke/MethodHandle" ∧ yX11_sheet.cls ≠ "java/lang/invoke/VarHandle" ∧ (parseMethodDescriptor yX11_sheet.desc).map (fun d => d.parameters.length) = some 5 := by decide +kernel
theorem hd_X11_sign : yX11_sign.cls ≠ "java/lang/invoke/MethodHandle" ∧ yX11_sign.cls ≠ "java/lang/invoke/VarHandle" ∧ (parseMethodDescriptor yX11_sign.desc).map (fun d => d.parameters.length) = some 1 := by decide +kernel
theorem hd_X11_slope : yX11_slope.cls ≠ "java/lang/invoke/MethodHandle" ∧ yX11_slope.cls ≠ "java/lang/invoke/VarHandle" ∧ (parseMethodDescriptor yX11_slope.desc).map (fun d => d.parameters.length) = some 2 := by decide +kernel
theorem hd_X11_sort : yX11_sort.cls ≠ "java/lang/invoke/MethodHandle" ∧ yX11_sort.cls ≠ "java/lang/invoke/VarHandle" ∧ (parseMethodDescriptor yX11_sort.desc).map (fun d => d.parameters.length) = some 3 := by decide +kernel
theorem hd_X11_story : yX11_story.cls ≠ "java/lang/invoke/MethodHandle" ∧ yX11_story.cls ≠ "java/lang/invoke/VarHandle" ∧ (parseMethodDescriptor yX11_story.desc).map (fun d => d.parameters.length) = some 0 := by decide +kernel
theorem hd_X11_stray : yX11_stray.cls ≠ "java/lang/invoke/MethodHandle" ∧ yX11_stray.cls ≠ "java/lang/invoke/VarHandle" ∧ (parseMethodDescriptor yX11_stray.desc).map (fun d => d.parameters.length) = some 0 := by decide +kernel
theorem hd_X11_street : yX11_street.cls ≠ "java/lang/invoke/MethodHandle" ∧ yX11_street.cls ≠ "java/lang/invoke/VarHandle" ∧ (parseMethodDescriptor yX11_street.desc).map (fun d => d.parameters.length) = some 1 := by decide +kernel
theorem hd_X11_sum : yX11_sum.cls ≠ "java/lang/invoke/MethodHandle" ∧ yX11_sum.cls ≠ "java/lang/invoke/VarHandle" ∧ (parseMethodDescriptor yX11_sum.desc).map (fun d => d.parameters.length) = some 4 := by decide +kernel
theorem hd_X11_three : yX11_three.cls ≠ "java/lang/invoke/MethodHandle" ∧ yX11_three.cls ≠ "java/lang/invoke/VarHandle" ∧ (parseMethodDescriptor yX11_three.desc).map (fun d => d.parameters.length) = some 2 := by decide +kernel
theorem hd_X11_told : yX11_told.cls ≠ "java/lang/invoke/MethodHandle" ∧ yX11_told.cls ≠ "java/lang/invoke/VarHandle" ∧ (parseMethodDescriptor yX11_told.desc).map (fun d => d.parameters.length) = some 2 := by decide +kernel
theorem hd_X11_truly : yX11_truly.cls ≠ "java/lang/invoke/MethodHandle" ∧ yX11_truly.cls ≠ "java/lang/invoke/VarHandle" ∧ (parseMethodDescriptor yX11_truly.desc).map (fun d => d.parameters.length) = some 2 := by decide +kernel
theorem hd_X11_twice : yX11_twice.cls ≠ "java/lang/invoke/MethodHandle" ∧ yX11_twice.cls ≠ "java/lang/invoke/VarHandle" ∧ (parseMethodDescriptor yX11_twice.desc).map (fun d => d.parameters.length) = some 3 := by decide +kernel
theorem hd_X11_was : yX11_was.cls ≠ "java/lang/invoke/MethodHandle" ∧ yX11_was.cls ≠ "java/lang/invoke/VarHandle" ∧ (parseMethodDescriptor yX11_was.desc).map (fun d => d.parameters.length) = some 4 := by decide +kernel
theorem hd_X11_waste : yX11_waste.cls ≠ "java/lang/invoke/MethodHandle" ∧ yX11_waste.cls ≠ "java/lang/invoke/VarHandle" ∧ (parseMethodDescriptor yX11_waste.desc).map (fun d => d.parameters.length) = some 1 := by decide +kernel
theorem hd_X11_weeks : yX11_weeks.cls ≠ "java/lang/invoke/MethodHandle" ∧ yX11_weeks.cls ≠ "java/lang/invoke/VarHandle" ∧ (parseMethodDescriptor yX11_weeks.desc).map (fun d => d.parameters.length) = some 4 := by decide +kernel
theorem hd_X11_within : yX11_within.cls ≠ "java/lang/invoke/MethodHandle" ∧ yX11_within.cls ≠ "java/lang/invoke/VarHandle" ∧ (parseMethodDescriptor yX11_within.desc).map (fun d => d.parameters.length) = some 3 := by decide +kernel
theorem hd_X11_worst : yX11_worst.cls ≠ "java/lang/invoke/MethodHandle" ∧ yX11_worst.cls ≠ "java/lang/invoke/VarHandle" ∧ (parseMethodDescriptor yX11_worst.desc).map (fun d => d.parameters.length) = some 2 := by decide +kernel
theorem hd_X11_worth : yX11_worth.cls ≠ "java/lang/invoke/MethodHandle" ∧ yX11_worth.cls ≠ "java/lang/invoke/VarHandle" ∧ (parseMethodDescriptor yX11_worth.desc).map (fun d => d.parameters.length) = some 2 := by decide +kernel
theorem hd_X11_year : yX11_year.cls ≠ "java/lang/invoke/MethodHandle" ∧ yX11_year.cls ≠ "java/lang/invoke/VarHandle" ∧ (parseMethodDescriptor yX11_year.desc).map (fun d => d.parameters.length) = some 1 := by decide +kernel
theorem hd_X12_acted : yX12_acted.cls ≠ "java/lang/invoke/MethodHandle" ∧ yX12_acted.cls ≠ "java/lang/invoke/VarHandle" ∧ (parseMethodDescriptor yX12_acted.desc).map (fun d => d.parameters.length) = some 3 := by decide +kernel
theorem hd_X12_again : yX12_again.cls ≠ "java/lang/invoke/MethodHandle" ∧ yX12_again.cls ≠ "java/lang/invoke/VarHandle" ∧ (parseMethodDescriptor yX12_again.desc).map (fun d => d.parameters.length) = some 1 := by decide +kernel
theorem hd_X12_ahead : yX12_ahead.cls ≠ "java/lang/invoke/MethodHandle" ∧ yX12_ahead.cls ≠ "java/lang/invoke/VarHandle" ∧ (parseMethodDescriptor yX12_ahead.desc).map (fun d => d.parameters.length) = some 0 := by decide +kernel
theorem hd_X12_alike : yX12_alike.cls ≠ "java/lang/invoke/MethodHandle" ∧ yX12_alike.cls ≠ "java/lang/invoke/VarHandle" ∧ (parseMethodDescriptor yX12_alike.desc).map (fun d => d.parameters.length) = some 0 := by decide +kernel
theorem hd_X12_among : yX12_among.cls ≠ "java/lang/invoke/MethodHandle" ∧ yX12_among.cls ≠ "java/lang/invoke/VarHandle" ∧ (parseMethodDescriptor yX12_among.desc).map (fun d => d.parameters.length) = some 1 := by decide +kernel
theorem hd_X12_areNeighbours : yX12_areNeighbours.cls ≠ "java/lang/invoke/MethodHandle" ∧ yX12_areNeighbours.cls ≠ "java/lang/invoke/VarHandle" ∧ (parseMethodDescriptor yX12_areNeighbours.desc).map (fun d => d.parameters.length) = some 3 := by decide +kernel
theorem hd_X12_areTold : yX12_areTold.cls ≠ "java/lang/invoke/MethodHandle" ∧ yX12_areTold.cls ≠ "java/lang/invoke/VarHandle" ∧ (parseMethodDescriptor yX12_areTold.desc).map (fun d => d.parameters.length) = some 2 := by decide +kernel
theorem hd_X12_at : yX12_at.cls ≠ "java/lang/invoke/MethodHandle" ∧ yX12_at.cls ≠ "java/lang/invoke/VarHandle" ∧ (parseMethodDescriptor yX12_at.desc).map (fun d => d.parameters.length) = some 3 := by decide +kernel
theorem hd_X12_bags : yX12_bags.cls ≠ "java/lang/invoke/MethodHandle" ∧ yX12_bags.cls ≠ "java/lang/invoke/VarHandle" ∧ (parseMethodDescriptor yX12_bags.desc).map (fun d => d.parameters.length) = some 3 := by decide +kernel
theorem hd_X12_begins : yX12_begins.cls ≠ "java/lang/invoke/MethodHandle" ∧ yX12_begins.cls ≠ "java/lang/invoke/VarHandle" ∧ (parseMethodDescriptor yX12_begins.desc).map (fun d => d.parameters.length) = some 0 := by decide +kernel
theorem hd_X12_bounds : yX12_bounds.cls ≠ "java/lang/invoke/MethodHandle" ∧ yX12_bounds.cls ≠ "java/lang/invoke/VarHandle" ∧ (parseMethodDescriptor yX12_bounds.desc).map (fun d => d.parameters.length) = some 3 := by decide +kernel
theorem hd_X12_common : yX12_common.cls ≠ "java/lang/invoke/MethodHandle" ∧ yX12_common.cls ≠ "java/lang/invoke/VarHandle" ∧ (parseMethodDescriptor yX12_common.desc).map (fun d => d.parameters.length) = some 2 := by decide +kernel
theorem hd_X12_count : yX12_count.cls ≠ "java/lang/invoke/MethodHandle" ∧ yX12_count.cls ≠ "java/lang/invoke/VarHandle" ∧ (parseMethodDescriptor yX12_count.desc).map (fun d => d.parameters.length) = some 1 := by decide +kernel
theorem hd_X12_dates : yX12_dates.cls ≠ "java/lang/invoke/MethodHandle" ∧ yX12_dates.cls ≠ "java/lang/invoke/VarHandle" ∧ (parseMethodDescriptor yX12_dates.desc).map (fun d => d.parameters.length) = some 1 := by decide +kernel
theorem hd_X12_does : yX12_does.cls ≠ "java/lang/invoke/MethodHandle" ∧ yX12_does.cls ≠ "java/lang/invoke/VarHandle" ∧ (parseMethodDescriptor yX12_does.desc).map (fun d => d.parameters.length) = some 3 := by decide +kernel
theorem hd_X12_draws : yX12_draws.cls ≠ "java/lang/invoke/MethodHandle" ∧ yX12_draws.cls ≠ "java/lang/invoke/VarHandle" ∧ (parseMethodDescriptor yX12_draws.desc).map (fun d => d.parameters.length) = some 1 := by decide +kernel
theorem hd_X12_end : yX12_end.cls ≠ "java/lang/invoke/MethodHandle" ∧ yX12_end.cls ≠ "java/lang/invoke/VarHandle" ∧ (parseMethodDescriptor yX12_end.desc).map (fun d => d.parameters.length) = some 1 := by decide +kernel
theorem hd_X12_enters : yX12_enters.cls ≠ "java/lang/invoke/MethodHandle" ∧ yX12_enters.cls ≠ "java/lang/invoke/VarHandle" ∧ (parseMethodDescriptor yX12_enters.desc).map (fun d => d.parameters.length) = some 1 := by decide +kernel
theorem hd_X12_entersFraction : yX12_entersFraction.cls ≠ "java/lang/invoke/MethodHandle" ∧ yX12_entersFraction.cls ≠ "java/lang/invoke/VarHandle" ∧ (parseMethodDescriptor yX12_entersFraction.desc).map (fun d => d.parameters.length) = some 2 := by decide +kernel
theorem hd_X12_fails : yX12_fails.cls ≠ "java/lang/invoke/MethodHandle" ∧ yX12_fails.cls ≠ "java/lang/invoke/VarHandle" ∧ (parseMethodDescriptor yX12_fails.desc).map (fun d => d.parameters.length) = some 1 := by decide +kernel
theorem hd_X12_fault : yX12_fault.cls ≠ "java/lang/invoke/MethodHandle" ∧ yX12_fault.cls ≠ "java/lang/invoke/VarHandle" ∧ (parseMethodDescriptor yX12_fault.desc).map (fun d => d.parameters.length) = some 2 := by decide +kernel
theorem hd_X12_feasts : yX12_feasts.cls ≠ "java/lang/invoke/MethodHandle" ∧ yX12_feasts.cls ≠ "java/lang/invoke/VarHandle" ∧ (parseMethodDescriptor yX12_feasts.desc).map (fun d => d.parameters.length) = some 1 := by decide +kernel
theorem hd_X12_fewest : yX12_fewest.cls ≠ "java/lang/invoke/MethodHandle" ∧ yX12_fewest.cls ≠ "java/lang/invoke/VarHandle" ∧ (parseMethodDescriptor yX12_fewest.desc).map (fun d => d.parameters.length) = some 2 := by decide +kernel
theorem hd_X12_flag : yX12_flag.cls ≠ "java/lang/invoke/MethodHandle" ∧ yX12_flag.cls ≠ "java/lang/invoke/VarHandle" ∧ (parseMethodDescriptor yX12_flag.desc).map (fun d => d.parameters.length) = some 1 := by decide +kernel
theorem hd_X12_get : yX12_get.cls ≠ "java/lang/invoke/MethodHandle" ∧ yX12_get.cls ≠ "java/lang/invoke/VarHandle" ∧ (parseMethodDescriptor yX12_get.desc).map (fun d => d.parameters.length) = some 3 := by decide +kernel
theorem hd_X12_goes : yX12_goes.cls ≠ "java/lang/invoke/MethodHandle" ∧ yX12_goes.cls ≠ "java/lang/invoke/VarHandle" ∧ (parseMethodDescriptor yX12_goes.desc).map (fun d => d.parameters.length) = some 4 := by decide +kernel
theorem hd_X12_goesAll : yX12_goesAll.cls ≠ "java/lang/invoke/MethodHandle" ∧ yX12_goesAll.cls ≠ "java/lang/invoke/VarHandle" ∧ (parseMethodDescriptor yX12_goesAll.desc).map (fun d => d.parameters.length) = some 1 := by decide +kernel
theorem hd_X12_has : yX12_has.cls ≠ "java/lang/invoke/MethodHandle" ∧ yX12_has.cls ≠ "java/lang/invoke/VarHandle" ∧ (parseMethodDescriptor yX12_has.desc).map (fun d => d.parameters.length) = some 2 := by decide +kernel
theorem hd_X12_holding : yX12_holding.cls ≠ "java/lang/invoke/MethodHandle" ∧ yX12_holding.cls ≠ "java/lang/invoke/VarHandle" ∧ (parseMethodDescriptor yX12_holding.desc).map (fun d => d.parameters.length) = some 1 := by decide +kernel
theorem hd_X12_holds : yX12_holds.cls ≠ "java/lang/invoke/MethodHandle" ∧ yX12_holds.cls ≠ "java/lang/invoke/VarHandle" ∧ (parseMethodDescriptor yX12_holds.desc).map (fun d => d.parameters.length) = some 1 := by decide +kernel
theorem hd_X12_in : yX12_in.cls ≠ "java/lang/invoke/MethodHandle" ∧ yX12_in.cls ≠ "java/lang/invoke/VarHandle" ∧ (parseMethodDescriptor yX12_in.desc).map (fun d => d.parameters.length) = some 3 := by decide +kernel
theorem hd_X12_isCell : yX12_isCell.cls ≠ "java/lang/invoke/MethodHandle" ∧ yX12_isCell.cls ≠ "java/lang/invoke/VarHandle" ∧ (parseMethodDescriptor yX12_isCell.desc).map (fun d => d.parameters.length) = some 1 := by decide +kernel
theorem hd_X12_isDigit : yX12_isDigit.cls ≠ "java/lang/invoke/MethodHandle" ∧ yX12_isDigit.cls ≠ "java/lang/invoke/VarHandle" ∧ (parseMethodDescriptor yX12_isDigit.desc).map (fun d => d.parameters.length) = some 0 := by decide +kernel
theorem hd_X12_isKind : yX12_isKind.cls ≠ "java/lang/invoke/MethodHandle" ∧ yX12_isKind.cls ≠ "java/lang/invoke/VarHandle" ∧ (parseMethodDescriptor yX12_isKind.desc).map (fun d => d.parameters.length) = some 1 := by decide +kernel
theorem hd_X12_isNeed : yX12_isNeed.cls ≠ "java/lang/invoke/MethodHandle" ∧ yX12_isNeed.cls ≠ "java/lang/invoke/VarHandle" ∧ (parseMethodDescriptor yX12_isNeed.desc).map (fun d => d.parameters.length) = some 4 := by decide +kernel
theorem hd_X12_isSort : yX12_isSort.cls ≠ "java/lang/invoke/MethodHandle" ∧ yX12_isSort.cls ≠ "java/lang/invoke/VarHandle" ∧ (parseMethodDescriptor yX12_isSort.desc).map (fun d => d.parameters.length) = some 1 := by decide +kernel
theorem hd_X12_isStreet : yX12_isStreet.cls ≠ "java/lang/invoke/MethodHandle" ∧ yX12_isStreet.cls ≠ "java/lang/invoke/VarHandle" ∧ (parseMethodDescriptor yX12_isStreet.desc).map (fun d => d.parameters.length) = some 1 := by decide +kernel
theorem hd_X12_isTold : yX12_isTold.cls ≠ "java/lang/invoke/MethodHandle" ∧ yX12_isTold.cls ≠ "java/lang/invoke/VarHandle" ∧ (parseMethodDescriptor yX12_isTold.desc).map (fun d => d.parameters.length) = some 3 := by decide +kernel
theorem hd_X12_isWay : yX12_isWay.cls ≠ "java/lang/invoke/MethodHandle" ∧ yX12_isWay.cls ≠ "java/lang/invoke/VarHandle" ∧ (parseMethodDescriptor yX12_isWay.desc).map (fun d => d.parameters.length) = some 1 := by decide +kernel
theorem hd_X12_isWeek : yX12_isWeek.cls ≠ "java/lang/invoke/MethodHandle" ∧ yX12_isWeek.cls ≠ "java/lang/invoke/VarHandle" ∧ (parseMethodDescriptor yX12_isWeek.desc).map (fun d => d.parameters.length) = some 1 := by decide +kernel
theorem hd_X12_isYear : yX12_isYear.cls ≠ "java/lang/invoke/MethodHandle" ∧ yX12_isYear.cls ≠ "java/lang/invoke/VarHandle" ∧ (parseMethodDescriptor yX12_isYear.desc).map (fun d => d.parameters.length) = some 1 := by decide +kernel
theorem hd_X12_keep : yX12_keep.cls ≠ "java/lang/invoke/MethodHandle" ∧ yX12_keep.cls ≠ "java/lang/invoke/VarHandle" ∧ (parseMethodDescriptor yX12_keep.desc).map (fun d => d.parameters.length) = some 1 := by decide +kernel
theorem hd_X12_lack : yX12_lack.cls ≠ "java/lang/invoke/MethodHandle" ∧ yX12_lack.cls ≠ "java/lang/invoke/VarHandle" ∧ (parseMethodDescriptor yX12_lack.desc).map (fun d => d.parameters.length) = some 3 := by decide +kernel
theorem hd_X12_law : yX12_law.cls ≠ "java/lang/invoke/MethodHandle" ∧ yX12_law.cls ≠ "java/lang/invoke/VarHandle" ∧ (parseMethodDescriptor yX12_law.desc).map (fun d => d.parameters.length) = some 1 := by decide +kernel
theorem hd_X12_lawBits : yX12_lawBits.cls ≠ "java/lang/invoke/MethodHandle" ∧ yX12_lawBits.cls ≠ "java/lang/invoke/VarHandle" ∧ (parseMethodDescriptor yX12_lawBits.desc).map (fun d => d.parameters.length) = some 0 := by decide +kernel
theorem hd_X12_lawed : yX12_lawed.cls ≠ "java/lang/invoke/MethodHandle" ∧ yX12_lawed.cls ≠ "java/lang/invoke/VarHandle" ∧ (parseMethodDescriptor yX12_lawed.desc).map (fun d => d.parameters.length) = some 3 := by decide +kernel
theorem hd_X12_leans : yX12_leans.cls ≠ "java/lang/invoke/MethodHandle" ∧ yX12_leans.cls ≠ "java/lang/invoke/VarHandle" ∧ (parseMethodDescriptor yX12_leans.desc).map (fun d => d.parameters.length) = some 1 := by decide +kernel
theorem hd_X12_line : yX12_line.cls ≠ "java/lang/invoke/MethodHandle" ∧ yX12_line.cls ≠ "java/lang/invoke/VarHandle" ∧ (parseMethodDescriptor yX12_line.desc).map (fun d => d.parameters.length) = some 3 := by decide +kernel
theorem hd_X12_live : yX12_live.cls ≠ "java/lang/invoke/MethodHandle" ∧ yX12_live.cls ≠ "java/lang/invoke/VarHandle" ∧ (parseMethodDescriptor yX12_live.desc).map (fun d => d.parameters.length) = some 2 := by decide +kernel
theorem hd_X12_marks : yX12_marks.cls ≠ "java/lang/invoke/MethodHandle" ∧ yX12_marks.cls ≠ "java/lang/invoke/VarHandle" ∧ (parseMethodDescriptor yX12_marks.desc).map (fun d => d.parameters.length) = some 1 := by decide +kernel
theorem hd_X12_means : yX12_means.cls ≠ "java/lang/invoke/MethodHandle" ∧ yX12_means.cls ≠ "java/lang/invoke/VarHandle" ∧ (parseMethodDescriptor yX12_means.desc).map (fun d => d.parameters.length) = some 1 := by decide +kernel
theorem hd_X12_mixed : yX12_mixed.cls ≠ "java/lang/invoke/MethodHandle" ∧ yX12_mixed.cls ≠ "java/lang/invoke/VarHandle" ∧ (parseMethodDescriptor yX12_mixed.desc).map (fun d => d.parameters.length) = some 0 := by decide +kernel
theorem hd_X12_moved : yX12_moved.cls ≠ "java/lang/invoke/MethodHandle" ∧ yX12_moved.cls ≠ "java/lang/invoke/VarHandle" ∧ (parseMethodDescriptor yX12_moved.desc).map (fun d => d.parameters.length) = some 2 := by decide +kernel
theorem hd_X12_nearest : yX12_nearest.cls ≠ "java/lang/invoke/MethodHandle" ∧ yX12_nearest.cls ≠ "java/lang/invoke/VarHandle" ∧ (parseMethodDescriptor yX12_nearest.desc).map (fun d => d.parameters.length) = some 1 := by decide +kernel
theorem hd_X12_need : yX12_need.cls ≠ "java/lang/invoke/MethodHandle" ∧ yX12_need.cls ≠ "java/lang/invoke/VarHandle" ∧ (parseMethodDescriptor yX12_need.desc).map (fun d => d.parameters.length) = some 4 := by decide +kernel
theorem hd_X12_numbersTold : yX12_numbersTold.cls ≠ "java/lang/invoke/MethodHandle" ∧ yX12_numbersTold.cls ≠ "java/lang/invoke/VarHandle" ∧ (parseMethodDescriptor yX12_numbersTold.desc).map (fun d => d.parameters.length) = some 0 := by decide +kernel
theorem hd_X12_off : yX12_off.cls ≠ "java/lang/invoke/MethodHandle" ∧ yX12_off.cls ≠ "java/lang/invoke/VarHandle" ∧ (parseMethodDescriptor yX12_off.desc).map (fun d => d.parameters.length) = some 2 := by decide +kernel
theorem hd_X12_offs : yX12_offs.cls ≠ "java/lang/invoke/MethodHandle" ∧ yX12_offs.cls ≠ "java/lang/invoke/VarHandle" ∧ (parseMethodDescriptor yX12_offs.desc).map (fun d => d.parameters.length) = some 2 := by decide +kernel
theorem hd_X12_once : yX12_once.cls ≠ "java/lang/invoke/MethodHandle" ∧ yX12_once.cls ≠ "java/lang/invoke/VarHandle" ∧ (parseMethodDescriptor yX12_once.desc).map (fun d => d.parameters.length) = some 3 := by decide +kernel
theorem hd_X12_others : yX12_others.cls ≠ "java/lang/invoke/MethodHandle" ∧ yX12_others.cls ≠ "java/lang/invoke/VarHandle" ∧ (parseMethodDescriptor yX12_others.desc).map (fun d => d.parameters.length) = some 2 := by decide +kernel
theorem hd_X12_paper : yX12_paper.cls ≠ "java/lang/invoke/MethodHandle" ∧ yX12_paper.cls ≠ "java/lang/invoke/VarHandle" ∧ (parseMethodDescriptor yX12_paper.desc).map (fun d => d.parameters.length) = some 3 := by decide +kernel
theorem hd_X12_parts : yX12_parts.cls ≠ "java/lang/invoke/MethodHandle" ∧ yX12_parts.cls ≠ "java/lang/invoke/VarHandle" ∧ (parseMethodDescriptor yX12_parts.desc).map (fun d => d.parameters.length) = some 0 := by decide +kernel
theorem hd_X12_placeOf : yX12_placeOf.cls ≠ "java/lang/invoke/MethodHandle" ∧ yX12_placeOf.cls ≠ "java/lang/invoke/VarHandle" ∧ (parseMethodDescriptor yX12_placeOf.desc).map (fun d => d.parameters.length) = some 3 := by decide +kernel
theorem hd_X12_power : yX12_power.cls ≠ "java/lang/invoke/MethodHandle" ∧ yX12_power.cls ≠ "java/lang/invoke/VarHandle" ∧ (parseMethodDescriptor yX12_power.desc).map (fun d => d.parameters.length) = some 2 := by decide +kernel
theorem hd_X12_put : yX12_put.cls ≠ "java/lang/invoke/MethodHandle" ∧ yX12_put.cls ≠ "java/lang/invoke/VarHandle" ∧ (parseMethodDescriptor yX12_put.desc).map (fun d => d.parameters.length) = some 4 := by decide +kernel
theorem hd_X12_ranked : yX12_ranked.cls ≠ "java/lang/invoke/MethodHandle" ∧ yX12_ranked.cls ≠ "java/lang/invoke/VarHandle" ∧ (parseMethodDescriptor yX12_ranked.desc).map (fun d => d.parameters.length) = some 1 := by decide +kernel
theorem hd_X12_readsClaim : yX12_readsClaim.cls ≠ "java/lang/invoke/MethodHandle" ∧ yX12_readsClaim.cls ≠ "java/lang/invoke/VarHandle" ∧ (parseMethodDescriptor yX12_readsClaim.desc).map (fun d => d.parameters.length) = some 1 := by decide +kernel
theorem hd_X12_right : yX12_right.cls ≠ "java/lang/invoke/MethodHandle" ∧ yX12_right.cls ≠ "java/lang/invoke/VarHandle" ∧ (parseMethodDescriptor yX12_right.desc).map (fun d => d.parameters.length) = some 1 := by decide +kernel
theorem hd_X12_row : yX12_row.cls ≠ "java/lang/invoke/MethodHandle" ∧ yX12_row.cls ≠ "java/lang/invoke/VarHandle" ∧ (parseMethodDescriptor yX12_row.desc).map (fun d => d.parameters.length) = some 1 := by decide +kernel
theorem hd_X12_seed : yX12_seed.cls ≠ "java/lang/invoke/MethodHandle" ∧ yX12_seed.cls ≠ "java/lang/invoke/VarHandle" ∧ (parseMethodDescriptor yX12_seed.desc).map (fun d => d.parameters.length) = some 1 := by decide +kernel
theorem hd_X12_sets : yX12_sets.cls ≠ "java/lang/invoke/MethodHandle" ∧ yX12_sets.cls ≠ "java/lang/invoke/VarHandle" ∧ (parseMethodDescriptor yX12_sets.desc).map (fun d => d.parameters.length) = some 4 := by decide +kernel
theorem hd_X12_sheet : yX12_sheet.cls ≠ "java/lang/invoke/MethodHandle" ∧ yX12_sheet.cls ≠ "java/lang/invoke/VarHandle" ∧ (parseMethodDescriptor yX12_sheet.desc).map (fun d => d.parameters.length) = some 5 := by decide +kernel
theorem hd_X12_sign : yX12_sign.cls ≠ "java/lang/invoke/MethodHandle" ∧ yX12_sign.cls ≠ "java/lang/invoke/VarHandle" ∧ (parseMethodDescriptor yX12_sign.desc).map (fun d => d.parameters.length) = some 1 := by decide +kernel
theorem hd_X12_slope : yX12_slope.cls ≠ "java/lang/invoke/MethodHandle" ∧ yX12_slope.cls ≠ "java/lang/invoke/VarHandle" ∧ (parseMethodDescriptor yX12_slope.desc).map (fun d => d.parameters.length) = some 2 := by decide +kernel
theorem hd_X12_sort : yX12_sort.cls ≠ "java/lang/invoke/MethodHandle" ∧ yX12_sort.cls ≠ "java/lang/invoke/VarHandle" ∧ (parseMethodDescriptor yX12_sort.desc).map (fun d => d.parameters.length) = some 3 := by decide +kernel
theorem hd_X12_story : yX12_story.cls ≠ "java/lang/invoke/MethodHandle" ∧ yX12_story.cls ≠ "java/lang/invoke/VarHandle" ∧ (parseMethodDescriptor yX12_story.desc).map (fun d => d.parameters.length) = some 0 := by decide +kernel
theorem hd_X12_stray : yX12_stray.cls ≠ "java/lang/invoke/MethodHandle" ∧ yX12_stray.cls ≠ "java/lang/invoke/VarHandle" ∧ (parseMethodDescriptor yX12_stray.desc).map (fun d => d.parameters.length) = some 0 := by decide +kernel
theorem hd_X12_street : yX12_street.cls ≠ "java/lang/invoke/MethodHandle" ∧ yX12_street.cls ≠ "java/lang/invoke/VarHandle" ∧ (parseMethodDescriptor yX12_street.desc).map (fun d => d.parameters.length) = some 1 := by decide +kernel
theorem hd_X12_sum : yX12_sum.cls ≠ "java/lang/invoke/MethodHandle" ∧ yX12_sum.cls ≠ "java/lang/invoke/VarHandle" ∧ (parseMethodDescriptor yX12_sum.desc).map (fun d => d.parameters.length) = some 4 := by decide +kernel
theorem hd_X12_takesMean : yX12_takesMean.cls ≠ "java/lang/invoke/MethodHandle" ∧ yX12_takesMean.cls ≠ "java/lang/invoke/VarHandle" ∧ (parseMethodDescriptor yX12_takesMean.desc).map (fun d => d.parameters.length) = some 5 := by decide +kernel
theorem hd_X12_thing : yX12_thing.cls ≠ "java/lang/invoke/MethodHandle" ∧ yX12_thing.cls ≠ "java/lang/invoke/VarHandle" ∧ (parseMethodDescriptor yX12_thing.desc).map (fun d => d.parameters.length) = some 0 := by decide +kernel
theorem hd_X12_thousandths : yX12_thousandths.cls ≠ "java/lang/invoke/MethodHandle" ∧ yX12_thousandths.cls ≠ "java/lang/invoke/VarHandle" ∧ (parseMethodDescriptor yX12_thousandths.desc).map (fun d => d.parameters.length) = some 2 := by decide +kernel
theorem hd_X12_three : yX12_three.cls ≠ "java/lang/invoke/MethodHandle" ∧ yX12_three.cls ≠ "java/lang/invoke/VarHandle" ∧ (parseMethodDescriptor yX12_three.desc).map (fun d => d.parameters.length) = some 2 := by decide +kernel
theorem hd_X12_threeMany : yX12_threeMany.cls ≠ "java/lang/invoke/MethodHandle" ∧ yX12_threeMany.cls ≠ "java/lang/invoke/VarHandle" ∧ (parseMethodDescriptor yX12_threeMany.desc).map (fun d => d.parameters.length) = some 1 := by decide +kernel
theorem hd_X12_thrown : yX12_thrown.cls ≠ "java/lang/invoke/MethodHandle" ∧ yX12_thrown.cls ≠ "java/lang/invoke/VarHandle" ∧ (parseMethodDescriptor yX12_thrown.desc).map (fun d => d.parameters.length) = some 0 := by decide +kernel
theorem hd_X12_together : yX12_together.cls ≠ "java/lang/invoke/MethodHandle" ∧ yX12_together.cls ≠ "java/lang/invoke/VarHandle" ∧ (parseMethodDescriptor yX12_together.desc).map (fun d => d.parameters.length) = some 3 := by decide +kernel
theorem hd_X12_told : yX12_told.cls ≠ "java/lang/invoke/MethodHandle" ∧ yX12_told.cls ≠ "java/lang/invoke/VarHandle" ∧ (parseMethodDescriptor yX12_told.desc).map (fun d => d.parameters.length) = some 2 := by decide +kernel
theorem hd_X12_tookFor : yX12_tookFor.cls ≠ "java/lang/invoke/MethodHandle" ∧ yX12_tookFor.cls ≠ "java/lang/invoke/VarHandle" ∧ (parseMethodDescriptor yX12_tookFor.desc).map (fun d => d.parameters.length) = some 2 := by decide +kernel
theorem hd_X12_truly : yX12_truly.cls ≠ "java/lang/invoke/MethodHandle" ∧ yX12_truly.cls ≠ "java/lang/invoke/VarHandle" ∧ (parseMethodDescriptor yX12_truly.desc).map (fun d => d.parameters.length) = some 2 := by decide +kernel
theorem hd_X12_twice : yX12_twice.cls ≠ "java/lang/invoke/MethodHandle" ∧ yX12_twice.cls ≠ "java/lang/invoke/VarHandle" ∧ (parseMethodDescriptor yX12_twice.desc).map (fun d => d.parameters.length) = some 3 := by decide +kernel
theorem hd_X12_valueOf : yX12_valueOf.cls ≠ "java/lang/invoke/MethodHandle" ∧ yX12_valueOf.cls ≠ "java/lang/invoke/VarHandle" ∧ (parseMethodDescriptor yX12_valueOf.desc).map (fun d => d.parameters.length) = some 1 := by decide +kernel
theorem hd_X12_was : yX12_was.cls ≠ "java/lang/invoke/MethodHandle" ∧ yX12_was.cls ≠ "java/lang/invoke/VarHandle" ∧ (parseMethodDescriptor yX12_was.desc).map (fun d => d.parameters.length) = some 4 := by decide +kernel
theorem hd_X12_waste : yX12_waste.cls ≠ "java/lang/invoke/MethodHandle" ∧ yX12_waste.cls ≠ "java/lang/invoke/VarHandle" ∧ (parseMethodDescriptor yX12_waste.desc).map (fun d => d.parameters.length) = some 1 := by decide +kernel
theorem hd_X12_wastes : yX12_wastes.cls ≠ "java/lang/invoke/MethodHandle" ∧ yX12_wastes.cls ≠ "java/lang/invoke/VarHandle" ∧ (parseMethodDescriptor yX12_wastes.desc).map (fun d => d.parameters.length) = some 1 := by decide +kernel
theorem hd_X12_weeks : yX12_weeks.cls ≠ "java/lang/invoke/MethodHandle" ∧ yX12_weeks.cls ≠ "java/lang/invoke/VarHandle" ∧ (parseMethodDescriptor yX12_weeks.desc).map (fun d => d.parameters.length) = some 4 := by decide +kernel
theorem hd_X12_worked : yX12_worked.cls ≠ "java/lang/invoke/MethodHandle" ∧ yX12_worked.cls ≠ "java/lang/invoke/VarHandle" ∧ (parseMethodDescriptor yX12_worked.desc).map (fun d => d.parameters.length) = some 1 := by decide +kernel
theorem hd_X12_worst : yX12_worst.cls ≠ "java/lang/invoke/MethodHandle" ∧ yX12_worst.cls ≠ "java/lang/invoke/VarHandle" ∧ (parseMethodDescriptor yX12_worst.desc).map (fun d => d.parameters.length) = some 2 := by decide +kernel
theorem hd_X12_worth : yX12_worth.cls ≠ "java/lang/invoke/MethodHandle" ∧ yX12_worth.cls ≠ "java/lang/invoke/VarHandle" ∧ (parseMethodDescriptor yX12_worth.desc).map (fun d => d.parameters.length) = some 2 := by decide +kernel
theorem hd_X12_year : yX12_year.cls ≠ "java/lang/invoke/MethodHandle" ∧ yX12_year.cls ≠ "java/lang/invoke/VarHandle" ∧ (parseMethodDescriptor yX12_year.desc).map (fun d => d.parameters.length) = some 1 := by decide +kernel
theorem hd_X1_init : yX1_init.cls ≠ "java/lang/invoke/MethodHandle" ∧ yX1_init.cls ≠ "java/lang/invoke/VarHandle" ∧ (parseMethodDescriptor yX1_init.desc).map (fun d => d.parameters.length) = some 0 := by decide +kernel
theorem hd_X1_isText : yX1_isText.cls ≠ "java/lang/invoke/MethodHandle" ∧ yX1_isText.cls ≠ "java/lang/invoke/VarHandle" ∧ (parseMethodDescriptor yX1_isText.desc).map (fun d => d.parameters.length) = some 1 := by decide +kernel
theorem hd_X1_signAt : yX1_signAt.cls ≠ "java/lang/invoke/MethodHandle" ∧ yX1_signAt.cls ≠ "java/lang/invoke/VarHandle" ∧ (parseMethodDescriptor yX1_signAt.desc).map (fun d => d.parameters.length) = some 2 := by decide +kernel
theorem hd_X1_sizeOf : yX1_sizeOf.cls ≠ "java/lang/invoke/MethodHandle" ∧ yX1_sizeOf.cls ≠ "java/lang/invoke/VarHandle" ∧ (parseMethodDescriptor yX1_sizeOf.desc).map (fun d => d.parameters.length) = some 1 := by decide +kernel
theorem hd_X1_write : yX1_write.cls ≠ "java/lang/invoke/MethodHandle" ∧ yX1_write.cls ≠ "java/lang/invoke/VarHandle" ∧ (parseMethodDescriptor yX1_write.desc).map (fun d => d.parameters.length) = some 2 := by decide +kernel
theorem hd_X1_wrongPlace : yX1_wrongPlace.cls ≠ "java/lang/invoke/MethodHandle" ∧ yX1_wrongPlace.cls ≠ "java/lang/invoke/VarHandle" ∧ (parseMethodDescriptor yX1_wrongPlace.desc).map (fun d => d.parameters.length) = some 1 := by decide +kernel
theorem hd_X2_added : yX2_added.cls ≠ "java/lang/invoke/MethodHandle" ∧ yX2_added.cls ≠ "java/lang/invoke/VarHandle" ∧ (parseMethodDescriptor yX2_added.desc).map (fun d => d.parameters.length) = some 1 := by decide +kernel
theorem hd_X2_bareThing : yX2_bareThing.cls ≠ "java/lang/invoke/MethodHandle" ∧ yX2_bareThing.cls ≠ "java/lang/invoke/VarHandle" ∧ (parseMethodDescriptor yX2_bareThing.desc).map (fun d => d.parameters.length) = some 1 := by decide +kernel
theorem hd_X2_begin : yX2_begin.cls ≠ "java/lang/invoke/MethodHandle" ∧ yX2_begin.cls ≠ "java/lang/invoke/VarHandle" ∧ (parseMethodDescriptor yX2_begin.desc).map (fun d => d.parameters.length) = some 0 := by decide +kernel
theorem hd_X2_bits : yX2_bits.cls ≠ "java/lang/invoke/MethodHandle" ∧ yX2_bits.cls ≠ "java/lang/invoke/VarHandle" ∧ (parseMethodDescriptor yX2_bits.desc).map (fun d => d.parameters.length) = some 0 := by decide +kernel
theorem hd_X2_both : yX2_both.cls ≠ "java/lang/invoke/MethodHandle" ∧ yX2_both.cls ≠ "java/lang/invoke/VarHandle" ∧ (parseMethodDescriptor yX2_both.desc).map (fun d => d.parameters.length) = some 1 := by decide +kernel
theorem hd_X2_comparison : yX2_comparison.cls ≠ "java/lang/invoke/MethodHandle" ∧ yX2_comparison.cls ≠ "java/lang/invoke/VarHandle" ∧ (parseMethodDescriptor yX2_comparison.desc).map (fun d => d.parameters.length) = some 1 := by decide +kernel
theorem hd_X2_couldEnd : yX2_couldEnd.cls ≠ "java/lang/invoke/MethodHandle" ∧ yX2_couldEnd.cls ≠ "java/lang/invoke/VarHandle" ∧ (parseMethodDescriptor yX2_couldEnd.desc).map (fun d => d.parameters.length) = some 0 := by decide +kernel
theorem hd_X2_either : yX2_either.cls ≠ "java/lang/invoke/MethodHandle" ∧ yX2_either.cls ≠ "java/lang/invoke/VarHandle" ∧ (parseMethodDescriptor yX2_either.desc).map (fun d => d.parameters.length) = some 1 := by decide +kernel
theorem hd_X2_enact : yX2_enact.cls ≠ "java/lang/invoke/MethodHandle" ∧ yX2_enact.cls ≠ "java/lang/invoke/VarHandle" ∧ (parseMethodDescriptor yX2_enact.desc).map (fun d => d.parameters.length) = some 2 := by decide +kernel
theorem hd_X2_here : yX2_here.cls ≠ "java/lang/invoke/MethodHandle" ∧ yX2_here.cls ≠ "java/lang/invoke/VarHandle" ∧ (parseMethodDescriptor yX2_here.desc).map (fun d => d.parameters.length) = some 0 := by decide +kernel
theorem hd_X2_init : yX2_init.cls ≠ "java/lang/invoke/MethodHandle" ∧ yX2_init.cls ≠ "java/lang/invoke/VarHandle" ∧ (parseMethodDescriptor yX2_init.desc).map (fun d => d.parameters.length) = some 1 := by decide +kernel
theorem hd_X2_isComparison : yX2_isComparison.cls ≠ "java/lang/invoke/MethodHandle" ∧ yX2_isComparison.cls ≠ "java/lang/invoke/VarHandle" ∧ (parseMethodDescriptor yX2_isComparison.desc).map (fun d => d.parameters.length) = some 1 := by decide +kernel
theorem hd_X2_isDigit : yX2_isDigit.cls ≠ "java/lang/invoke/MethodHandle" ∧ yX2_isDigit.cls ≠ "java/lang/invoke/VarHandle" ∧ (parseMethodDescriptor yX2_isDigit.desc).map (fun d => d.parameters.length) = some 1 := by decide +kernel
theorem hd_X2_isLaw : yX2_isLaw.cls ≠ "java/lang/invoke/MethodHandle" ∧ yX2_isLaw.cls ≠ "java/lang/invoke/VarHandle" ∧ (parseMethodDescriptor yX2_isLaw.desc).map (fun d => d.parameters.length) = some 1 := by decide +kernel
theorem hd_X2_isThing : yX2_isThing.cls ≠ "java/lang/invoke/MethodHandle" ∧ yX2_isThing.cls ≠ "java/lang/invoke/VarHandle" ∧ (parseMethodDescriptor yX2_isThing.desc).map (fun d => d.parameters.length) = some 1 := by decide +kernel
theorem hd_X2_let : yX2_let.cls ≠ "java/lang/invoke/MethodHandle" ∧ yX2_let.cls ≠ "java/lang/invoke/VarHandle" ∧ (parseMethodDescriptor yX2_let.desc).map (fun d => d.parameters.length) = some 2 := by decide +kernel
theorem hd_X2_multiplied : yX2_multiplied.cls ≠ "java/lang/invoke/MethodHandle" ∧ yX2_multiplied.cls ≠ "java/lang/invoke/VarHandle" ∧ (parseMethodDescriptor yX2_multiplied.desc).map (fun d => d.parameters.length) = some 1 := by decide +kernel
theorem hd_X2_reckon : yX2_reckon.cls ≠ "java/lang/invoke/MethodHandle" ∧ yX2_reckon.cls ≠ "java/lang/invoke/VarHandle" ∧ (parseMethodDescriptor yX2_reckon.desc).map (fun d => d.parameters.length) = some 2 := by decide +kernel
theorem hd_X2_takes : yX2_takes.cls ≠ "java/lang/invoke/MethodHandle" ∧ yX2_takes.cls ≠ "java/lang/invoke/VarHandle" ∧ (parseMethodDescriptor yX2_takes.desc).map (fun d => d.parameters.length) = some 1 := by decide +kernel
theorem hd_X2_takesAhead : yX2_takesAhead.cls ≠ "java/lang/invoke/MethodHandle" ∧ yX2_takesAhead.cls ≠ "java/lang/invoke/VarHandle" ∧ (parseMethodDescriptor yX2_takesAhead.desc).map (fun d => d.parameters.length) = some 1 := by decide +kernel
theorem hd_X2_takesBehind : yX2_takesBehind.cls ≠ "java/lang/invoke/MethodHandle" ∧ yX2_takesBehind.cls ≠ "java/lang/invoke/VarHandle" ∧ (parseMethodDescriptor yX2_takesBehind.desc).map (fun d => d.parameters.length) = some 1 := by decide +kernel
theorem hd_X2_thing : yX2_thing.cls ≠ "java/lang/invoke/MethodHandle" ∧ yX2_thing.cls ≠ "java/lang/invoke/VarHandle" ∧ (parseMethodDescriptor yX2_thing.desc).map (fun d => d.parameters.length) = some 1 := by decide +kernel
theorem hd_X3_addPaper : yX3_addPaper.cls ≠ "java/lang/invoke/MethodHandle" ∧ yX3_addPaper.cls ≠ "java/lang/invoke/VarHandle" ∧ (parseMethodDescriptor yX3_addPaper.desc).map (fun d => d.parameters.length) = some 3 := by decide +kernel
theorem hd_X3_allPapers : yX3_allPapers.cls ≠ "java/lang/invoke/MethodHandle" ∧ yX3_allPapers.cls ≠ "java/lang/invoke/VarHandle" ∧ (parseMethodDescriptor yX3_allPapers.desc).map (fun d => d.parameters.length) = some 0 := by decide +kernel
theorem hd_X3_clash : yX3_clash.cls ≠ "java/lang/invoke/MethodHandle" ∧ yX3_clash.cls ≠ "java/lang/invoke/VarHandle" ∧ (parseMethodDescriptor yX3_clash.desc).map (fun d => d.parameters.length) = some 2 := by decide +kernel
theorem hd_X3_fewestOut : yX3_fewestOut.cls ≠ "java/lang/invoke/MethodHandle" ∧ yX3_fewestOut.cls ≠ "java/lang/invoke/VarHandle" ∧ (parseMethodDescriptor yX3_fewestOut.desc).map (fun d => d.parameters.length) = some 0 := by decide +kernel
theorem hd_X3_firstYearOf : yX3_firstYearOf.cls ≠ "java/lang/invoke/MethodHandle" ∧ yX3_firstYearOf.cls ≠ "java/lang/invoke/VarHandle" ∧ (parseMethodDescriptor yX3_firstYearOf.desc).map (fun d => d.parameters.length) = some 1 := by decide +kernel
theorem hd_X3_goTogether : yX3_goTogether.cls ≠ "java/lang/invoke/MethodHandle" ∧ yX3_goTogether.cls ≠ "java/lang/invoke/VarHandle" ∧ (parseMethodDescriptor yX3_goTogether.desc).map (fun d => d.parameters.length) = some 1 := by decide +kernel
theorem hd_X3_grown : yX3_grown.cls ≠ "java/lang/invoke/MethodHandle" ∧ yX3_grown.cls ≠ "java/lang/invoke/VarHandle" ∧ (parseMethodDescriptor yX3_grown.desc).map (fun d => d.parameters.length) = some 3 := by decide +kernel
theorem hd_X3_init : yX3_init.cls ≠ "java/lang/invoke/MethodHandle" ∧ yX3_init.cls ≠ "java/lang/invoke/VarHandle" ∧ (parseMethodDescriptor yX3_init.desc).map (fun d => d.parameters.length) = some 2 := by decide +kernel
theorem hd_X3_isLayer : yX3_isLayer.cls ≠ "java/lang/invoke/MethodHandle" ∧ yX3_isLayer.cls ≠ "java/lang/invoke/VarHandle" ∧ (parseMethodDescriptor yX3_isLayer.desc).map (fun d => d.parameters.length) = some 1 := by decide +kernel
theorem hd_X3_lastYearOf : yX3_lastYearOf.cls ≠ "java/lang/invoke/MethodHandle" ∧ yX3_lastYearOf.cls ≠ "java/lang/invoke/VarHandle" ∧ (parseMethodDescriptor yX3_lastYearOf.desc).map (fun d => d.parameters.length) = some 1 := by decide +kernel
theorem hd_X3_size : yX3_size.cls ≠ "java/lang/invoke/MethodHandle" ∧ yX3_size.cls ≠ "java/lang/invoke/VarHandle" ∧ (parseMethodDescriptor yX3_size.desc).map (fun d => d.parameters.length) = some 0 := by decide +kernel
theorem hd_X3_thrownOnce : yX3_thrownOnce.cls ≠ "java/lang/invoke/MethodHandle" ∧ yX3_thrownOnce.cls ≠ "java/lang/invoke/VarHandle" ∧ (parseMethodDescriptor yX3_thrownOnce.desc).map (fun d => d.parameters.length) = some 4 := by decide +kernel
theorem hd_X3_yearsOf : yX3_yearsOf.cls ≠ "java/lang/invoke/MethodHandle" ∧ yX3_yearsOf.cls ≠ "java/lang/invoke/VarHandle" ∧ (parseMethodDescriptor yX3_yearsOf.desc).map (fun d => d.parameters.length) = some 1 := by decide +kernel
theorem hd_X4_addToBag : yX4_addToBag.cls ≠ "java/lang/invoke/MethodHandle" ∧ yX4_addToBag.cls ≠ "java/lang/invoke/VarHandle" ∧ (parseMethodDescriptor yX4_addToBag.desc).map (fun d => d.parameters.length) = some 3 := by decide +kernel
theorem hd_X4_change : yX4_change.cls ≠ "java/lang/invoke/MethodHandle" ∧ yX4_change.cls ≠ "java/lang/invoke/VarHandle" ∧ (parseMethodDescriptor yX4_change.desc).map (fun d => d.parameters.length) = some 4 := by decide +kernel
theorem hd_X4_draw : yX4_draw.cls ≠ "java/lang/invoke/MethodHandle" ∧ yX4_draw.cls ≠ "java/lang/invoke/VarHandle" ∧ (parseMethodDescriptor yX4_draw.desc).map (fun d => d.parameters.length) = some 1 := by decide +kernel
theorem hd_X4_has : yX4_has.cls ≠ "java/lang/invoke/MethodHandle" ∧ yX4_has.cls ≠ "java/lang/invoke/VarHandle" ∧ (parseMethodDescriptor yX4_has.desc).map (fun d => d.parameters.length) = some 3 := by decide +kernel
theorem hd_X4_init : yX4_init.cls ≠ "java/lang/invoke/MethodHandle" ∧ yX4_init.cls ≠ "java/lang/invoke/VarHandle" ∧ (parseMethodDescriptor yX4_init.desc).map (fun d => d.parameters.length) = some 0 := by decide +kernel
theorem hd_X4_of : yX4_of.cls ≠ "java/lang/invoke/MethodHandle" ∧ yX4_of.cls ≠ "java/lang/invoke/VarHandle" ∧ (parseMethodDescriptor yX4_of.desc).map (fun d => d.parameters.length) = some 3 := by decide +kernel
theorem hd_X4_placeOf : yX4_placeOf.cls ≠ "java/lang/invoke/MethodHandle" ∧ yX4_placeOf.cls ≠ "java/lang/invoke/VarHandle" ∧ (parseMethodDescriptor yX4_placeOf.desc).map (fun d => d.parameters.length) = some 3 := by decide +kernel
theorem hd_X4_reseed : yX4_reseed.cls ≠ "java/lang/invoke/MethodHandle" ∧ yX4_reseed.cls ≠ "java/lang/invoke/VarHandle" ∧ (parseMethodDescriptor yX4_reseed.desc).map (fun d => d.parameters.length) = some 1 := by decide +kernel
theorem hd_X4_restore : yX4_restore.cls ≠ "java/lang/invoke/MethodHandle" ∧ yX4_restore.cls ≠ "java/lang/invoke/VarHandle" ∧ (parseMethodDescriptor yX4_restore.desc).map (fun d => d.parameters.length) = some 1 := by decide +kernel
theorem hd_X4_size : yX4_size.cls ≠ "java/lang/invoke/MethodHandle" ∧ yX4_size.cls ≠ "java/lang/invoke/VarHandle" ∧ (parseMethodDescriptor yX4_size.desc).map (fun d => d.parameters.length) = some 0 := by decide +kernel
theorem hd_X4_store : yX4_store.cls ≠ "java/lang/invoke/MethodHandle" ∧ yX4_store.cls ≠ "java/lang/invoke/VarHandle" ∧ (parseMethodDescriptor yX4_store.desc).map (fun d => d.parameters.length) = some 1 := by decide +kernel
theorem hd_X5_add : yX5_add.cls ≠ "java/lang/invoke/MethodHandle" ∧ yX5_add.cls ≠ "java/lang/invoke/VarHandle" ∧ (parseMethodDescriptor yX5_add.desc).map (fun d => d.parameters.length) = some 1 := by decide +kernel
theorem hd_X5_addFraction : yX5_addFraction.cls ≠ "java/lang/invoke/MethodHandle" ∧ yX5_addFraction.cls ≠ "java/lang/invoke/VarHandle" ∧ (parseMethodDescriptor yX5_addFraction.desc).map (fun d => d.parameters.length) = some 2 := by decide +kernel
theorem hd_X5_clear : yX5_clear.cls ≠ "java/lang/invoke/MethodHandle" ∧ yX5_clear.cls ≠ "java/lang/invoke/VarHandle" ∧ (parseMethodDescriptor yX5_clear.desc).map (fun d => d.parameters.length) = some 0 := by decide +kernel
theorem hd_X5_init : yX5_init.cls ≠ "java/lang/invoke/MethodHandle" ∧ yX5_init.cls ≠ "java/lang/invoke/VarHandle" ∧ (parseMethodDescriptor yX5_init.desc).map (fun d => d.parameters.length) = some 0 := by decide +kernel
theorem hd_X5_size : yX5_size.cls ≠ "java/lang/invoke/MethodHandle" ∧ yX5_size.cls ≠ "java/lang/invoke/VarHandle" ∧ (parseMethodDescriptor yX5_size.desc).map (fun d => d.parameters.length) = some 0 := by decide +kernel
theorem hd_X6_bagsOf : yX6_bagsOf.cls ≠ "java/lang/invoke/MethodHandle" ∧ yX6_bagsOf.cls ≠ "java/lang/invoke/VarHandle" ∧ (parseMethodDescriptor yX6_bagsOf.desc).map (fun d => d.parameters.length) = some 1 := by decide +kernel
theorem hd_X6_cameAndWent : yX6_cameAndWent.cls ≠ "java/lang/invoke/MethodHandle" ∧ yX6_cameAndWent.cls ≠ "java/lang/invoke/VarHandle" ∧ (parseMethodDescriptor yX6_cameAndWent.desc).map (fun d => d.parameters.length) = some 2 := by decide +kernel
theorem hd_X6_countWays : yX6_countWays.cls ≠ "java/lang/invoke/MethodHandle" ∧ yX6_countWays.cls ≠ "java/lang/invoke/VarHandle" ∧ (parseMethodDescriptor yX6_countWays.desc).map (fun d => d.parameters.length) = some 1 := by decide +kernel
theorem hd_X6_effect : yX6_effect.cls ≠ "java/lang/invoke/MethodHandle" ∧ yX6_effect.cls ≠ "java/lang/invoke/VarHandle" ∧ (parseMethodDescriptor yX6_effect.desc).map (fun d => d.parameters.length) = some 3 := by decide +kernel
theorem hd_X6_feastWeeks : yX6_feastWeeks.cls ≠ "java/lang/invoke/MethodHandle" ∧ yX6_feastWeeks.cls ≠ "java/lang/invoke/VarHandle" ∧ (parseMethodDescriptor yX6_feastWeeks.desc).map (fun d => d.parameters.length) = some 1 := by decide +kernel
theorem hd_X6_fewest : yX6_fewest.cls ≠ "java/lang/invoke/MethodHandle" ∧ yX6_fewest.cls ≠ "java/lang/invoke/VarHandle" ∧ (parseMethodDescriptor yX6_fewest.desc).map (fun d => d.parameters.length) = some 5 := by decide +kernel
theorem hd_X6_gatherGroups : yX6_gatherGroups.cls ≠ "java/lang/invoke/MethodHandle" ∧ yX6_gatherGroups.cls ≠ "java/lang/invoke/VarHandle" ∧ (parseMethodDescriptor yX6_gatherGroups.desc).map (fun d => d.parameters.length) = some 3 := by decide +kernel
theorem hd_X6_gatherMeans : yX6_gatherMeans.cls ≠ "java/lang/invoke/MethodHandle" ∧ yX6_gatherMeans.cls ≠ "java/lang/invoke/VarHandle" ∧ (parseMethodDescriptor yX6_gatherMeans.desc).map (fun d => d.parameters.length) = some 3 := by decide +kernel
theorem hd_X6_init : yX6_init.cls ≠ "java/lang/invoke/MethodHandle" ∧ yX6_init.cls ≠ "java/lang/invoke/VarHandle" ∧ (parseMethodDescriptor yX6_init.desc).map (fun d => d.parameters.length) = some 3 := by decide +kernel
theorem hd_X6_insert : yX6_insert.cls ≠ "java/lang/invoke/MethodHandle" ∧ yX6_insert.cls ≠ "java/lang/invoke/VarHandle" ∧ (parseMethodDescriptor yX6_insert.desc).map (fun d => d.parameters.length) = some 2 := by decide +kernel
theorem hd_X7_add : yX7_add.cls ≠ "java/lang/invoke/MethodHandle" ∧ yX7_add.cls ≠ "java/lang/invoke/VarHandle" ∧ (parseMethodDescriptor yX7_add.desc).map (fun d => d.parameters.length) = some 3 := by decide +kernel
theorem hd_X7_agreed : yX7_agreed.cls ≠ "java/lang/invoke/MethodHandle" ∧ yX7_agreed.cls ≠ "java/lang/invoke/VarHandle" ∧ (parseMethodDescriptor yX7_agreed.desc).map (fun d => d.parameters.length) = some 0 := by decide +kernel
theorem hd_X7_init : yX7_init.cls ≠ "java/lang/invoke/MethodHandle" ∧ yX7_init.cls ≠ "java/lang/invoke/VarHandle" ∧ (parseMethodDescriptor yX7_init.desc).map (fun d => d.parameters.length) = some 3 := by decide +kernel
theorem hd_X7_mostMixed : yX7_mostMixed.cls ≠ "java/lang/invoke/MethodHandle" ∧ yX7_mostMixed.cls ≠ "java/lang/invoke/VarHandle" ∧ (parseMethodDescriptor yX7_mostMixed.desc).map (fun d => d.parameters.length) = some 0 := by decide +kernel
theorem hd_X7_size : yX7_size.cls ≠ "java/lang/invoke/MethodHandle" ∧ yX7_size.cls ≠ "java/lang/invoke/VarHandle" ∧ (parseMethodDescriptor yX7_size.desc).map (fun d => d.parameters.length) = some 0 := by decide +kernel
theorem hd_X7_spread : yX7_spread.cls ≠ "java/lang/invoke/MethodHandle" ∧ yX7_spread.cls ≠ "java/lang/invoke/VarHandle" ∧ (parseMethodDescriptor yX7_spread.desc).map (fun d => d.parameters.length) = some 2 := by decide +kernel
theorem hd_X7_takenAs : yX7_takenAs.cls ≠ "java/lang/invoke/MethodHandle" ∧ yX7_takenAs.cls ≠ "java/lang/invoke/VarHandle" ∧ (parseMethodDescriptor yX7_takenAs.desc).map (fun d => d.parameters.length) = some 2 := by decide +kernel
theorem hd_X7_takenByFirst : yX7_takenByFirst.cls ≠ "java/lang/invoke/MethodHandle" ∧ yX7_takenByFirst.cls ≠ "java/lang/invoke/VarHandle" ∧ (parseMethodDescriptor yX7_takenByFirst.desc).map (fun d => d.parameters.length) = some 1 := by decide +kernel
theorem hd_X7_takenBySecond : yX7_takenBySecond.cls ≠ "java/lang/invoke/MethodHandle" ∧ yX7_takenBySecond.cls ≠ "java/lang/invoke/VarHandle" ∧ (parseMethodDescriptor yX7_takenBySecond.desc).map (fun d => d.parameters.length) = some 1 := by decide +kernel
theorem hd_X8_addTo : yX8_addTo.cls ≠ "java/lang/invoke/MethodHandle" ∧ yX8_addTo.cls ≠ "java/lang/invoke/VarHandle" ∧ (parseMethodDescriptor yX8_addTo.desc).map (fun d => d.parameters.length) = some 3 := by decide +kernel
theorem hd_X8_begin : yX8_begin.cls ≠ "java/lang/invoke/MethodHandle" ∧ yX8_begin.cls ≠ "java/lang/invoke/VarHandle" ∧ (parseMethodDescriptor yX8_begin.desc).map (fun d => d.parameters.length) = some 0 := by decide +kernel
theorem hd_X8_clearThings : yX8_clearThings.cls ≠ "java/lang/invoke/MethodHandle" ∧ yX8_clearThings.cls ≠ "java/lang/invoke/VarHandle" ∧ (parseMethodDescriptor yX8_clearThings.desc).map (fun d => d.parameters.length) = some 1 := by decide +kernel
theorem hd_X8_compareThings : yX8_compareThings.cls ≠ "java/lang/invoke/MethodHandle" ∧ yX8_compareThings.cls ≠ "java/lang/invoke/VarHandle" ∧ (parseMethodDescriptor yX8_compareThings.desc).map (fun d => d.parameters.length) = some 2 := by decide +kernel
theorem hd_X8_couldEnd : yX8_couldEnd.cls ≠ "java/lang/invoke/MethodHandle" ∧ yX8_couldEnd.cls ≠ "java/lang/invoke/VarHandle" ∧ (parseMethodDescriptor yX8_couldEnd.desc).map (fun d => d.parameters.length) = some 0 := by decide +kernel
theorem hd_X8_failingOf : yX8_failingOf.cls ≠ "java/lang/invoke/MethodHandle" ∧ yX8_failingOf.cls ≠ "java/lang/invoke/VarHandle" ∧ (parseMethodDescriptor yX8_failingOf.desc).map (fun d => d.parameters.length) = some 1 := by decide +kernel
theorem hd_X8_init : yX8_init.cls ≠ "java/lang/invoke/MethodHandle" ∧ yX8_init.cls ≠ "java/lang/invoke/VarHandle" ∧ (parseMethodDescriptor yX8_init.desc).map (fun d => d.parameters.length) = some 3 := by decide +kernel
theorem hd_X8_isFull : yX8_isFull.cls ≠ "java/lang/invoke/MethodHandle" ∧ yX8_isFull.cls ≠ "java/lang/invoke/VarHandle" ∧ (parseMethodDescriptor yX8_isFull.desc).map (fun d => d.parameters.length) = some 0 := by decide +kernel
theorem hd_X8_isHad : yX8_isHad.cls ≠ "java/lang/invoke/MethodHandle" ∧ yX8_isHad.cls ≠ "java/lang/invoke/VarHandle" ∧ (parseMethodDescriptor yX8_isHad.desc).map (fun d => d.parameters.length) = some 1 := by decide +kernel
theorem hd_X8_isSo : yX8_isSo.cls ≠ "java/lang/invoke/MethodHandle" ∧ yX8_isSo.cls ≠ "java/lang/invoke/VarHandle" ∧ (parseMethodDescriptor yX8_isSo.desc).map (fun d => d.parameters.length) = some 3 := by decide +kernel
theorem hd_X8_judge : yX8_judge.cls ≠ "java/lang/invoke/MethodHandle" ∧ yX8_judge.cls ≠ "java/lang/invoke/VarHandle" ∧ (parseMethodDescriptor yX8_judge.desc).map (fun d => d.parameters.length) = some 1 := by decide +kernel
theorem hd_X8_listen : yX8_listen.cls ≠ "java/lang/invoke/MethodHandle" ∧ yX8_listen.cls ≠ "java/lang/invoke/VarHandle" ∧ (parseMethodDescriptor yX8_listen.desc).map (fun d => d.parameters.length) = some 1 := by decide +kernel
theorem hd_X8_measureMeans : yX8_measureMeans.cls ≠ "java/lang/invoke/MethodHandle" ∧ yX8_measureMeans.cls ≠ "java/lang/invoke/VarHandle" ∧ (parseMethodDescriptor yX8_measureMeans.desc).map (fun d => d.parameters.length) = some 3 := by decide +kernel
theorem hd_X8_measureWaste : yX8_measureWaste.cls ≠ "java/lang/invoke/MethodHandle" ∧ yX8_measureWaste.cls ≠ "java/lang/invoke/VarHandle" ∧ (parseMethodDescriptor yX8_measureWaste.desc).map (fun d => d.parameters.length) = some 1 := by decide +kernel
theorem hd_X8_partingSort : yX8_partingSort.cls ≠ "java/lang/invoke/MethodHandle" ∧ yX8_partingSort.cls ≠ "java/lang/invoke/VarHandle" ∧ (parseMethodDescriptor yX8_partingSort.desc).map (fun d => d.parameters.length) = some 0 := by decide +kernel
theorem hd_X8_size : yX8_size.cls ≠ "java/lang/invoke/MethodHandle" ∧ yX8_size.cls ≠ "java/lang/invoke/VarHandle" ∧ (parseMethodDescriptor yX8_size.desc).map (fun d => d.parameters.length) = some 0 := by decide +kernel
theorem hd_X8_standing : yX8_standing.cls ≠ "java/lang/invoke/MethodHandle" ∧ yX8_standing.cls ≠ "java/lang/invoke/VarHandle" ∧ (parseMethodDescriptor yX8_standing.desc).map (fun d => d.parameters.length) = some 1 := by decide +kernel
theorem hd_X8_takes : yX8_takes.cls ≠ "java/lang/invoke/MethodHandle" ∧ yX8_takes.cls ≠ "java/lang/invoke/VarHandle" ∧ (parseMethodDescriptor yX8_takes.desc).map (fun d => d.parameters.length) = some 1 := by decide +kernel
theorem hd_X8_thingOf : yX8_thingOf.cls ≠ "java/lang/invoke/MethodHandle" ∧ yX8_thingOf.cls ≠ "java/lang/invoke/VarHandle" ∧ (parseMethodDescriptor yX8_thingOf.desc).map (fun d => d.parameters.length) = some 1 := by decide +kernel
theorem hd_X8_wasteInLack : yX8_wasteInLack.cls ≠ "java/lang/invoke/MethodHandle" ∧ yX8_wasteInLack.cls ≠ "java/lang/invoke/VarHandle" ∧ (parseMethodDescriptor yX8_wasteInLack.desc).map (fun d => d.parameters.length) = some 1 := by decide +kernel
theorem hd_X9_append : yX9_append.cls ≠ "java/lang/invoke/MethodHandle" ∧ yX9_append.cls ≠ "java/lang/invoke/VarHandle" ∧ (parseMethodDescriptor yX9_append.desc).map (fun d => d.parameters.length) = some 1 := by decide +kernel
theorem hd_X9_at : yX9_at.cls ≠ "java/lang/invoke/MethodHandle" ∧ yX9_at.cls ≠ "java/lang/invoke/VarHandle" ∧ (parseMethodDescriptor yX9_at.desc).map (fun d => d.parameters.length) = some 1 := by decide +kernel
theorem hd_X9_cut : yX9_cut.cls ≠ "java/lang/invoke/MethodHandle" ∧ yX9_cut.cls ≠ "java/lang/invoke/VarHandle" ∧ (parseMethodDescriptor yX9_cut.desc).map (fun d => d.parameters.length) = some 1 := by decide +kernel
theorem hd_X9_init : yX9_init.cls ≠ "java/lang/invoke/MethodHandle" ∧ yX9_init.cls ≠ "java/lang/invoke/VarHandle" ∧ (parseMethodDescriptor yX9_init.desc).map (fun d => d.parameters.length) = some 0 := by decide +kernel
theorem hd_X9_size : yX9_size.cls ≠ "java/lang/invoke/MethodHandle" ∧ yX9_size.cls ≠ "java/lang/invoke/VarHandle" ∧ (parseMethodDescriptor yX9_size.desc).map (fun d => d.parameters.length) = some 0 := by decide +kernel
theorem hp___V : (parseMethodDescriptor "()V").map (fun d => d.parameters.length) = some 0 := by decide +kernel
theorem hp___Z : (parseMethodDescriptor "()Z").map (fun d => d.parameters.length) = some 0 := by decide +kernel
theorem hp__I_I : (parseMethodDescriptor "(I)I").map (fun d => d.parameters.length) = some 1 := by decide +kernel
theorem hp__I_Z : (parseMethodDescriptor "(I)Z").map (fun d => d.parameters.length) = some 1 := by decide +kernel
theorem hp__II_I : (parseMethodDescriptor "(II)I").map (fun d => d.parameters.length) = some 2 := by decide +kernel
theorem hp__ILBinsThatTell_Text__I : (parseMethodDescriptor "(ILBinsThatTell$Text;)I").map (fun d => d.parameters.length) = some 2 := by decide +kernel
theorem hp__LBinsThatTell_Text__I : (parseMethodDescriptor "(LBinsThatTell$Text;)I").map (fun d => d.parameters.length) = some 1 := by decide +kernel
theorem kb_10 : (Int8.ofInt 10).toInt32 = (10 : Int32) := by decide +kernel
theorem kb_100 : (Int8.ofInt 100).toInt32 = (100 : Int32) := by decide +kernel
theorem kb_101 : (Int8.ofInt 101).toInt32 = (101 : Int32) := by decide +kernel
theorem kb_104 : (Int8.ofInt 104).toInt32 = (104 : Int32) := by decide +kernel
theorem kb_107 : (Int8.ofInt 107).toInt32 = (107 : Int32) := by decide +kernel
theorem kb_108 : (Int8.ofInt 108).toInt32 = (108 : Int32) := by decide +kernel
theorem kb_11 : (Int8.ofInt 11).toInt32 = (11 : Int32) := by decide +kernel
theorem kb_113 : (Int8.ofInt 113).toInt32 = (113 : Int32) := by decide +kernel
theorem kb_114 : (Int8.ofInt 114).toInt32 = (114 : Int32) := by decide +kernel
theorem kb_116 : (Int8.ofInt 116).toInt32 = (116 : Int32) := by decide +kernel
theorem kb_119 : (Int8.ofInt 119).toInt32 = (119 : Int32) := by decide +kernel
theorem kb_12 : (Int8.ofInt 12).toInt32 = (12 : Int32) := by decide +kernel
theorem kb_122 : (Int8.ofInt 122).toInt32 = (122 : Int32) := by decide +kernel
theorem kb_124 : (Int8.ofInt 124).toInt32 = (124 : Int32) := by decide +kernel
theorem kb_126 : (Int8.ofInt 126).toInt32 = (126 : Int32) := by decide +kernel
theorem kb_13 : (Int8.ofInt 13).toInt32 = (13 : Int32) := by decide +kernel
theorem kb_16 : (Int8.ofInt 16).toInt32 = (16 : Int32) := by decide +kernel
theorem kb_24 : (Int8.ofInt 24).toInt32 = (24 : Int32) := by decide +kernel
theorem kb_26 : (Int8.ofInt 26).toInt32 = (26 : Int32) := by decide +kernel
theorem kb_31 : (Int8.ofInt 31).toInt32 = (31 : Int32) := by decide +kernel
theorem kb_32 : (Int8.ofInt 32).toInt32 = (32 : Int32) := by decide +kernel
theorem kb_33 : (Int8.ofInt 33).toInt32 = (33 : Int32) := by decide +kernel
theorem kb_38 : (Int8.ofInt 38).toInt32 = (38 : Int32) := by decide +kernel
theorem kb_40 : (Int8.ofInt 40).toInt32 = (40 : Int32) := by decide +kernel
theorem kb_41 : (Int8.ofInt 41).toInt32 = (41 : Int32) := by decide +kernel
theorem kb_42 : (Int8.ofInt 42).toInt32 = (42 : Int32) := by decide +kernel
theorem kb_43 : (Int8.ofInt 43).toInt32 = (43 : Int32) := by decide +kernel
theorem kb_45 : (Int8.ofInt 45).toInt32 = (45 : Int32) := by decide +kernel
theorem kb_47 : (Int8.ofInt 47).toInt32 = (47 : Int32) := by decide +kernel
theorem kb_48 : (Int8.ofInt 48).toInt32 = (48 : Int32) := by decide +kernel
theorem kb_56 : (Int8.ofInt 56).toInt32 = (56 : Int32) := by decide +kernel
theorem kb_57 : (Int8.ofInt 57).toInt32 = (57 : Int32) := by decide +kernel
theorem kb_59 : (Int8.ofInt 59).toInt32 = (59 : Int32) := by decide +kernel
theorem kb_6 : (Int8.ofInt 6).toInt32 = (6 : Int32) := by decide +kernel
theorem kb_60 : (Int8.ofInt 60).toInt32 = (60 : Int32) := by decide +kernel
theorem kb_61 : (Int8.ofInt 61).toInt32 = (61 : Int32) := by decide +kernel
theorem kb_62 : (Int8.ofInt 62).toInt32 = (62 : Int32) := by decide +kernel
theorem kb_63 : (Int8.ofInt 63).toInt32 = (63 : Int32) := by decide +kernel
theorem kb_64 : (Int8.ofInt 64).toInt32 = (64 : Int32) := by decide +kernel
theorem kb_7 : (Int8.ofInt 7).toInt32 = (7 : Int32) := by decide +kernel
theorem kb_72 : (Int8.ofInt 72).toInt32 = (72 : Int32) := by decide +kernel
theorem kb_8 : (Int8.ofInt 8).toInt32 = (8 : Int32) := by decide +kernel
theorem kb_9 : (Int8.ofInt 9).toInt32 = (9 : Int32) := by decide +kernel
theorem kb_96 : (Int8.ofInt 96).toInt32 = (96 : Int32) := by decide +kernel
theorem kb_97 : (Int8.ofInt 97).toInt32 = (97 : Int32) := by decide +kernel
theorem kb_98 : (Int8.ofInt 98).toInt32 = (98 : Int32) := by decide +kernel
theorem kb_99 : (Int8.ofInt 99).toInt32 = (99 : Int32) := by decide +kernel
theorem kb_m100 : (Int8.ofInt (-100)).toInt32 = (-100 : Int32) := by decide +kernel
theorem kb_m2 : (Int8.ofInt (-2)).toInt32 = (-2 : Int32) := by decide +kernel
theorem kb_m3 : (Int8.ofInt (-3)).toInt32 = (-3 : Int32) := by decide +kernel
theorem kb_m41 : (Int8.ofInt (-41)).toInt32 = (-41 : Int32) := by decide +kernel
theorem kb_m5 : (Int8.ofInt (-5)).toInt32 = (-5 : Int32) := by decide +kernel
theorem ki_0 : Int32.ofInt 0 = (0 : Int32) := by decide +kernel
theorem ki_1 : Int32.ofInt 1 = (1 : Int32) := by decide +kernel
theorem ki_16 : Int32.ofInt 16 = (16 : Int32) := by decide +kernel
theorem ki_2 : Int32.ofInt 2 = (2 : Int32) := by decide +kernel
theorem ki_3 : Int32.ofInt 3 = (3 : Int32) := by decide +kernel
theorem ki_4 : Int32.ofInt 4 = (4 : Int32) := by decide +kernel
theorem ki_5 : Int32.ofInt 5 = (5 : Int32) := by decide +kernel
theorem ki_8 : Int32.ofInt 8 = (8 : Int32) := by decide +kernel
theorem ki_m1 : Int32.ofInt (-1) = (-1 : Int32) := by decide +kernel
theorem ki_m8 : Int32.ofInt (-8) = (-8 : Int32) := by decide +kernel
theorem ks_1000 : (Int16.ofInt 1000).toInt32 = (1000 : Int32) := by decide +kernel
theorem ks_12345 : (Int16.ofInt 12345).toInt32 = (12345 : Int32) := by decide +kernel
theorem ks_13824 : (Int16.ofInt 13824).toInt32 = (13824 : Int32) := by decide +kernel
theorem ks_1900 : (Int16.ofInt 1900).toInt32 = (1900 : Int32) := by decide +kernel
theorem ks_2000 : (Int16.ofInt 2000).toInt32 = (2000 : Int32) := by decide +kernel
theorem ks_2033 : (Int16.ofInt 2033).toInt32 = (2033 : Int32) := by decide +kernel
theorem ks_2100 : (Int16.ofInt 2100).toInt32 = (2100 : Int32) := by decide +kernel
theorem ks_2126 : (Int16.ofInt 2126).toInt32 = (2126 : Int32) := by decide +kernel
theorem ks_240 : (Int16.ofInt 240).toInt32 = (240 : Int32) := by decide +kernel
theorem ks_255 : (Int16.ofInt 255).toInt32 = (255 : Int32) := by decide +kernel
theorem ks_256 : (Int16.ofInt 256).toInt32 = (256 : Int32) := by decide +kernel
theorem ks_288 : (Int16.ofInt 288).toInt32 = (288 : Int32) := by decide +kernel
theorem ks_336 : (Int16.ofInt 336).toInt32 = (336 : Int32) := by decide +kernel
theorem ks_4095 : (Int16.ofInt 4095).toInt32 = (4095 : Int32) := by decide +kernel
theorem ks_4608 : (Int16.ofInt 4608).toInt32 = (4608 : Int32) := by decide +kernel
theorem ks_999 : (Int16.ofInt 999).toInt32 = (999 : Int32) := by decide +kernel
theorem ks_9999 : (Int16.ofInt 9999).toInt32 = (9999 : Int32) := by decide +kernel
theorem pn_X1 : plainName RX1 = true := by decide +kernel
theorem pn_J6 : plainName RJ6 = true := by decide +kernel
theorem pn_J13 : plainName RJ13 = true := by decide +kernel
theorem pn_J7 : plainName RJ7 = true := by decide +kernel
theorem boIte {c : Prop} {_ : Decidable c} {x y : Int32} (h1 : x = 0 ∨ x = 1) (h2 : y = 0 ∨ y = 1) : (if c then x else y) = 0 ∨ (if c then x else y) = 1 := by
  by_cases hc : c
  · rw [if_pos hc]; exact h1
  · rw [if_neg hc]; exact h2
