theorem u44 : Cond.selects RX12 yX12_isSort yX12_isSort ∈ uw := uw_at 44 (by decide +kernel) rfl
theorem u45 : Cond.selects RX12 yX12_isCell yX12_isCell ∈ uw := uw_at 45 (by decide +kernel) rfl
theorem u46 : Cond.selects RX12 yX12_at yX12_at ∈ uw := uw_at 46 (by decide +kernel) rfl
theorem u85 : Cond.initialized RX11 ∈ uw := uw_at 85 (by decide +kernel) rfl
theorem u86 : Cond.initialized RX5 ∈ uw := uw_at 86 (by decide +kernel) rfl
theorem u88 : Cond.initialized RX4 ∈ uw := uw_at 88 (by decide +kernel) rfl
theorem u91 : Cond.initialized RX10 ∈ uw := uw_at 91 (by decide +kernel) rfl
theorem u92 : Cond.initialized RX0 ∈ uw := uw_at 92 (by decide +kernel) rfl
theorem u97 : Cond.initialized RX12 ∈ uw := uw_at 97 (by decide +kernel) rfl
theorem u126 : Cond.fieldLink RX5 9 RX5 "numbers" "[J" ∈ uw := uw_at 126 (by decide +kernel) rfl
theorem u127 : Cond.fieldLink RX5 15 RX5 "size" "I" ∈ uw := uw_at 127 (by decide +kernel) rfl
theorem u156 : Cond.fieldLink RX4 11 RX4 "now" "[I" ∈ uw := uw_at 156 (by decide +kernel) rfl
theorem u224 : Cond.fieldLink RX10 9 RX10 "leaves" "[I" ∈ uw := uw_at 224 (by decide +kernel) rfl
theorem u225 : Cond.fieldLink RX10 15 RX10 "rights" "[I" ∈ uw := uw_at 225 (by decide +kernel) rfl
theorem u226 : Cond.fieldLink RX10 18 RX10 "lasts" "[I" ∈ uw := uw_at 226 (by decide +kernel) rfl
theorem u233 : Cond.fieldLink RX10 51 RX10 "sorts" "I" ∈ uw := uw_at 233 (by decide +kernel) rfl
theorem u234 : Cond.fieldLink RX10 59 RX10 "streets" "I" ∈ uw := uw_at 234 (by decide +kernel) rfl
theorem u268 : Cond.fieldLink RX0 18 RX0 "town" "LBinsThatTell$Town;" ∈ uw := uw_at 268 (by decide +kernel) rfl
theorem u269 : Cond.fieldLink RX0 22 RX0 "numbers" "LBinsThatTell$Numbers;" ∈ uw := uw_at 269 (by decide +kernel) rfl
theorem u270 : Cond.fieldLink RX0 26 RX0 "row" "LBinsThatTell$Row;" ∈ uw := uw_at 270 (by decide +kernel) rfl
theorem u430 : Cond.fieldLink RX11 26 RX11 "numbers" "LBinsThatTell$Numbers;" ∈ uw := uw_at 430 (by decide +kernel) rfl
theorem u432 : Cond.fieldLink RX11 44 RX11 "town" "LBinsThatTell$Town;" ∈ uw := uw_at 432 (by decide +kernel) rfl
theorem u433 : Cond.fieldLink RX11 53 RX11 "answers" "LBinsThatTell$Answers;" ∈ uw := uw_at 433 (by decide +kernel) rfl
theorem u462 : Cond.code yX11_sort cX11_sort 4 (some .int) ∈ uw := uw_at 462 (by decide +kernel) rfl
theorem u463 : Cond.methodLink RX11 87 yX10_addSort ∈ uw := uw_at 463 (by decide +kernel) rfl
theorem u464 : Cond.instanceMethod yX10_addSort ∈ uw := uw_at 464 (by decide +kernel) rfl
theorem u465 : Cond.selects RX10 yX10_addSort yX10_addSort ∈ uw := uw_at 465 (by decide +kernel) rfl
theorem u466 : Cond.code yX10_addSort cX10_addSort 5 (some .int) ∈ uw := uw_at 466 (by decide +kernel) rfl
theorem u467 : Cond.methodLinkNest RX10 47 yX11_between RX11 ∈ zNw := zNw_at 467 (by decide +kernel) rfl
theorem u468 : Cond.static yX11_between ∈ uw := uw_at 468 (by decide +kernel) rfl
theorem u469 : Cond.code yX11_between cX11_between 3 (some .boolean) ∈ uw := uw_at 469 (by decide +kernel) rfl
theorem u478 : Cond.methodLink RX10 55 yX10_hasSort ∈ uw := uw_at 478 (by decide +kernel) rfl
theorem u479 : Cond.instanceMethod yX10_hasSort ∈ uw := uw_at 479 (by decide +kernel) rfl
theorem u480 : Cond.selects RX10 yX10_hasSort yX10_hasSort ∈ uw := uw_at 480 (by decide +kernel) rfl
theorem u481 : Cond.code yX10_hasSort cX10_hasSort 2 (some .boolean) ∈ uw := uw_at 481 (by decide +kernel) rfl
theorem u501 : Cond.methodLink RX11 107 yX11_between ∈ uw := uw_at 501 (by decide +kernel) rfl
theorem u505 : Cond.code yX11_put cX11_put 6 (some .int) ∈ uw := uw_at 505 (by decide +kernel) rfl
theorem u506 : Cond.methodLink RX11 103 yX10_hasNumber ∈ uw := uw_at 506 (by decide +kernel) rfl
theorem u507 : Cond.instanceMethod yX10_hasNumber ∈ uw := uw_at 507 (by decide +kernel) rfl
theorem u508 : Cond.selects RX10 yX10_hasNumber yX10_hasNumber ∈ uw := uw_at 508 (by decide +kernel) rfl
theorem u509 : Cond.code yX10_hasNumber cX10_hasNumber 4 (some .boolean) ∈ uw := uw_at 509 (by decide +kernel) rfl
theorem u510 : Cond.methodLinkNest RX10 72 yX11_isKind RX11 ∈ zNw := zNw_at 510 (by decide +kernel) rfl
theorem u511 : Cond.static yX11_isKind ∈ uw := uw_at 511 (by decide +kernel) rfl
theorem u512 : Cond.code yX11_isKind cX11_isKind 1 (some .boolean) ∈ uw := uw_at 512 (by decide +kernel) rfl
theorem u513 : Cond.methodLink RX10 75 yX10_hasCell ∈ uw := uw_at 513 (by decide +kernel) rfl
theorem u514 : Cond.instanceMethod yX10_hasCell ∈ uw := uw_at 514 (by decide +kernel) rfl
theorem u515 : Cond.selects RX10 yX10_hasCell yX10_hasCell ∈ uw := uw_at 515 (by decide +kernel) rfl
theorem u516 : Cond.code yX10_hasCell cX10_hasCell 2 (some .boolean) ∈ uw := uw_at 516 (by decide +kernel) rfl
theorem u517 : Cond.methodLink RX10 68 yX10_cellCount ∈ uw := uw_at 517 (by decide +kernel) rfl
theorem u518 : Cond.instanceMethod yX10_cellCount ∈ uw := uw_at 518 (by decide +kernel) rfl
theorem u519 : Cond.selects RX10 yX10_cellCount yX10_cellCount ∈ uw := uw_at 519 (by decide +kernel) rfl
theorem u520 : Cond.code yX10_cellCount cX10_cellCount 1 (some .int) ∈ uw := uw_at 520 (by decide +kernel) rfl
theorem u521 : Cond.methodLink RX11 110 yX4_of ∈ uw := uw_at 521 (by decide +kernel) rfl
theorem u522 : Cond.instanceMethod yX4_of ∈ uw := uw_at 522 (by decide +kernel) rfl
theorem u523 : Cond.selects RX4 yX4_of yX4_of ∈ uw := uw_at 523 (by decide +kernel) rfl
theorem u524 : Cond.code yX4_of cX4_of 5 (some .int) ∈ uw := uw_at 524 (by decide +kernel) rfl
theorem u525 : Cond.methodLink RX4 31 yX4_placeOf ∈ uw := uw_at 525 (by decide +kernel) rfl
theorem u526 : Cond.static yX4_placeOf ∈ uw := uw_at 526 (by decide +kernel) rfl
theorem u527 : Cond.code yX4_placeOf cX4_placeOf 4 (some .int) ∈ uw := uw_at 527 (by decide +kernel) rfl
theorem u528 : Cond.methodLink RX11 113 yX4_change ∈ uw := uw_at 528 (by decide +kernel) rfl
theorem u529 : Cond.instanceMethod yX4_change ∈ uw := uw_at 529 (by decide +kernel) rfl
theorem u530 : Cond.selects RX4 yX4_change yX4_change ∈ uw := uw_at 530 (by decide +kernel) rfl
theorem u531 : Cond.code yX4_change cX4_change 6 none ∈ uw := uw_at 531 (by decide +kernel) rfl
theorem u535 : Cond.code yX11_get cX11_get 4 (some .int) ∈ uw := uw_at 535 (by decide +kernel) rfl
theorem u637 : Cond.static yX11_hasBit ∈ uw := uw_at 637 (by decide +kernel) rfl
theorem u638 : Cond.code yX11_hasBit cX11_hasBit 2 (some .boolean) ∈ uw := uw_at 638 (by decide +kernel) rfl
theorem u837 : Cond.methodLink RX4 35 yX4_of ∈ uw := uw_at 837 (by decide +kernel) rfl
theorem u852 : Cond.code yX11_sum cX11_sum 5 (some .int) ∈ uw := uw_at 852 (by decide +kernel) rfl
theorem u853 : Cond.methodLink RX11 142 yX0_total ∈ uw := uw_at 853 (by decide +kernel) rfl
theorem u854 : Cond.instanceMethod yX0_total ∈ uw := uw_at 854 (by decide +kernel) rfl
theorem u855 : Cond.selects RX0 yX0_total yX0_total ∈ uw := uw_at 855 (by decide +kernel) rfl
theorem u856 : Cond.code yX0_total cX0_total 10 (some .int) ∈ uw := uw_at 856 (by decide +kernel) rfl
theorem u857 : Cond.methodLinkNest RX0 30 yX11_between RX11 ∈ zNw := zNw_at 857 (by decide +kernel) rfl
theorem u858 : Cond.methodLinkNest RX0 34 yX11_isKind RX11 ∈ zNw := zNw_at 858 (by decide +kernel) rfl
theorem u859 : Cond.methodLink RX0 38 yX10_hasSort ∈ uw := uw_at 859 (by decide +kernel) rfl
theorem u860 : Cond.methodLink RX0 43 yX10_cellCount ∈ uw := uw_at 860 (by decide +kernel) rfl
theorem u861 : Cond.methodLinkNest RX0 47 yX11_hasBit RX11 ∈ zNw := zNw_at 861 (by decide +kernel) rfl
theorem u862 : Cond.methodLink RX0 51 yX4_has ∈ uw := uw_at 862 (by decide +kernel) rfl
theorem u863 : Cond.instanceMethod yX4_has ∈ uw := uw_at 863 (by decide +kernel) rfl
theorem u864 : Cond.selects RX4 yX4_has yX4_has ∈ uw := uw_at 864 (by decide +kernel) rfl
theorem u865 : Cond.code yX4_has cX4_has 4 (some .boolean) ∈ uw := uw_at 865 (by decide +kernel) rfl
theorem u866 : Cond.methodLink RX0 56 yX4_of ∈ uw := uw_at 866 (by decide +kernel) rfl
theorem u867 : Cond.methodLink RX0 60 yX5_clear ∈ uw := uw_at 867 (by decide +kernel) rfl
theorem u868 : Cond.instanceMethod yX5_clear ∈ uw := uw_at 868 (by decide +kernel) rfl
theorem u869 : Cond.selects RX5 yX5_clear yX5_clear ∈ uw := uw_at 869 (by decide +kernel) rfl
theorem u870 : Cond.code yX5_clear cX5_clear 1 (some (.object "BinsThatTell$Row")) ∈ uw := uw_at 870 (by decide +kernel) rfl
theorem u871 : Cond.methodLink RX0 66 yX5_add ∈ uw := uw_at 871 (by decide +kernel) rfl
theorem u872 : Cond.instanceMethod yX5_add ∈ uw := uw_at 872 (by decide +kernel) rfl
theorem u873 : Cond.selects RX5 yX5_add yX5_add ∈ uw := uw_at 873 (by decide +kernel) rfl
theorem u874 : Cond.code yX5_add cX5_add 3 (some (.object "BinsThatTell$Row")) ∈ uw := uw_at 874 (by decide +kernel) rfl
theorem u1508 : Cond.methodLink RX12 25 yX12_in ∈ uw := uw_at 1508 (by decide +kernel) rfl
theorem u1509 : Cond.static yX12_in ∈ uw := uw_at 1509 (by decide +kernel) rfl
theorem u1510 : Cond.code yX12_in cX12_in 6 (some .boolean) ∈ uw := uw_at 1510 (by decide +kernel) rfl
theorem u1512 : Cond.constantLong RX12 34 5 ∈ uw := uw_at 1512 (by decide +kernel) rfl
theorem u1517 : Cond.methodLink RX12 52 yX12_isSort ∈ uw := uw_at 1517 (by decide +kernel) rfl
theorem u1519 : Cond.instanceMethod yX12_isSort ∈ uw := uw_at 1519 (by decide +kernel) rfl
theorem u1521 : Cond.code yX12_isSort cX12_isSort 2 (some .boolean) ∈ uw := uw_at 1521 (by decide +kernel) rfl
theorem u1538 : Cond.methodLink RX12 82 yX12_isKind ∈ uw := uw_at 1538 (by decide +kernel) rfl
theorem u1539 : Cond.static yX12_isKind ∈ uw := uw_at 1539 (by decide +kernel) rfl
theorem u1540 : Cond.code yX12_isKind cX12_isKind 1 (some .boolean) ∈ uw := uw_at 1540 (by decide +kernel) rfl
theorem u1541 : Cond.methodLink RX12 85 yX12_isCell ∈ uw := uw_at 1541 (by decide +kernel) rfl
theorem u1543 : Cond.instanceMethod yX12_isCell ∈ uw := uw_at 1543 (by decide +kernel) rfl
theorem u1544 : Cond.code yX12_isCell cX12_isCell 2 (some .boolean) ∈ uw := uw_at 1544 (by decide +kernel) rfl
theorem u1547 : Cond.methodLink RX12 92 yX12_at ∈ uw := uw_at 1547 (by decide +kernel) rfl
theorem u1549 : Cond.instanceMethod yX12_at ∈ uw := uw_at 1549 (by decide +kernel) rfl
theorem u1550 : Cond.code yX12_at cX12_at 4 (some .int) ∈ uw := uw_at 1550 (by decide +kernel) rfl
theorem u1551 : Cond.methodLink RX12 78 yX12_placeOf ∈ uw := uw_at 1551 (by decide +kernel) rfl
theorem u1552 : Cond.static yX12_placeOf ∈ uw := uw_at 1552 (by decide +kernel) rfl
theorem u1553 : Cond.code yX12_placeOf cX12_placeOf 3 (some .int) ∈ uw := uw_at 1553 (by decide +kernel) rfl
theorem u1561 : Cond.code yX12_get cX12_get 4 (some .int) ∈ uw := uw_at 1561 (by decide +kernel) rfl
theorem u1951 : Cond.fieldLink RX12 3 RX12 "thrown" "I" ∈ uw := uw_at 1951 (by decide +kernel) rfl
theorem u1954 : Cond.fieldLink RX12 22 RX12 "sorts" "I" ∈ uw := uw_at 1954 (by decide +kernel) rfl
theorem u1961 : Cond.fieldLink RX12 29 RX12 "streets" "I" ∈ uw := uw_at 1961 (by decide +kernel) rfl
theorem u1964 : Cond.fieldLink RX12 75 RX12 "number" "[I" ∈ uw := uw_at 1964 (by decide +kernel) rfl
theorem hd_X0_total : yX0_total.cls ≠ "java/lang/invoke/MethodHandle" ∧ yX0_total.cls ≠ "java/lang/invoke/VarHandle" ∧ (parseMethodDescriptor yX0_total.desc).map (fun d => d.parameters.length) = some 4 := by decide +kernel
theorem hd_X10_addSort : yX10_addSort.cls ≠ "java/lang/invoke/MethodHandle" ∧ yX10_addSort.cls ≠ "java/lang/invoke/VarHandle" ∧ (parseMethodDescriptor yX10_addSort.desc).map (fun d => d.parameters.length) = some 3 := by decide +kernel
theorem hd_X10_cellCount : yX10_cellCount.cls ≠ "java/lang/invoke/MethodHandle" ∧ yX10_cellCount.cls ≠ "java/lang/invoke/VarHandle" ∧ (parseMethodDescriptor yX10_cellCount.desc).map (fun d => d.parameters.length) = some 0 := by decide +kernel
theorem hd_X10_hasCell : yX10_hasCell.cls ≠ "java/lang/invoke/MethodHandle" ∧ yX10_hasCell.cls ≠ "java/lang/invoke/VarHandle" ∧ (parseMethodDescriptor yX10_hasCell.desc).map (fun d => d.parameters.length) = some 1 := by decide +kernel
theorem hd_X10_hasNumber : yX10_hasNumber.cls ≠ "java/lang/invoke/MethodHandle" ∧ yX10_hasNumber.cls ≠ "java/lang/invoke/VarHandle" ∧ (parseMethodDescriptor yX10_hasNumber.desc).map (fun d => d.parameters.length) = some 3 := by decide +kernel
theorem hd_X10_hasSort : yX10_hasSort.cls ≠ "java/lang/invoke/MethodHandle" ∧ yX10_hasSort.cls ≠ "java/lang/invoke/VarHandle" ∧ (parseMethodDescriptor yX10_hasSort.desc).map (fun d => d.parameters.length) = some 1 := by decide +kernel
theorem hd_X11_between : yX11_between.cls ≠ "java/lang/invoke/MethodHandle" ∧ yX11_between.cls ≠ "java/lang/invoke/VarHandle" ∧ (parseMethodDescriptor yX11_between.desc).map (fun d => d.parameters.length) = some 3 := by decide +kernel
theorem hd_X11_get : yX11_get.cls ≠ "java/lang/invoke/MethodHandle" ∧ yX11_get.cls ≠ "java/lang/invoke/VarHandle" ∧ (parseMethodDescriptor yX11_get.desc).map (fun d => d.parameters.length) = some 3 := by decide +kernel
theorem hd_X11_hasBit : yX11_hasBit.cls ≠ "java/lang/invoke/MethodHandle" ∧ yX11_hasBit.cls ≠ "java/lang/invoke/VarHandle" ∧ (parseMethodDescriptor yX11_hasBit.desc).map (fun d => d.parameters.length) = some 2 := by decide +kernel
theorem hd_X11_isKind : yX11_isKind.cls ≠ "java/lang/invoke/MethodHandle" ∧ yX11_isKind.cls ≠ "java/lang/invoke/VarHandle" ∧ (parseMethodDescriptor yX11_isKind.desc).map (fun d => d.parameters.length) = some 1 := by decide +kernel
theorem hd_X11_put : yX11_put.cls ≠ "java/lang/invoke/MethodHandle" ∧ yX11_put.cls ≠ "java/lang/invoke/VarHandle" ∧ (parseMethodDescriptor yX11_put.desc).map (fun d => d.parameters.length) = some 4 := by decide +kernel
theorem hd_X11_sort : yX11_sort.cls ≠ "java/lang/invoke/MethodHandle" ∧ yX11_sort.cls ≠ "java/lang/invoke/VarHandle" ∧ (parseMethodDescriptor yX11_sort.desc).map (fun d => d.parameters.length) = some 3 := by decide +kernel
theorem hd_X11_sum : yX11_sum.cls ≠ "java/lang/invoke/MethodHandle" ∧ yX11_sum.cls ≠ "java/lang/invoke/VarHandle" ∧ (parseMethodDescriptor yX11_sum.desc).map (fun d => d.parameters.length) = some 4 := by decide +kernel
theorem hd_X12_at : yX12_at.cls ≠ "java/lang/invoke/MethodHandle" ∧ yX12_at.cls ≠ "java/lang/invoke/VarHandle" ∧ (parseMethodDescriptor yX12_at.desc).map (fun d => d.parameters.length) = some 3 := by decide +kernel
theorem hd_X12_get : yX12_get.cls ≠ "java/lang/invoke/MethodHandle" ∧ yX12_get.cls ≠ "java/lang/invoke/VarHandle" ∧ (parseMethodDescriptor yX12_get.desc).map (fun d => d.parameters.length) = some 3 := by decide +kernel
theorem hd_X12_in : yX12_in.cls ≠ "java/lang/invoke/MethodHandle" ∧ yX12_in.cls ≠ "java/lang/invoke/VarHandle" ∧ (parseMethodDescriptor yX12_in.desc).map (fun d => d.parameters.length) = some 3 := by decide +kernel
theorem hd_X12_isCell : yX12_isCell.cls ≠ "java/lang/invoke/MethodHandle" ∧ yX12_isCell.cls ≠ "java/lang/invoke/VarHandle" ∧ (parseMethodDescriptor yX12_isCell.desc).map (fun d => d.parameters.length) = some 1 := by decide +kernel
theorem hd_X12_isKind : yX12_isKind.cls ≠ "java/lang/invoke/MethodHandle" ∧ yX12_isKind.cls ≠ "java/lang/invoke/VarHandle" ∧ (parseMethodDescriptor yX12_isKind.desc).map (fun d => d.parameters.length) = some 1 := by decide +kernel
theorem hd_X12_isSort : yX12_isSort.cls ≠ "java/lang/invoke/MethodHandle" ∧ yX12_isSort.cls ≠ "java/lang/invoke/VarHandle" ∧ (parseMethodDescriptor yX12_isSort.desc).map (fun d => d.parameters.length) = some 1 := by decide +kernel
theorem hd_X12_placeOf : yX12_placeOf.cls ≠ "java/lang/invoke/MethodHandle" ∧ yX12_placeOf.cls ≠ "java/lang/invoke/VarHandle" ∧ (parseMethodDescriptor yX12_placeOf.desc).map (fun d => d.parameters.length) = some 3 := by decide +kernel
theorem hd_X4_change : yX4_change.cls ≠ "java/lang/invoke/MethodHandle" ∧ yX4_change.cls ≠ "java/lang/invoke/VarHandle" ∧ (parseMethodDescriptor yX4_change.desc).map (fun d => d.parameters.length) = some 4 := by decide +kernel
theorem hd_X4_has : yX4_has.cls ≠ "java/lang/invoke/MethodHandle" ∧ yX4_has.cls ≠ "java/lang/invoke/VarHandle" ∧ (parseMethodDescriptor yX4_has.desc).map (fun d => d.parameters.length) = some 3 := by decide +kernel
theorem hd_X4_of : yX4_of.cls ≠ "java/lang/invoke/MethodHandle" ∧ yX4_of.cls ≠ "java/lang/invoke/VarHandle" ∧ (parseMethodDescriptor yX4_of.desc).map (fun d => d.parameters.length) = some 3 := by decide +kernel
theorem hd_X4_placeOf : yX4_placeOf.cls ≠ "java/lang/invoke/MethodHandle" ∧ yX4_placeOf.cls ≠ "java/lang/invoke/VarHandle" ∧ (parseMethodDescriptor yX4_placeOf.desc).map (fun d => d.parameters.length) = some 3 := by decide +kernel
theorem hd_X5_add : yX5_add.cls ≠ "java/lang/invoke/MethodHandle" ∧ yX5_add.cls ≠ "java/lang/invoke/VarHandle" ∧ (parseMethodDescriptor yX5_add.desc).map (fun d => d.parameters.length) = some 1 := by decide +kernel
theorem hd_X5_clear : yX5_clear.cls ≠ "java/lang/invoke/MethodHandle" ∧ yX5_clear.cls ≠ "java/lang/invoke/VarHandle" ∧ (parseMethodDescriptor yX5_clear.desc).map (fun d => d.parameters.length) = some 0 := by decide +kernel
theorem kb_100 : (Int8.ofInt 100).toInt32 = (100 : Int32) := by decide +kernel
theorem kb_12 : (Int8.ofInt 12).toInt32 = (12 : Int32) := by decide +kernel
theorem kb_6 : (Int8.ofInt 6).toInt32 = (6 : Int32) := by decide +kernel
theorem kb_8 : (Int8.ofInt 8).toInt32 = (8 : Int32) := by decide +kernel
theorem kb_96 : (Int8.ofInt 96).toInt32 = (96 : Int32) := by decide +kernel
theorem kb_m2 : (Int8.ofInt (-2)).toInt32 = (-2 : Int32) := by decide +kernel
theorem kb_m5 : (Int8.ofInt (-5)).toInt32 = (-5 : Int32) := by decide +kernel
theorem ki_0 : Int32.ofInt 0 = (0 : Int32) := by decide +kernel
theorem ki_1 : Int32.ofInt 1 = (1 : Int32) := by decide +kernel
theorem ki_5 : Int32.ofInt 5 = (5 : Int32) := by decide +kernel
theorem ki_m1 : Int32.ofInt (-1) = (-1 : Int32) := by decide +kernel
theorem ks_255 : (Int16.ofInt 255).toInt32 = (255 : Int32) := by decide +kernel
theorem ks_4095 : (Int16.ofInt 4095).toInt32 = (4095 : Int32) := by decide +kernel
theorem ks_999 : (Int16.ofInt 999).toInt32 = (999 : Int32) := by decide +kernel
theorem pn_J6 : plainName RJ6 = true := by decide +kernel
theorem pn_J13 : plainName RJ13 = true := by decide +kernel
theorem pn_J7 : plainName RJ7 = true := by decide +kernel
theorem boIte {c : Prop} {_ : Decidable c} {x y : Int32} (h1 : x = 0 ∨ x = 1) (h2 : y = 0 ∨ y = 1) : (if c then x else y) = 0 ∨ (if c then x else y) = 1 := by
  by_cases hc : c
  · rw [if_pos hc]; exact h1
  · rw [if_neg hc]; exact h2
