theorem mlX11_181 : tables_1[685]? = some (Cond.methodLink RX11 181 yX11_bit) := by decide +kernel
theorem mstat_X11_bit : Cond.static yX11_bit ∈ bigW := bw_t 372 (by decide +kernel) rfl
theorem mini_X11 : Cond.initialized RX11 ∈ bigW := bw_t 1 (by decide +kernel) rfl
theorem mcode_X11_bit : Cond.code yX11_bit cX11_bit 2 (some .int) ∈ bigW := bw_t 373 (by decide +kernel) rfl
theorem lkX11_181 : LkS RX11 181 yX11_bit cX11_bit 2 (some .int) 2 := ⟨⟨bw_t 685 mlX11_181 rfl, mstat_X11_bit, mini_X11, mcode_X11_bit⟩, ⟨by decide, by decide, by decide +kernel⟩⟩
theorem mlX11_232 : tables_1[686]? = some (Cond.methodLink RX11 232 yX11_placesOf) := by decide +kernel
theorem mstat_X11_placesOf : Cond.static yX11_placesOf ∈ bigW := bw_t 687 (by decide +kernel) rfl
theorem mcode_X11_placesOf : Cond.code yX11_placesOf cX11_placesOf 4 (some .int) ∈ bigW := bw_t 688 (by decide +kernel) rfl
theorem lkX11_232 : LkS RX11 232 yX11_placesOf cX11_placesOf 4 (some .int) 2 := ⟨⟨bw_t 686 mlX11_232 rfl, mstat_X11_placesOf, mini_X11, mcode_X11_placesOf⟩, ⟨by decide, by decide, by decide +kernel⟩⟩
theorem mlX11_264 : tables_1[730]? = some (Cond.methodLink RX11 264 yJ6_bitCount_0f7a4) := by decide +kernel
theorem mstat_J6_bitCount_0f7a4 : Cond.static yJ6_bitCount_0f7a4 ∈ bigW := bw_t 448 (by decide +kernel) rfl
theorem mini_J6 : Cond.initialized RJ6 ∈ bigW := bw_t 16 (by decide +kernel) rfl
theorem mcode_J6_bitCount_0f7a4 : Cond.code yJ6_bitCount_0f7a4 cJ6_bitCount_0f7a4 1 (some .int) ∈ bigW := bw_t 449 (by decide +kernel) rfl
theorem lkX11_264 : LkS RX11 264 yJ6_bitCount_0f7a4 cJ6_bitCount_0f7a4 1 (some .int) 1 := ⟨⟨bw_t 730 mlX11_264 rfl, mstat_J6_bitCount_0f7a4, mini_J6, mcode_J6_bitCount_0f7a4⟩, ⟨by decide, by decide, by decide +kernel⟩⟩
theorem mlX1_113 : tables_1[411]? = some (Cond.methodLink RX1 113 yX1_isWithin) := by decide +kernel
theorem mstat_X1_isWithin : Cond.static yX1_isWithin ∈ bigW := bw_t 412 (by decide +kernel) rfl
theorem mini_X1 : Cond.initialized RX1 ∈ bigW := bw_t 13 (by decide +kernel) rfl
theorem mcode_X1_isWithin : Cond.code yX1_isWithin cX1_isWithin 3 (some .boolean) ∈ bigW := bw_t 413 (by decide +kernel) rfl
theorem lkX1_113 : LkS RX1 113 yX1_isWithin cX1_isWithin 3 (some .boolean) 3 := ⟨⟨bw_t 411 mlX1_113 rfl, mstat_X1_isWithin, mini_X1, mcode_X1_isWithin⟩, ⟨by decide, by decide, by decide +kernel⟩⟩
theorem mlX1_135 : tables_1[458]? = some (Cond.methodLink RX1 135 yX1_isIn) := by decide +kernel
theorem mstat_X1_isIn : Cond.static yX1_isIn ∈ bigW := bw_t 459 (by decide +kernel) rfl
theorem mcode_X1_isIn : Cond.code yX1_isIn cX1_isIn 2 (some .boolean) ∈ bigW := bw_t 460 (by decide +kernel) rfl
theorem lkX1_135 : LkS RX1 135 yX1_isIn cX1_isIn 2 (some .boolean) 2 := ⟨⟨bw_t 458 mlX1_135 rfl, mstat_X1_isIn, mini_X1, mcode_X1_isIn⟩, ⟨by decide, by decide, by decide +kernel⟩⟩
theorem mlX1_141 : tables_1[461]? = some (Cond.methodLinkNest RX1 141 yX11_bit "CountedHeap") := by decide +kernel
theorem lkX1_141 : LkSN yX11_bit cX11_bit 2 (some .int) 2 := ⟨⟨mstat_X11_bit, mini_X11, mcode_X11_bit⟩, ⟨by decide, by decide, by decide +kernel⟩⟩
-- no code ('java/lang/System', 'arraycopy', '(Ljava/lang/Object;ILjava/lang/Object;II)V')
theorem mlX3_80 : tables_1[630]? = some (Cond.methodLink RX3 80 yJ6_bitCount_0f7a4) := by decide +kernel
theorem lkX3_80 : LkS RX3 80 yJ6_bitCount_0f7a4 cJ6_bitCount_0f7a4 1 (some .int) 1 := ⟨⟨bw_t 630 mlX3_80 rfl, mstat_J6_bitCount_0f7a4, mini_J6, mcode_J6_bitCount_0f7a4⟩, ⟨by decide, by decide, by decide +kernel⟩⟩
theorem mlX3_86 : tables_1[371]? = some (Cond.methodLinkNest RX3 86 yX11_bit "CountedHeap") := by decide +kernel
theorem lkX3_86 : LkSN yX11_bit cX11_bit 2 (some .int) 2 := ⟨⟨mstat_X11_bit, mini_X11, mcode_X11_bit⟩, ⟨by decide, by decide, by decide +kernel⟩⟩
-- no code ('java/lang/System', 'arraycopy', '(Ljava/lang/Object;ILjava/lang/Object;II)V')
theorem mlX5_29 : tables_1[603]? = some (Cond.methodLink RX5 29 yJ9_min_7cf53) := by decide +kernel
theorem mstat_J9_min_7cf53 : Cond.static yJ9_min_7cf53 ∈ bigW := bw_t 604 (by decide +kernel) rfl
theorem mini_J9 : Cond.initialized RJ9 ∈ bigW := bw_t 17 (by decide +kernel) rfl
theorem mcode_J9_min_7cf53 : Cond.code yJ9_min_7cf53 cJ9_min_7cf53 2 (some .int) ∈ bigW := bw_t 605 (by decide +kernel) rfl
theorem lkX5_29 : LkS RX5 29 yJ9_min_7cf53 cJ9_min_7cf53 2 (some .int) 2 := ⟨⟨bw_t 603 mlX5_29 rfl, mstat_J9_min_7cf53, mini_J9, mcode_J9_min_7cf53⟩, ⟨by decide, by decide, by decide +kernel⟩⟩
-- no code ('java/lang/System', 'arraycopy', '(Ljava/lang/Object;ILjava/lang/Object;II)V')
theorem mlX6_31 : tables_1[511]? = some (Cond.methodLinkNest RX6 31 yX11_bit "CountedHeap") := by decide +kernel
theorem lkX6_31 : LkSN yX11_bit cX11_bit 2 (some .int) 2 := ⟨⟨mstat_X11_bit, mini_X11, mcode_X11_bit⟩, ⟨by decide, by decide, by decide +kernel⟩⟩
theorem mlX7_19 : tables_1[777]? = some (Cond.methodLink RX7 19 yX7_digitsOf) := by decide +kernel
theorem mstat_X7_digitsOf : Cond.static yX7_digitsOf ∈ bigW := bw_t 778 (by decide +kernel) rfl
theorem mini_X7 : Cond.initialized RX7 ∈ bigW := bw_t 8 (by decide +kernel) rfl
theorem mcode_X7_digitsOf : Cond.code yX7_digitsOf cX7_digitsOf 1 (some .int) ∈ bigW := bw_t 779 (by decide +kernel) rfl
theorem lkX7_19 : LkS RX7 19 yX7_digitsOf cX7_digitsOf 1 (some .int) 1 := ⟨⟨bw_t 777 mlX7_19 rfl, mstat_X7_digitsOf, mini_X7, mcode_X7_digitsOf⟩, ⟨by decide, by decide, by decide +kernel⟩⟩
theorem mlX9_35 : tables_1[546]? = some (Cond.methodLink RX9 35 yJ7_fill_53178) := by decide +kernel
theorem mstat_J7_fill_53178 : Cond.static yJ7_fill_53178 ∈ bigW := bw_t 90 (by decide +kernel) rfl
theorem mini_J7 : Cond.initialized RJ7 ∈ bigW := bw_t 5 (by decide +kernel) rfl
theorem mcode_J7_fill_53178 : Cond.code yJ7_fill_53178 cJ7_fill_53178 4 none ∈ bigW := bw_t 91 (by decide +kernel) rfl
theorem lkX9_35 : LkS RX9 35 yJ7_fill_53178 cJ7_fill_53178 4 none 2 := ⟨⟨bw_t 546 mlX9_35 rfl, mstat_J7_fill_53178, mini_J7, mcode_J7_fill_53178⟩, ⟨by decide, by decide, by decide +kernel⟩⟩
-- no code ('java/lang/System', 'arraycopy', '(Ljava/lang/Object;ILjava/lang/Object;II)V')
theorem mlX9_145 : tables_1[590]? = some (Cond.methodLinkNest RX9 145 yX11_bit "CountedHeap") := by decide +kernel
theorem lkX9_145 : LkSN yX11_bit cX11_bit 2 (some .int) 2 := ⟨⟨mstat_X11_bit, mini_X11, mcode_X11_bit⟩, ⟨by decide, by decide, by decide +kernel⟩⟩
theorem mlX10_29 : tables_1[447]? = some (Cond.methodLink RX10 29 yJ6_bitCount_0f7a4) := by decide +kernel
theorem lkX10_29 : LkS RX10 29 yJ6_bitCount_0f7a4 cJ6_bitCount_0f7a4 1 (some .int) 1 := ⟨⟨bw_t 447 mlX10_29 rfl, mstat_J6_bitCount_0f7a4, mini_J6, mcode_J6_bitCount_0f7a4⟩, ⟨by decide, by decide, by decide +kernel⟩⟩
theorem mlX10_37 : tables_1[697]? = some (Cond.methodLink RX10 37 yJ7_fill_53178) := by decide +kernel
theorem lkX10_37 : LkS RX10 37 yJ7_fill_53178 cJ7_fill_53178 4 none 2 := ⟨⟨bw_t 697 mlX10_37 rfl, mstat_J7_fill_53178, mini_J7, mcode_J7_fill_53178⟩, ⟨by decide, by decide, by decide +kernel⟩⟩
theorem mlX10_43 : tables_1[703]? = some (Cond.methodLinkNest RX10 43 yX11_bit "CountedHeap") := by decide +kernel
theorem lkX10_43 : LkSN yX11_bit cX11_bit 2 (some .int) 2 := ⟨⟨mstat_X11_bit, mini_X11, mcode_X11_bit⟩, ⟨by decide, by decide, by decide +kernel⟩⟩
theorem mlX12_21 : tables_1[990]? = some (Cond.methodLink RX12 21 yX12_in) := by decide +kernel
theorem mstat_X12_in : Cond.static yX12_in ∈ bigW := bw_t 991 (by decide +kernel) rfl
theorem mini_X12 : Cond.initialized RX12 ∈ bigW := bw_t 14 (by decide +kernel) rfl
theorem mcode_X12_in : Cond.code yX12_in cX12_in 6 (some .boolean) ∈ bigW := bw_t 992 (by decide +kernel) rfl
theorem lkX12_21 : LkS RX12 21 yX12_in cX12_in 6 (some .boolean) 3 := ⟨⟨bw_t 990 mlX12_21 rfl, mstat_X12_in, mini_X12, mcode_X12_in⟩, ⟨by decide, by decide, by decide +kernel⟩⟩
theorem mlX12_167 : tables_1[1184]? = some (Cond.methodLink RX12 167 yX12_flag) := by decide +kernel
theorem mstat_X12_flag : Cond.static yX12_flag ∈ bigW := bw_t 1185 (by decide +kernel) rfl
theorem mcode_X12_flag : Cond.code yX12_flag cX12_flag 1 (some .int) ∈ bigW := bw_t 1186 (by decide +kernel) rfl
theorem lkX12_167 : LkS RX12 167 yX12_flag cX12_flag 1 (some .int) 1 := ⟨⟨bw_t 1184 mlX12_167 rfl, mstat_X12_flag, mini_X12, mcode_X12_flag⟩, ⟨by decide, by decide, by decide +kernel⟩⟩
theorem mlX12_171 : tables_1[1191]? = some (Cond.methodLink RX12 171 yX12_has) := by decide +kernel
theorem mstat_X12_has : Cond.static yX12_has ∈ bigW := bw_t 1192 (by decide +kernel) rfl
theorem mcode_X12_has : Cond.code yX12_has cX12_has 2 (some .boolean) ∈ bigW := bw_t 1193 (by decide +kernel) rfl
theorem lkX12_171 : LkS RX12 171 yX12_has cX12_has 2 (some .boolean) 2 := ⟨⟨bw_t 1191 mlX12_171 rfl, mstat_X12_has, mini_X12, mcode_X12_has⟩, ⟨by decide, by decide, by decide +kernel⟩⟩
theorem mlX12_236 : tables_1[1263]? = some (Cond.methodLink RX12 236 yX12_sizeOf) := by decide +kernel
theorem mstat_X12_sizeOf : Cond.static yX12_sizeOf ∈ bigW := bw_t 1264 (by decide +kernel) rfl
theorem mcode_X12_sizeOf : Cond.code yX12_sizeOf cX12_sizeOf 3 (some .int) ∈ bigW := bw_t 1265 (by decide +kernel) rfl
theorem lkX12_236 : LkS RX12 236 yX12_sizeOf cX12_sizeOf 3 (some .int) 1 := ⟨⟨bw_t 1263 mlX12_236 rfl, mstat_X12_sizeOf, mini_X12, mcode_X12_sizeOf⟩, ⟨by decide, by decide, by decide +kernel⟩⟩
theorem mlX11_87 : tables_1[355]? = some (Cond.methodLinkNest RX11 87 yX7_takes "CountedHeap") := by decide +kernel
theorem minst_X7_takes : Cond.instanceMethod yX7_takes ∈ bigW := bw_t 357 (by decide +kernel) rfl
theorem msel_X7_takes : Cond.selects RX7 yX7_takes yX7_takes ∈ bigW := bw_s 0 (by decide +kernel) rfl
theorem mcode_X7_takes : Cond.code yX7_takes cX7_takes 3 (some .boolean) ∈ bigW := bw_t 358 (by decide +kernel) rfl
theorem lkX11_87 : LkN RX7 yX7_takes cX7_takes 3 (some .boolean) 1 := ⟨⟨minst_X7_takes, msel_X7_takes, mini_X7, mcode_X7_takes⟩, ⟨by decide, by decide, by decide +kernel⟩⟩
theorem mlX11_95 : tables_1[367]? = some (Cond.methodLinkNest RX11 95 yX3_leastFree "CountedHeap") := by decide +kernel
theorem minst_X3_leastFree : Cond.instanceMethod yX3_leastFree ∈ bigW := bw_t 369 (by decide +kernel) rfl
theorem msel_X3_leastFree : Cond.selects RX3 yX3_leastFree yX3_leastFree ∈ bigW := bw_s 1 (by decide +kernel) rfl
theorem mini_X3 : Cond.initialized RX3 ∈ bigW := bw_t 2 (by decide +kernel) rfl
theorem mcode_X3_leastFree : Cond.code yX3_leastFree cX3_leastFree 2 (some .int) ∈ bigW := bw_t 370 (by decide +kernel) rfl
theorem lkX11_95 : LkN RX3 yX3_leastFree cX3_leastFree 2 (some .int) 0 := ⟨⟨minst_X3_leastFree, msel_X3_leastFree, mini_X3, mcode_X3_leastFree⟩, ⟨by decide, by decide, by decide +kernel⟩⟩
theorem mlX11_99 : tables_1[374]? = some (Cond.methodLinkNest RX11 99 yX0_becomes "CountedHeap") := by decide +kernel
theorem minst_X0_becomes : Cond.instanceMethod yX0_becomes ∈ bigW := bw_t 376 (by decide +kernel) rfl
theorem msel_X0_becomes : Cond.selects RX0 yX0_becomes yX0_becomes ∈ bigW := bw_s 2 (by decide +kernel) rfl
theorem mini_X0 : Cond.initialized RX0 ∈ bigW := bw_t 9 (by decide +kernel) rfl
theorem mcode_X0_becomes : Cond.code yX0_becomes cX0_becomes 6 none ∈ bigW := bw_t 377 (by decide +kernel) rfl
theorem lkX11_99 : LkN RX0 yX0_becomes cX0_becomes 6 none 5 := ⟨⟨minst_X0_becomes, msel_X0_becomes, mini_X0, mcode_X0_becomes⟩, ⟨by decide, by decide, by decide +kernel⟩⟩
theorem mlX11_103 : tables_1[378]? = some (Cond.methodLinkNest RX11 103 yX5_marks "CountedHeap") := by decide +kernel
theorem minst_X5_marks : Cond.instanceMethod yX5_marks ∈ bigW := bw_t 380 (by decide +kernel) rfl
theorem msel_X5_marks : Cond.selects RX5 yX5_marks yX5_marks ∈ bigW := bw_s 3 (by decide +kernel) rfl
theorem mini_X5 : Cond.initialized RX5 ∈ bigW := bw_t 6 (by decide +kernel) rfl
theorem mcode_X5_marks : Cond.code yX5_marks cX5_marks 2 none ∈ bigW := bw_t 381 (by decide +kernel) rfl
theorem lkX11_103 : LkN RX5 yX5_marks cX5_marks 2 none 1 := ⟨⟨minst_X5_marks, msel_X5_marks, mini_X5, mcode_X5_marks⟩, ⟨by decide, by decide, by decide +kernel⟩⟩
theorem mlX11_107 : tables_1[399]? = some (Cond.methodLinkNest RX11 107 yX1_does "CountedHeap") := by decide +kernel
theorem minst_X1_does : Cond.instanceMethod yX1_does ∈ bigW := bw_t 401 (by decide +kernel) rfl
theorem msel_X1_does : Cond.selects RX1 yX1_does yX1_does ∈ bigW := bw_s 7 (by decide +kernel) rfl
theorem mcode_X1_does : Cond.code yX1_does cX1_does 6 (some .int) ∈ bigW := bw_t 402 (by decide +kernel) rfl
theorem lkX11_107 : LkN RX1 yX1_does cX1_does 6 (some .int) 2 := ⟨⟨minst_X1_does, msel_X1_does, mini_X1, mcode_X1_does⟩, ⟨by decide, by decide, by decide +kernel⟩⟩
theorem mlX11_111 : tables_1[599]? = some (Cond.methodLinkNest RX11 111 yX5_keeps "CountedHeap") := by decide +kernel
theorem minst_X5_keeps : Cond.instanceMethod yX5_keeps ∈ bigW := bw_t 601 (by decide +kernel) rfl
theorem msel_X5_keeps : Cond.selects RX5 yX5_keeps yX5_keeps ∈ bigW := bw_s 49 (by decide +kernel) rfl
theorem mcode_X5_keeps : Cond.code yX5_keeps cX5_keeps 1 none ∈ bigW := bw_t 602 (by decide +kernel) rfl
theorem lkX11_111 : LkN RX5 yX5_keeps cX5_keeps 1 none 0 := ⟨⟨minst_X5_keeps, msel_X5_keeps, mini_X5, mcode_X5_keeps⟩, ⟨by decide, by decide, by decide +kernel⟩⟩
theorem mlX11_114 : tables_1[606]? = some (Cond.methodLinkNest RX11 114 yX8_tells "CountedHeap") := by decide +kernel
theorem minst_X8_tells : Cond.instanceMethod yX8_tells ∈ bigW := bw_t 608 (by decide +kernel) rfl
theorem msel_X8_tells : Cond.selects RX8 yX8_tells yX8_tells ∈ bigW := bw_s 50 (by decide +kernel) rfl
theorem mini_X8 : Cond.initialized RX8 ∈ bigW := bw_t 7 (by decide +kernel) rfl
theorem mcode_X8_tells : Cond.code yX8_tells cX8_tells 3 none ∈ bigW := bw_t 609 (by decide +kernel) rfl
theorem lkX11_114 : LkN RX8 yX8_tells cX8_tells 3 none 1 := ⟨⟨minst_X8_tells, msel_X8_tells, mini_X8, mcode_X8_tells⟩, ⟨by decide, by decide, by decide +kernel⟩⟩
theorem mlX11_118 : tables_1[622]? = some (Cond.methodLink RX11 118 yX11_tellsChange) := by decide +kernel
theorem minst_X11_tellsChange : Cond.instanceMethod yX11_tellsChange ∈ bigW := bw_t 624 (by decide +kernel) rfl
theorem msel_X11_tellsChange : Cond.selects RX11 yX11_tellsChange yX11_tellsChange ∈ bigW := bw_s 53 (by decide +kernel) rfl
theorem mcode_X11_tellsChange : Cond.code yX11_tellsChange cX11_tellsChange 2 (some .int) ∈ bigW := bw_t 625 (by decide +kernel) rfl
theorem lkX11_118 : LkV RX11 118 RX11 yX11_tellsChange cX11_tellsChange 2 (some .int) 1 := ⟨⟨bw_t 622 mlX11_118 rfl, minst_X11_tellsChange, msel_X11_tellsChange, mini_X11, mcode_X11_tellsChange⟩, rfl, ⟨by decide, by decide, by decide +kernel⟩⟩
theorem mlX11_122 : tables_1[644]? = some (Cond.methodLinkNest RX11 122 yX3_weakAt "CountedHeap") := by decide +kernel
theorem minst_X3_weakAt : Cond.instanceMethod yX3_weakAt ∈ bigW := bw_t 646 (by decide +kernel) rfl
theorem msel_X3_weakAt : Cond.selects RX3 yX3_weakAt yX3_weakAt ∈ bigW := bw_s 56 (by decide +kernel) rfl
theorem mcode_X3_weakAt : Cond.code yX3_weakAt cX3_weakAt 2 (some .int) ∈ bigW := bw_t 647 (by decide +kernel) rfl
theorem lkX11_122 : LkN RX3 yX3_weakAt cX3_weakAt 2 (some .int) 1 := ⟨⟨minst_X3_weakAt, msel_X3_weakAt, mini_X3, mcode_X3_weakAt⟩, ⟨by decide, by decide, by decide +kernel⟩⟩
theorem mlX11_129 : tables_1[656]? = some (Cond.methodLinkNest RX11 129 yX4_freed "CountedHeap") := by decide +kernel
theorem minst_X4_freed : Cond.instanceMethod yX4_freed ∈ bigW := bw_t 658 (by decide +kernel) rfl
theorem msel_X4_freed : Cond.selects RX4 yX4_freed yX4_freed ∈ bigW := bw_s 57 (by decide +kernel) rfl
theorem mini_X4 : Cond.initialized RX4 ∈ bigW := bw_t 4 (by decide +kernel) rfl
theorem mcode_X4_freed : Cond.code yX4_freed cX4_freed 1 (some .int) ∈ bigW := bw_t 659 (by decide +kernel) rfl
theorem lkX11_129 : LkN RX4 yX4_freed cX4_freed 1 (some .int) 0 := ⟨⟨minst_X4_freed, msel_X4_freed, mini_X4, mcode_X4_freed⟩, ⟨by decide, by decide, by decide +kernel⟩⟩
theorem mlX11_140 : tables_1[631]? = some (Cond.methodLinkNest RX11 140 yX8_tells_ "CountedHeap") := by decide +kernel
theorem minst_X8_tells_ : Cond.instanceMethod yX8_tells_ ∈ bigW := bw_t 633 (by decide +kernel) rfl
theorem msel_X8_tells_ : Cond.selects RX8 yX8_tells_ yX8_tells_ ∈ bigW := bw_s 55 (by decide +kernel) rfl
theorem mcode_X8_tells_ : Cond.code yX8_tells_ cX8_tells_ 5 none ∈ bigW := bw_t 634 (by decide +kernel) rfl
theorem lkX11_140 : LkN RX8 yX8_tells_ cX8_tells_ 5 none 2 := ⟨⟨minst_X8_tells_, msel_X8_tells_, mini_X8, mcode_X8_tells_⟩, ⟨by decide, by decide, by decide +kernel⟩⟩
theorem mlX11_146 : tables_1[626]? = some (Cond.methodLinkNest RX11 146 yX3_objects "CountedHeap") := by decide +kernel
theorem minst_X3_objects : Cond.instanceMethod yX3_objects ∈ bigW := bw_t 628 (by decide +kernel) rfl
theorem msel_X3_objects : Cond.selects RX3 yX3_objects yX3_objects ∈ bigW := bw_s 54 (by decide +kernel) rfl
theorem mcode_X3_objects : Cond.code yX3_objects cX3_objects 1 (some .int) ∈ bigW := bw_t 629 (by decide +kernel) rfl
theorem lkX11_146 : LkN RX3 yX3_objects cX3_objects 1 (some .int) 0 := ⟨⟨minst_X3_objects, msel_X3_objects, mini_X3, mcode_X3_objects⟩, ⟨by decide, by decide, by decide +kernel⟩⟩
theorem mlX11_156 : tables_1[683]? = some (Cond.methodLinkNest RX11 156 yX3_has "CountedHeap") := by decide +kernel
theorem minst_X3_has : Cond.instanceMethod yX3_has ∈ bigW := bw_t 425 (by decide +kernel) rfl
theorem msel_X3_has : Cond.selects RX3 yX3_has yX3_has ∈ bigW := bw_s 12 (by decide +kernel) rfl
theorem mcode_X3_has : Cond.code yX3_has cX3_has 2 (some .boolean) ∈ bigW := bw_t 426 (by decide +kernel) rfl
theorem lkX11_156 : LkN RX3 yX3_has cX3_has 2 (some .boolean) 1 := ⟨⟨minst_X3_has, msel_X3_has, mini_X3, mcode_X3_has⟩, ⟨by decide, by decide, by decide +kernel⟩⟩
theorem mlX11_185 : tables_1[924]? = some (Cond.methodLinkNest RX11 185 yX6_state "CountedHeap") := by decide +kernel
theorem minst_X6_state : Cond.instanceMethod yX6_state ∈ bigW := bw_t 926 (by decide +kernel) rfl
theorem msel_X6_state : Cond.selects RX6 yX6_state yX6_state ∈ bigW := bw_s 80 (by decide +kernel) rfl
theorem mini_X6 : Cond.initialized RX6 ∈ bigW := bw_t 3 (by decide +kernel) rfl
theorem mcode_X6_state : Cond.code yX6_state cX6_state 2 (some .int) ∈ bigW := bw_t 927 (by decide +kernel) rfl
theorem lkX11_185 : LkN RX6 yX6_state cX6_state 2 (some .int) 1 := ⟨⟨minst_X6_state, msel_X6_state, mini_X6, mcode_X6_state⟩, ⟨by decide, by decide, by decide +kernel⟩⟩
theorem mlX11_188 : tables_1[668]? = some (Cond.methodLinkNest RX11 188 yX10_reached "CountedHeap") := by decide +kernel
theorem minst_X10_reached : Cond.instanceMethod yX10_reached ∈ bigW := bw_t 437 (by decide +kernel) rfl
theorem msel_X10_reached : Cond.selects RX10 yX10_reached yX10_reached ∈ bigW := bw_s 15 (by decide +kernel) rfl
theorem mini_X10 : Cond.initialized RX10 ∈ bigW := bw_t 10 (by decide +kernel) rfl
theorem mcode_X10_reached : Cond.code yX10_reached cX10_reached 2 (some .int) ∈ bigW := bw_t 438 (by decide +kernel) rfl
theorem lkX11_188 : LkN RX10 yX10_reached cX10_reached 2 (some .int) 1 := ⟨⟨minst_X10_reached, msel_X10_reached, mini_X10, mcode_X10_reached⟩, ⟨by decide, by decide, by decide +kernel⟩⟩
theorem mlX11_194 : tables_1[735]? = some (Cond.methodLinkNest RX11 194 yX3_hasField "CountedHeap") := by decide +kernel
theorem minst_X3_hasField : Cond.instanceMethod yX3_hasField ∈ bigW := bw_t 421 (by decide +kernel) rfl
theorem msel_X3_hasField : Cond.selects RX3 yX3_hasField yX3_hasField ∈ bigW := bw_s 11 (by decide +kernel) rfl
theorem mcode_X3_hasField : Cond.code yX3_hasField cX3_hasField 3 (some .boolean) ∈ bigW := bw_t 422 (by decide +kernel) rfl
theorem lkX11_194 : LkN RX3 yX3_hasField cX3_hasField 3 (some .boolean) 2 := ⟨⟨minst_X3_hasField, msel_X3_hasField, mini_X3, mcode_X3_hasField⟩, ⟨by decide, by decide, by decide +kernel⟩⟩
theorem mlX11_200 : tables_1[736]? = some (Cond.methodLinkNest RX11 200 yX3_fieldAt "CountedHeap") := by decide +kernel
theorem minst_X3_fieldAt : Cond.instanceMethod yX3_fieldAt ∈ bigW := bw_t 433 (by decide +kernel) rfl
theorem msel_X3_fieldAt : Cond.selects RX3 yX3_fieldAt yX3_fieldAt ∈ bigW := bw_s 14 (by decide +kernel) rfl
theorem mcode_X3_fieldAt : Cond.code yX3_fieldAt cX3_fieldAt 3 (some .int) ∈ bigW := bw_t 434 (by decide +kernel) rfl
theorem lkX11_200 : LkN RX3 yX3_fieldAt cX3_fieldAt 3 (some .int) 2 := ⟨⟨minst_X3_fieldAt, msel_X3_fieldAt, mini_X3, mcode_X3_fieldAt⟩, ⟨by decide, by decide, by decide +kernel⟩⟩
theorem mlX11_205 : tables_1[945]? = some (Cond.methodLinkNest RX11 205 yX3_rootAt "CountedHeap") := by decide +kernel
theorem minst_X3_rootAt : Cond.instanceMethod yX3_rootAt ∈ bigW := bw_t 947 (by decide +kernel) rfl
theorem msel_X3_rootAt : Cond.selects RX3 yX3_rootAt yX3_rootAt ∈ bigW := bw_s 81 (by decide +kernel) rfl
theorem mcode_X3_rootAt : Cond.code yX3_rootAt cX3_rootAt 2 (some .int) ∈ bigW := bw_t 948 (by decide +kernel) rfl
theorem lkX11_205 : LkN RX3 yX3_rootAt cX3_rootAt 2 (some .int) 1 := ⟨⟨minst_X3_rootAt, msel_X3_rootAt, mini_X3, mcode_X3_rootAt⟩, ⟨by decide, by decide, by decide +kernel⟩⟩
theorem mlX11_214 : tables_1[669]? = some (Cond.methodLinkNest RX11 214 yX3_weightOf "CountedHeap") := by decide +kernel
theorem minst_X3_weightOf : Cond.instanceMethod yX3_weightOf ∈ bigW := bw_t 671 (by decide +kernel) rfl
theorem msel_X3_weightOf : Cond.selects RX3 yX3_weightOf yX3_weightOf ∈ bigW := bw_s 58 (by decide +kernel) rfl
theorem mcode_X3_weightOf : Cond.code yX3_weightOf cX3_weightOf 4 (some .int) ∈ bigW := bw_t 672 (by decide +kernel) rfl
theorem lkX11_214 : LkN RX3 yX3_weightOf cX3_weightOf 4 (some .int) 1 := ⟨⟨minst_X3_weightOf, msel_X3_weightOf, mini_X3, mcode_X3_weightOf⟩, ⟨by decide, by decide, by decide +kernel⟩⟩
theorem mlX11_217 : tables_1[677]? = some (Cond.methodLinkNest RX11 217 yX8_clears "CountedHeap") := by decide +kernel
theorem minst_X8_clears : Cond.instanceMethod yX8_clears ∈ bigW := bw_t 612 (by decide +kernel) rfl
theorem msel_X8_clears : Cond.selects RX8 yX8_clears yX8_clears ∈ bigW := bw_s 51 (by decide +kernel) rfl
theorem mcode_X8_clears : Cond.code yX8_clears cX8_clears 1 none ∈ bigW := bw_t 613 (by decide +kernel) rfl
theorem lkX11_217 : LkN RX8 yX8_clears cX8_clears 1 none 0 := ⟨⟨minst_X8_clears, msel_X8_clears, mini_X8, mcode_X8_clears⟩, ⟨by decide, by decide, by decide +kernel⟩⟩
theorem mlX11_223 : tables_1[678]? = some (Cond.methodLinkNest RX11 223 yX8_adds "CountedHeap") := by decide +kernel
theorem minst_X8_adds : Cond.instanceMethod yX8_adds ∈ bigW := bw_t 616 (by decide +kernel) rfl
theorem msel_X8_adds : Cond.selects RX8 yX8_adds yX8_adds ∈ bigW := bw_s 52 (by decide +kernel) rfl
theorem mcode_X8_adds : Cond.code yX8_adds cX8_adds 3 none ∈ bigW := bw_t 617 (by decide +kernel) rfl
theorem lkX11_223 : LkN RX8 yX8_adds cX8_adds 3 none 1 := ⟨⟨minst_X8_adds, msel_X8_adds, mini_X8, mcode_X8_adds⟩, ⟨by decide, by decide, by decide +kernel⟩⟩
theorem mlX11_226 : tables_1[684]? = some (Cond.methodLinkNest RX11 226 yX3_fieldBits "CountedHeap") := by decide +kernel
theorem minst_X3_fieldBits : Cond.instanceMethod yX3_fieldBits ∈ bigW := bw_t 455 (by decide +kernel) rfl
theorem msel_X3_fieldBits : Cond.selects RX3 yX3_fieldBits yX3_fieldBits ∈ bigW := bw_s 18 (by decide +kernel) rfl
theorem mcode_X3_fieldBits : Cond.code yX3_fieldBits cX3_fieldBits 5 (some .int) ∈ bigW := bw_t 456 (by decide +kernel) rfl
theorem lkX11_226 : LkN RX3 yX3_fieldBits cX3_fieldBits 5 (some .int) 1 := ⟨⟨minst_X3_fieldBits, msel_X3_fieldBits, mini_X3, mcode_X3_fieldBits⟩, ⟨by decide, by decide, by decide +kernel⟩⟩
theorem mlX11_239 : tables_1[693]? = some (Cond.methodLinkNest RX11 239 yX10_measures "CountedHeap") := by decide +kernel
theorem minst_X10_measures : Cond.instanceMethod yX10_measures ∈ bigW := bw_t 695 (by decide +kernel) rfl
theorem msel_X10_measures : Cond.selects RX10 yX10_measures yX10_measures ∈ bigW := bw_s 59 (by decide +kernel) rfl
theorem mcode_X10_measures : Cond.code yX10_measures cX10_measures 7 none ∈ bigW := bw_t 696 (by decide +kernel) rfl
theorem lkX11_239 : LkN RX10 yX10_measures cX10_measures 7 none 2 := ⟨⟨minst_X10_measures, msel_X10_measures, mini_X10, mcode_X10_measures⟩, ⟨by decide, by decide, by decide +kernel⟩⟩
theorem mlX11_243 : tables_1[698]? = some (Cond.methodLinkNest RX11 243 yX3_rootBits "CountedHeap") := by decide +kernel
theorem minst_X3_rootBits : Cond.instanceMethod yX3_rootBits ∈ bigW := bw_t 441 (by decide +kernel) rfl
theorem msel_X3_rootBits : Cond.selects RX3 yX3_rootBits yX3_rootBits ∈ bigW := bw_s 16 (by decide +kernel) rfl
theorem mcode_X3_rootBits : Cond.code yX3_rootBits cX3_rootBits 4 (some .int) ∈ bigW := bw_t 442 (by decide +kernel) rfl
theorem lkX11_243 : LkN RX3 yX3_rootBits cX3_rootBits 4 (some .int) 1 := ⟨⟨minst_X3_rootBits, msel_X3_rootBits, mini_X3, mcode_X3_rootBits⟩, ⟨by decide, by decide, by decide +kernel⟩⟩
theorem mlX11_246 : tables_1[699]? = some (Cond.methodLinkNest RX11 246 yX10_nearest "CountedHeap") := by decide +kernel
theorem minst_X10_nearest : Cond.instanceMethod yX10_nearest ∈ bigW := bw_t 701 (by decide +kernel) rfl
theorem msel_X10_nearest : Cond.selects RX10 yX10_nearest yX10_nearest ∈ bigW := bw_s 60 (by decide +kernel) rfl
theorem mcode_X10_nearest : Cond.code yX10_nearest cX10_nearest 4 (some .int) ∈ bigW := bw_t 702 (by decide +kernel) rfl
theorem lkX11_246 : LkN RX10 yX10_nearest cX10_nearest 4 (some .int) 1 := ⟨⟨minst_X10_nearest, msel_X10_nearest, mini_X10, mcode_X10_nearest⟩, ⟨by decide, by decide, by decide +kernel⟩⟩
theorem mlX11_253 : tables_1[708]? = some (Cond.methodLinkNest RX11 253 yX10_spreads "CountedHeap") := by decide +kernel
theorem minst_X10_spreads : Cond.instanceMethod yX10_spreads ∈ bigW := bw_t 445 (by decide +kernel) rfl
theorem msel_X10_spreads : Cond.selects RX10 yX10_spreads yX10_spreads ∈ bigW := bw_s 17 (by decide +kernel) rfl
theorem mcode_X10_spreads : Cond.code yX10_spreads cX10_spreads 9 (some .int) ∈ bigW := bw_t 446 (by decide +kernel) rfl
theorem lkX11_253 : LkN RX10 yX10_spreads cX10_spreads 9 (some .int) 3 := ⟨⟨minst_X10_spreads, msel_X10_spreads, mini_X10, mcode_X10_spreads⟩, ⟨by decide, by decide, by decide +kernel⟩⟩
theorem mlX11_257 : tables_1[713]? = some (Cond.methodLink RX11 257 yX11_ringOf) := by decide +kernel
theorem minst_X11_ringOf : Cond.instanceMethod yX11_ringOf ∈ bigW := bw_t 715 (by decide +kernel) rfl
theorem msel_X11_ringOf : Cond.selects RX11 yX11_ringOf yX11_ringOf ∈ bigW := bw_s 61 (by decide +kernel) rfl
theorem mcode_X11_ringOf : Cond.code yX11_ringOf cX11_ringOf 4 (some .int) ∈ bigW := bw_t 716 (by decide +kernel) rfl
theorem lkX11_257 : LkV RX11 257 RX11 yX11_ringOf cX11_ringOf 4 (some .int) 1 := ⟨⟨bw_t 713 mlX11_257 rfl, minst_X11_ringOf, msel_X11_ringOf, mini_X11, mcode_X11_ringOf⟩, rfl, ⟨by decide, by decide, by decide +kernel⟩⟩
theorem mlX11_260 : tables_1[721]? = some (Cond.methodLinkNest RX11 260 yX10_hanging "CountedHeap") := by decide +kernel
theorem minst_X10_hanging : Cond.instanceMethod yX10_hanging ∈ bigW := bw_t 723 (by decide +kernel) rfl
theorem msel_X10_hanging : Cond.selects RX10 yX10_hanging yX10_hanging ∈ bigW := bw_s 62 (by decide +kernel) rfl
theorem mcode_X10_hanging : Cond.code yX10_hanging cX10_hanging 4 (some .int) ∈ bigW := bw_t 724 (by decide +kernel) rfl
theorem lkX11_260 : LkN RX10 yX10_hanging cX10_hanging 4 (some .int) 2 := ⟨⟨minst_X10_hanging, msel_X10_hanging, mini_X10, mcode_X10_hanging⟩, ⟨by decide, by decide, by decide +kernel⟩⟩
theorem mlX11_269 : tables_1[737]? = some (Cond.methodLinkNest RX11 269 yX3_copies "CountedHeap") := by decide +kernel
theorem minst_X3_copies : Cond.instanceMethod yX3_copies ∈ bigW := bw_t 384 (by decide +kernel) rfl
theorem msel_X3_copies : Cond.selects RX3 yX3_copies yX3_copies ∈ bigW := bw_s 4 (by decide +kernel) rfl
theorem mcode_X3_copies : Cond.code yX3_copies cX3_copies 2 none ∈ bigW := bw_t 385 (by decide +kernel) rfl
theorem lkX11_269 : LkN RX3 yX3_copies cX3_copies 2 none 1 := ⟨⟨minst_X3_copies, msel_X3_copies, mini_X3, mcode_X3_copies⟩, ⟨by decide, by decide, by decide +kernel⟩⟩
theorem mlX11_272 : tables_1[738]? = some (Cond.methodLinkNest RX11 272 yX2_laysField "CountedHeap") := by decide +kernel
theorem minst_X2_laysField : Cond.instanceMethod yX2_laysField ∈ bigW := bw_t 540 (by decide +kernel) rfl
theorem msel_X2_laysField : Cond.selects RX2 yX2_laysField yX2_laysField ∈ bigW := bw_s 37 (by decide +kernel) rfl
theorem mini_X2 : Cond.initialized RX2 ∈ bigW := bw_t 11 (by decide +kernel) rfl
theorem mcode_X2_laysField : Cond.code yX2_laysField cX2_laysField 6 none ∈ bigW := bw_t 541 (by decide +kernel) rfl
theorem lkX11_272 : LkN RX2 yX2_laysField cX2_laysField 6 none 4 := ⟨⟨minst_X2_laysField, msel_X2_laysField, mini_X2, mcode_X2_laysField⟩, ⟨by decide, by decide, by decide +kernel⟩⟩
theorem mlX11_276 : tables_1[743]? = some (Cond.methodLinkNest RX11 276 yX9_tries "CountedHeap") := by decide +kernel
theorem minst_X9_tries : Cond.instanceMethod yX9_tries ∈ bigW := bw_t 544 (by decide +kernel) rfl
theorem msel_X9_tries : Cond.selects RX9 yX9_tries yX9_tries ∈ bigW := bw_s 38 (by decide +kernel) rfl
theorem mini_X9 : Cond.initialized RX9 ∈ bigW := bw_t 12 (by decide +kernel) rfl
theorem mcode_X9_tries : Cond.code yX9_tries cX9_tries 3 none ∈ bigW := bw_t 545 (by decide +kernel) rfl
theorem lkX11_276 : LkN RX9 yX9_tries cX9_tries 3 none 1 := ⟨⟨minst_X9_tries, msel_X9_tries, mini_X9, mcode_X9_tries⟩, ⟨by decide, by decide, by decide +kernel⟩⟩
theorem mlX11_279 : tables_1[744]? = some (Cond.methodLinkNest RX11 279 yX8_tells__ "CountedHeap") := by decide +kernel
theorem minst_X8_tells__ : Cond.instanceMethod yX8_tells__ ∈ bigW := bw_t 746 (by decide +kernel) rfl
theorem msel_X8_tells__ : Cond.selects RX8 yX8_tells__ yX8_tells__ ∈ bigW := bw_s 63 (by decide +kernel) rfl
theorem mcode_X8_tells__ : Cond.code yX8_tells__ cX8_tells__ 7 none ∈ bigW := bw_t 747 (by decide +kernel) rfl
theorem lkX11_279 : LkN RX8 yX8_tells__ cX8_tells__ 7 none 3 := ⟨⟨minst_X8_tells__, msel_X8_tells__, mini_X8, mcode_X8_tells__⟩, ⟨by decide, by decide, by decide +kernel⟩⟩
theorem mlX11_282 : tables_1[757]? = some (Cond.methodLink RX11 282 yX11_rankKey) := by decide +kernel
theorem minst_X11_rankKey : Cond.instanceMethod yX11_rankKey ∈ bigW := bw_t 759 (by decide +kernel) rfl
theorem msel_X11_rankKey : Cond.selects RX11 yX11_rankKey yX11_rankKey ∈ bigW := bw_s 64 (by decide +kernel) rfl
theorem mcode_X11_rankKey : Cond.code yX11_rankKey cX11_rankKey 3 (some .int) ∈ bigW := bw_t 760 (by decide +kernel) rfl
theorem lkX11_282 : LkV RX11 282 RX11 yX11_rankKey cX11_rankKey 3 (some .int) 2 := ⟨⟨bw_t 757 mlX11_282 rfl, minst_X11_rankKey, msel_X11_rankKey, mini_X11, mcode_X11_rankKey⟩, rfl, ⟨by decide, by decide, by decide +kernel⟩⟩
theorem mlX11_285 : tables_1[761]? = some (Cond.methodLink RX11 285 yX11_greatest) := by decide +kernel
theorem minst_X11_greatest : Cond.instanceMethod yX11_greatest ∈ bigW := bw_t 763 (by decide +kernel) rfl
theorem msel_X11_greatest : Cond.selects RX11 yX11_greatest yX11_greatest ∈ bigW := bw_s 65 (by decide +kernel) rfl
theorem mcode_X11_greatest : Cond.code yX11_greatest cX11_greatest 4 (some .int) ∈ bigW := bw_t 764 (by decide +kernel) rfl
theorem lkX11_285 : LkV RX11 285 RX11 yX11_greatest cX11_greatest 4 (some .int) 1 := ⟨⟨bw_t 761 mlX11_285 rfl, minst_X11_greatest, msel_X11_greatest, mini_X11, mcode_X11_greatest⟩, rfl, ⟨by decide, by decide, by decide +kernel⟩⟩
theorem mlX11_288 : tables_1[956]? = some (Cond.methodLinkNest RX11 288 yX4_has "CountedHeap") := by decide +kernel
theorem minst_X4_has : Cond.instanceMethod yX4_has ∈ bigW := bw_t 958 (by decide +kernel) rfl
theorem msel_X4_has : Cond.selects RX4 yX4_has yX4_has ∈ bigW := bw_s 82 (by decide +kernel) rfl
theorem mcode_X4_has : Cond.code yX4_has cX4_has 2 (some .boolean) ∈ bigW := bw_t 959 (by decide +kernel) rfl
theorem lkX11_288 : LkN RX4 yX4_has cX4_has 2 (some .boolean) 1 := ⟨⟨minst_X4_has, msel_X4_has, mini_X4, mcode_X4_has⟩, ⟨by decide, by decide, by decide +kernel⟩⟩
theorem mlX11_291 : tables_1[961]? = some (Cond.methodLinkNest RX11 291 yX4_kindAt "CountedHeap") := by decide +kernel
theorem minst_X4_kindAt : Cond.instanceMethod yX4_kindAt ∈ bigW := bw_t 963 (by decide +kernel) rfl
theorem msel_X4_kindAt : Cond.selects RX4 yX4_kindAt yX4_kindAt ∈ bigW := bw_s 83 (by decide +kernel) rfl
theorem mcode_X4_kindAt : Cond.code yX4_kindAt cX4_kindAt 2 (some .int) ∈ bigW := bw_t 964 (by decide +kernel) rfl
theorem lkX11_291 : LkN RX4 yX4_kindAt cX4_kindAt 2 (some .int) 1 := ⟨⟨minst_X4_kindAt, msel_X4_kindAt, mini_X4, mcode_X4_kindAt⟩, ⟨by decide, by decide, by decide +kernel⟩⟩
theorem mlX11_294 : tables_1[966]? = some (Cond.methodLinkNest RX11 294 yX4_objectAt "CountedHeap") := by decide +kernel
theorem minst_X4_objectAt : Cond.instanceMethod yX4_objectAt ∈ bigW := bw_t 968 (by decide +kernel) rfl
theorem msel_X4_objectAt : Cond.selects RX4 yX4_objectAt yX4_objectAt ∈ bigW := bw_s 84 (by decide +kernel) rfl
theorem mcode_X4_objectAt : Cond.code yX4_objectAt cX4_objectAt 2 (some .int) ∈ bigW := bw_t 969 (by decide +kernel) rfl
theorem lkX11_294 : LkN RX4 yX4_objectAt cX4_objectAt 2 (some .int) 1 := ⟨⟨minst_X4_objectAt, msel_X4_objectAt, mini_X4, mcode_X4_objectAt⟩, ⟨by decide, by decide, by decide +kernel⟩⟩
theorem mlX11_300 : tables_1[773]? = some (Cond.methodLinkNest RX11 300 yX7_fault "CountedHeap") := by decide +kernel
theorem minst_X7_fault : Cond.instanceMethod yX7_fault ∈ bigW := bw_t 775 (by decide +kernel) rfl
theorem msel_X7_fault : Cond.selects RX7 yX7_fault yX7_fault ∈ bigW := bw_s 66 (by decide +kernel) rfl
theorem mcode_X7_fault : Cond.code yX7_fault cX7_fault 3 (some .int) ∈ bigW := bw_t 776 (by decide +kernel) rfl
theorem lkX11_300 : LkN RX7 yX7_fault cX7_fault 3 (some .int) 0 := ⟨⟨minst_X7_fault, msel_X7_fault, mini_X7, mcode_X7_fault⟩, ⟨by decide, by decide, by decide +kernel⟩⟩
theorem mlX11_303 : tables_1[780]? = some (Cond.methodLinkNest RX11 303 yX7_starts "CountedHeap") := by decide +kernel
theorem minst_X7_starts : Cond.instanceMethod yX7_starts ∈ bigW := bw_t 782 (by decide +kernel) rfl
theorem msel_X7_starts : Cond.selects RX7 yX7_starts yX7_starts ∈ bigW := bw_s 67 (by decide +kernel) rfl
theorem mcode_X7_starts : Cond.code yX7_starts cX7_starts 1 none ∈ bigW := bw_t 783 (by decide +kernel) rfl
theorem lkX11_303 : LkN RX7 yX7_starts cX7_starts 1 none 0 := ⟨⟨minst_X7_starts, msel_X7_starts, mini_X7, mcode_X7_starts⟩, ⟨by decide, by decide, by decide +kernel⟩⟩
theorem mlX11_306 : tables_1[784]? = some (Cond.methodLinkNest RX11 306 yX7_goesOn "CountedHeap") := by decide +kernel
theorem minst_X7_goesOn : Cond.instanceMethod yX7_goesOn ∈ bigW := bw_t 786 (by decide +kernel) rfl
theorem msel_X7_goesOn : Cond.selects RX7 yX7_goesOn yX7_goesOn ∈ bigW := bw_s 68 (by decide +kernel) rfl
theorem mcode_X7_goesOn : Cond.code yX7_goesOn cX7_goesOn 1 (some .boolean) ∈ bigW := bw_t 787 (by decide +kernel) rfl
theorem lkX11_306 : LkN RX7 yX7_goesOn cX7_goesOn 1 (some .boolean) 0 := ⟨⟨minst_X7_goesOn, msel_X7_goesOn, mini_X7, mcode_X7_goesOn⟩, ⟨by decide, by decide, by decide +kernel⟩⟩
theorem mlX11_310 : tables_1[788]? = some (Cond.methodLinkNest RX11 310 yX7_reads "CountedHeap") := by decide +kernel
theorem minst_X7_reads : Cond.instanceMethod yX7_reads ∈ bigW := bw_t 790 (by decide +kernel) rfl
theorem msel_X7_reads : Cond.selects RX7 yX7_reads yX7_reads ∈ bigW := bw_s 69 (by decide +kernel) rfl
theorem mcode_X7_reads : Cond.code yX7_reads cX7_reads 3 none ∈ bigW := bw_t 791 (by decide +kernel) rfl
theorem lkX11_310 : LkN RX7 yX7_reads cX7_reads 3 none 1 := ⟨⟨minst_X7_reads, msel_X7_reads, mini_X7, mcode_X7_reads⟩, ⟨by decide, by decide, by decide +kernel⟩⟩
theorem mlX11_315 : tables_1[813]? = some (Cond.methodLinkNest RX11 315 yX5_undoes "CountedHeap") := by decide +kernel
theorem minst_X5_undoes : Cond.instanceMethod yX5_undoes ∈ bigW := bw_t 815 (by decide +kernel) rfl
theorem msel_X5_undoes : Cond.selects RX5 yX5_undoes yX5_undoes ∈ bigW := bw_s 74 (by decide +kernel) rfl
theorem mcode_X5_undoes : Cond.code yX5_undoes cX5_undoes 2 none ∈ bigW := bw_t 816 (by decide +kernel) rfl
theorem lkX11_315 : LkN RX5 yX5_undoes cX5_undoes 2 none 1 := ⟨⟨minst_X5_undoes, msel_X5_undoes, mini_X5, mcode_X5_undoes⟩, ⟨by decide, by decide, by decide +kernel⟩⟩
theorem mlX11_321 : tables_1[821]? = some (Cond.methodLink RX11 321 yX11_drawsAct) := by decide +kernel
theorem minst_X11_drawsAct : Cond.instanceMethod yX11_drawsAct ∈ bigW := bw_t 823 (by decide +kernel) rfl
theorem msel_X11_drawsAct : Cond.selects RX11 yX11_drawsAct yX11_drawsAct ∈ bigW := bw_s 75 (by decide +kernel) rfl
theorem mcode_X11_drawsAct : Cond.code yX11_drawsAct cX11_drawsAct 3 none ∈ bigW := bw_t 824 (by decide +kernel) rfl
theorem lkX11_321 : LkV RX11 321 RX11 yX11_drawsAct cX11_drawsAct 3 none 0 := ⟨⟨bw_t 821 mlX11_321 rfl, minst_X11_drawsAct, msel_X11_drawsAct, mini_X11, mcode_X11_drawsAct⟩, rfl, ⟨by decide, by decide, by decide +kernel⟩⟩
theorem mlX11_324 : tables_1[825]? = some (Cond.methodLink RX11 324 yX11_draws) := by decide +kernel
theorem minst_X11_draws : Cond.instanceMethod yX11_draws ∈ bigW := bw_t 827 (by decide +kernel) rfl
theorem msel_X11_draws : Cond.selects RX11 yX11_draws yX11_draws ∈ bigW := bw_s 76 (by decide +kernel) rfl
theorem mcode_X11_draws : Cond.code yX11_draws cX11_draws 2 (some .int) ∈ bigW := bw_t 828 (by decide +kernel) rfl
theorem lkX11_324 : LkV RX11 324 RX11 yX11_draws cX11_draws 2 (some .int) 1 := ⟨⟨bw_t 825 mlX11_324 rfl, minst_X11_draws, msel_X11_draws, mini_X11, mcode_X11_draws⟩, rfl, ⟨by decide, by decide, by decide +kernel⟩⟩
theorem mlX11_327 : tables_1[830]? = some (Cond.methodLink RX11 327 yX11_drawsTo) := by decide +kernel
theorem minst_X11_drawsTo : Cond.instanceMethod yX11_drawsTo ∈ bigW := bw_t 832 (by decide +kernel) rfl
theorem msel_X11_drawsTo : Cond.selects RX11 yX11_drawsTo yX11_drawsTo ∈ bigW := bw_s 77 (by decide +kernel) rfl
theorem mcode_X11_drawsTo : Cond.code yX11_drawsTo cX11_drawsTo 2 (some .int) ∈ bigW := bw_t 833 (by decide +kernel) rfl
theorem lkX11_327 : LkV RX11 327 RX11 yX11_drawsTo cX11_drawsTo 2 (some .int) 0 := ⟨⟨bw_t 830 mlX11_327 rfl, minst_X11_drawsTo, msel_X11_drawsTo, mini_X11, mcode_X11_drawsTo⟩, rfl, ⟨by decide, by decide, by decide +kernel⟩⟩
theorem mlX11_334 : tables_1[846]? = some (Cond.methodLinkNest RX11 334 yX3_countsTogether "CountedHeap") := by decide +kernel
theorem minst_X3_countsTogether : Cond.instanceMethod yX3_countsTogether ∈ bigW := bw_t 848 (by decide +kernel) rfl
theorem msel_X3_countsTogether : Cond.selects RX3 yX3_countsTogether yX3_countsTogether ∈ bigW := bw_s 78 (by decide +kernel) rfl
theorem mcode_X3_countsTogether : Cond.code yX3_countsTogether cX3_countsTogether 3 (some .int) ∈ bigW := bw_t 849 (by decide +kernel) rfl
theorem lkX11_334 : LkN RX3 yX3_countsTogether cX3_countsTogether 3 (some .int) 0 := ⟨⟨minst_X3_countsTogether, msel_X3_countsTogether, mini_X3, mcode_X3_countsTogether⟩, ⟨by decide, by decide, by decide +kernel⟩⟩
theorem mlX1_23 : tables_1[403]? = some (Cond.methodLink RX1 23 yX1_refuses) := by decide +kernel
theorem minst_X1_refuses : Cond.instanceMethod yX1_refuses ∈ bigW := bw_t 405 (by decide +kernel) rfl
theorem msel_X1_refuses : Cond.selects RX1 yX1_refuses yX1_refuses ∈ bigW := bw_s 8 (by decide +kernel) rfl
theorem mcode_X1_refuses : Cond.code yX1_refuses cX1_refuses 3 (some .int) ∈ bigW := bw_t 406 (by decide +kernel) rfl
theorem lkX1_23 : LkV RX1 23 RX1 yX1_refuses cX1_refuses 3 (some .int) 2 := ⟨⟨bw_t 403 mlX1_23 rfl, minst_X1_refuses, msel_X1_refuses, mini_X1, mcode_X1_refuses⟩, rfl, ⟨by decide, by decide, by decide +kernel⟩⟩
theorem mlX1_44 : tables_1[414]? = some (Cond.methodLinkNest RX1 44 yX3_leastFree "CountedHeap") := by decide +kernel
theorem lkX1_44 : LkN RX3 yX3_leastFree cX3_leastFree 2 (some .int) 0 := ⟨⟨minst_X3_leastFree, msel_X3_leastFree, mini_X3, mcode_X3_leastFree⟩, ⟨by decide, by decide, by decide +kernel⟩⟩
theorem mlX1_57 : tables_1[474]? = some (Cond.methodLinkNest RX1 57 yX3_adds "CountedHeap") := by decide +kernel
theorem minst_X3_adds : Cond.instanceMethod yX3_adds ∈ bigW := bw_t 476 (by decide +kernel) rfl
theorem msel_X3_adds : Cond.selects RX3 yX3_adds yX3_adds ∈ bigW := bw_s 22 (by decide +kernel) rfl
theorem mcode_X3_adds : Cond.code yX3_adds cX3_adds 5 none ∈ bigW := bw_t 477 (by decide +kernel) rfl
theorem lkX1_57 : LkN RX3 yX3_adds cX3_adds 5 none 4 := ⟨⟨minst_X3_adds, msel_X3_adds, mini_X3, mcode_X3_adds⟩, ⟨by decide, by decide, by decide +kernel⟩⟩
theorem mlX1_64 : tables_1[486]? = some (Cond.methodLinkNest RX1 64 yX2_laysRoot "CountedHeap") := by decide +kernel
theorem minst_X2_laysRoot : Cond.instanceMethod yX2_laysRoot ∈ bigW := bw_t 488 (by decide +kernel) rfl
theorem msel_X2_laysRoot : Cond.selects RX2 yX2_laysRoot yX2_laysRoot ∈ bigW := bw_s 25 (by decide +kernel) rfl
theorem mcode_X2_laysRoot : Cond.code yX2_laysRoot cX2_laysRoot 5 none ∈ bigW := bw_t 489 (by decide +kernel) rfl
theorem lkX1_64 : LkN RX2 yX2_laysRoot cX2_laysRoot 5 none 3 := ⟨⟨minst_X2_laysRoot, msel_X2_laysRoot, mini_X2, mcode_X2_laysRoot⟩, ⟨by decide, by decide, by decide +kernel⟩⟩
theorem mlX1_70 : tables_1[538]? = some (Cond.methodLinkNest RX1 70 yX2_laysField "CountedHeap") := by decide +kernel
theorem lkX1_70 : LkN RX2 yX2_laysField cX2_laysField 6 none 4 := ⟨⟨minst_X2_laysField, msel_X2_laysField, mini_X2, mcode_X2_laysField⟩, ⟨by decide, by decide, by decide +kernel⟩⟩
theorem mlX1_78 : tables_1[542]? = some (Cond.methodLinkNest RX1 78 yX9_tries "CountedHeap") := by decide +kernel
theorem lkX1_78 : LkN RX9 yX9_tries cX9_tries 3 none 1 := ⟨⟨minst_X9_tries, msel_X9_tries, mini_X9, mcode_X9_tries⟩, ⟨by decide, by decide, by decide +kernel⟩⟩
theorem mlX1_96 : tables_1[407]? = some (Cond.methodLink RX1 96 yX1_refusesMake) := by decide +kernel
theorem minst_X1_refusesMake : Cond.instanceMethod yX1_refusesMake ∈ bigW := bw_t 409 (by decide +kernel) rfl
theorem msel_X1_refusesMake : Cond.selects RX1 yX1_refusesMake yX1_refusesMake ∈ bigW := bw_s 9 (by decide +kernel) rfl
theorem mcode_X1_refusesMake : Cond.code yX1_refusesMake cX1_refusesMake 3 (some .int) ∈ bigW := bw_t 410 (by decide +kernel) rfl
theorem lkX1_96 : LkV RX1 96 RX1 yX1_refusesMake cX1_refusesMake 3 (some .int) 2 := ⟨⟨bw_t 407 mlX1_96 rfl, minst_X1_refusesMake, msel_X1_refusesMake, mini_X1, mcode_X1_refusesMake⟩, rfl, ⟨by decide, by decide, by decide +kernel⟩⟩
theorem mlX1_99 : tables_1[415]? = some (Cond.methodLink RX1 99 yX1_refusesSet) := by decide +kernel
theorem minst_X1_refusesSet : Cond.instanceMethod yX1_refusesSet ∈ bigW := bw_t 417 (by decide +kernel) rfl
theorem msel_X1_refusesSet : Cond.selects RX1 yX1_refusesSet yX1_refusesSet ∈ bigW := bw_s 10 (by decide +kernel) rfl
theorem mcode_X1_refusesSet : Cond.code yX1_refusesSet cX1_refusesSet 6 (some .int) ∈ bigW := bw_t 418 (by decide +kernel) rfl
theorem lkX1_99 : LkV RX1 99 RX1 yX1_refusesSet cX1_refusesSet 6 (some .int) 4 := ⟨⟨bw_t 415 mlX1_99 rfl, minst_X1_refusesSet, msel_X1_refusesSet, mini_X1, mcode_X1_refusesSet⟩, rfl, ⟨by decide, by decide, by decide +kernel⟩⟩
theorem mlX1_103 : tables_1[462]? = some (Cond.methodLink RX1 103 yX1_refusesRoot) := by decide +kernel
theorem minst_X1_refusesRoot : Cond.instanceMethod yX1_refusesRoot ∈ bigW := bw_t 464 (by decide +kernel) rfl
theorem msel_X1_refusesRoot : Cond.selects RX1 yX1_refusesRoot yX1_refusesRoot ∈ bigW := bw_s 19 (by decide +kernel) rfl
theorem mcode_X1_refusesRoot : Cond.code yX1_refusesRoot cX1_refusesRoot 4 (some .int) ∈ bigW := bw_t 465 (by decide +kernel) rfl
theorem lkX1_103 : LkV RX1 103 RX1 yX1_refusesRoot cX1_refusesRoot 4 (some .int) 3 := ⟨⟨bw_t 462 mlX1_103 rfl, minst_X1_refusesRoot, msel_X1_refusesRoot, mini_X1, mcode_X1_refusesRoot⟩, rfl, ⟨by decide, by decide, by decide +kernel⟩⟩
theorem mlX1_107 : tables_1[466]? = some (Cond.methodLink RX1 107 yX1_refusesWeak) := by decide +kernel
theorem minst_X1_refusesWeak : Cond.instanceMethod yX1_refusesWeak ∈ bigW := bw_t 468 (by decide +kernel) rfl
theorem msel_X1_refusesWeak : Cond.selects RX1 yX1_refusesWeak yX1_refusesWeak ∈ bigW := bw_s 20 (by decide +kernel) rfl
theorem mcode_X1_refusesWeak : Cond.code yX1_refusesWeak cX1_refusesWeak 4 (some .int) ∈ bigW := bw_t 469 (by decide +kernel) rfl
theorem lkX1_107 : LkV RX1 107 RX1 yX1_refusesWeak cX1_refusesWeak 4 (some .int) 3 := ⟨⟨bw_t 466 mlX1_107 rfl, minst_X1_refusesWeak, msel_X1_refusesWeak, mini_X1, mcode_X1_refusesWeak⟩, rfl, ⟨by decide, by decide, by decide +kernel⟩⟩
theorem mlX1_110 : tables_1[470]? = some (Cond.methodLink RX1 110 yX1_refusesWake) := by decide +kernel
theorem minst_X1_refusesWake : Cond.instanceMethod yX1_refusesWake ∈ bigW := bw_t 472 (by decide +kernel) rfl
theorem msel_X1_refusesWake : Cond.selects RX1 yX1_refusesWake yX1_refusesWake ∈ bigW := bw_s 21 (by decide +kernel) rfl
theorem mcode_X1_refusesWake : Cond.code yX1_refusesWake cX1_refusesWake 4 (some .int) ∈ bigW := bw_t 473 (by decide +kernel) rfl
theorem lkX1_110 : LkV RX1 110 RX1 yX1_refusesWake cX1_refusesWake 4 (some .int) 3 := ⟨⟨bw_t 470 mlX1_110 rfl, minst_X1_refusesWake, msel_X1_refusesWake, mini_X1, mcode_X1_refusesWake⟩, rfl, ⟨by decide, by decide, by decide +kernel⟩⟩
theorem mlX1_117 : tables_1[419]? = some (Cond.methodLinkNest RX1 117 yX3_hasField "CountedHeap") := by decide +kernel
theorem lkX1_117 : LkN RX3 yX3_hasField cX3_hasField 3 (some .boolean) 2 := ⟨⟨minst_X3_hasField, msel_X3_hasField, mini_X3, mcode_X3_hasField⟩, ⟨by decide, by decide, by decide +kernel⟩⟩
theorem mlX1_121 : tables_1[427]? = some (Cond.methodLinkNest RX1 121 yX3_hasOrNone "CountedHeap") := by decide +kernel
theorem minst_X3_hasOrNone : Cond.instanceMethod yX3_hasOrNone ∈ bigW := bw_t 429 (by decide +kernel) rfl
theorem msel_X3_hasOrNone : Cond.selects RX3 yX3_hasOrNone yX3_hasOrNone ∈ bigW := bw_s 13 (by decide +kernel) rfl
theorem mcode_X3_hasOrNone : Cond.code yX3_hasOrNone cX3_hasOrNone 2 (some .boolean) ∈ bigW := bw_t 430 (by decide +kernel) rfl
theorem lkX1_121 : LkN RX3 yX3_hasOrNone cX3_hasOrNone 2 (some .boolean) 1 := ⟨⟨minst_X3_hasOrNone, msel_X3_hasOrNone, mini_X3, mcode_X3_hasOrNone⟩, ⟨by decide, by decide, by decide +kernel⟩⟩
theorem mlX1_125 : tables_1[431]? = some (Cond.methodLinkNest RX1 125 yX3_fieldAt "CountedHeap") := by decide +kernel
theorem lkX1_125 : LkN RX3 yX3_fieldAt cX3_fieldAt 3 (some .int) 2 := ⟨⟨minst_X3_fieldAt, msel_X3_fieldAt, mini_X3, mcode_X3_fieldAt⟩, ⟨by decide, by decide, by decide +kernel⟩⟩
theorem mlX1_129 : tables_1[435]? = some (Cond.methodLinkNest RX1 129 yX10_reached "CountedHeap") := by decide +kernel
theorem lkX1_129 : LkN RX10 yX10_reached cX10_reached 2 (some .int) 1 := ⟨⟨minst_X10_reached, msel_X10_reached, mini_X10, mcode_X10_reached⟩, ⟨by decide, by decide, by decide +kernel⟩⟩
theorem mlX2_15 : tables_1[529]? = some (Cond.methodLinkNest RX2 15 yX3_fieldAt "CountedHeap") := by decide +kernel
theorem lkX2_15 : LkN RX3 yX3_fieldAt cX3_fieldAt 3 (some .int) 2 := ⟨⟨minst_X3_fieldAt, msel_X3_fieldAt, mini_X3, mcode_X3_fieldAt⟩, ⟨by decide, by decide, by decide +kernel⟩⟩
theorem mlX2_21 : tables_1[530]? = some (Cond.methodLinkNest RX2 21 yX3_fills "CountedHeap") := by decide +kernel
theorem minst_X3_fills : Cond.instanceMethod yX3_fills ∈ bigW := bw_t 532 (by decide +kernel) rfl
theorem msel_X3_fills : Cond.selects RX3 yX3_fills yX3_fills ∈ bigW := bw_s 35 (by decide +kernel) rfl
theorem mcode_X3_fills : Cond.code yX3_fills cX3_fills 4 none ∈ bigW := bw_t 533 (by decide +kernel) rfl
theorem lkX2_21 : LkN RX3 yX3_fills cX3_fills 4 none 3 := ⟨⟨minst_X3_fills, msel_X3_fills, mini_X3, mcode_X3_fills⟩, ⟨by decide, by decide, by decide +kernel⟩⟩
theorem mlX2_25 : tables_1[490]? = some (Cond.methodLink RX2 25 yX2_recounts) := by decide +kernel
theorem minst_X2_recounts : Cond.instanceMethod yX2_recounts ∈ bigW := bw_t 492 (by decide +kernel) rfl
theorem msel_X2_recounts : Cond.selects RX2 yX2_recounts yX2_recounts ∈ bigW := bw_s 26 (by decide +kernel) rfl
theorem mcode_X2_recounts : Cond.code yX2_recounts cX2_recounts 4 none ∈ bigW := bw_t 493 (by decide +kernel) rfl
theorem lkX2_25 : LkV RX2 25 RX2 yX2_recounts cX2_recounts 4 none 3 := ⟨⟨bw_t 490 mlX2_25 rfl, minst_X2_recounts, msel_X2_recounts, mini_X2, mcode_X2_recounts⟩, rfl, ⟨by decide, by decide, by decide +kernel⟩⟩
theorem mlX2_39 : tables_1[494]? = some (Cond.methodLinkNest RX2 39 yX6_trusts "CountedHeap") := by decide +kernel
theorem minst_X6_trusts : Cond.instanceMethod yX6_trusts ∈ bigW := bw_t 496 (by decide +kernel) rfl
theorem msel_X6_trusts : Cond.selects RX6 yX6_trusts yX6_trusts ∈ bigW := bw_s 27 (by decide +kernel) rfl
theorem mcode_X6_trusts : Cond.code yX6_trusts cX6_trusts 2 none ∈ bigW := bw_t 497 (by decide +kernel) rfl
theorem lkX2_39 : LkN RX6 yX6_trusts cX6_trusts 2 none 1 := ⟨⟨minst_X6_trusts, msel_X6_trusts, mini_X6, mcode_X6_trusts⟩, ⟨by decide, by decide, by decide +kernel⟩⟩
theorem mlX2_45 : tables_1[498]? = some (Cond.methodLink RX2 45 yX2_countsDown) := by decide +kernel
theorem minst_X2_countsDown : Cond.instanceMethod yX2_countsDown ∈ bigW := bw_t 500 (by decide +kernel) rfl
theorem msel_X2_countsDown : Cond.selects RX2 yX2_countsDown yX2_countsDown ∈ bigW := bw_s 28 (by decide +kernel) rfl
theorem mcode_X2_countsDown : Cond.code yX2_countsDown cX2_countsDown 5 none ∈ bigW := bw_t 501 (by decide +kernel) rfl
theorem lkX2_45 : LkV RX2 45 RX2 yX2_countsDown cX2_countsDown 5 none 2 := ⟨⟨bw_t 498 mlX2_45 rfl, minst_X2_countsDown, msel_X2_countsDown, mini_X2, mcode_X2_countsDown⟩, rfl, ⟨by decide, by decide, by decide +kernel⟩⟩
theorem mlX2_54 : tables_1[503]? = some (Cond.methodLink RX2 54 yX2_countsOneDown) := by decide +kernel
theorem minst_X2_countsOneDown : Cond.instanceMethod yX2_countsOneDown ∈ bigW := bw_t 505 (by decide +kernel) rfl
theorem msel_X2_countsOneDown : Cond.selects RX2 yX2_countsOneDown yX2_countsOneDown ∈ bigW := bw_s 29 (by decide +kernel) rfl
theorem mcode_X2_countsOneDown : Cond.code yX2_countsOneDown cX2_countsOneDown 4 (some .int) ∈ bigW := bw_t 506 (by decide +kernel) rfl
theorem lkX2_54 : LkV RX2 54 RX2 yX2_countsOneDown cX2_countsOneDown 4 (some .int) 2 := ⟨⟨bw_t 503 mlX2_54 rfl, minst_X2_countsOneDown, msel_X2_countsOneDown, mini_X2, mcode_X2_countsOneDown⟩, rfl, ⟨by decide, by decide, by decide +kernel⟩⟩
theorem mlX2_58 : tables_1[525]? = some (Cond.methodLink RX2 58 yX2_goesOnFreeing) := by decide +kernel
theorem minst_X2_goesOnFreeing : Cond.instanceMethod yX2_goesOnFreeing ∈ bigW := bw_t 527 (by decide +kernel) rfl
theorem msel_X2_goesOnFreeing : Cond.selects RX2 yX2_goesOnFreeing yX2_goesOnFreeing ∈ bigW := bw_s 34 (by decide +kernel) rfl
theorem mcode_X2_goesOnFreeing : Cond.code yX2_goesOnFreeing cX2_goesOnFreeing 5 (some .int) ∈ bigW := bw_t 528 (by decide +kernel) rfl
theorem lkX2_58 : LkV RX2 58 RX2 yX2_goesOnFreeing cX2_goesOnFreeing 5 (some .int) 1 := ⟨⟨bw_t 525 mlX2_58 rfl, minst_X2_goesOnFreeing, msel_X2_goesOnFreeing, mini_X2, mcode_X2_goesOnFreeing⟩, rfl, ⟨by decide, by decide, by decide +kernel⟩⟩
theorem mlX2_65 : tables_1[507]? = some (Cond.methodLinkNest RX2 65 yX6_means "CountedHeap") := by decide +kernel
theorem minst_X6_means : Cond.instanceMethod yX6_means ∈ bigW := bw_t 509 (by decide +kernel) rfl
theorem msel_X6_means : Cond.selects RX6 yX6_means yX6_means ∈ bigW := bw_s 30 (by decide +kernel) rfl
theorem mcode_X6_means : Cond.code yX6_means cX6_means 2 none ∈ bigW := bw_t 510 (by decide +kernel) rfl
theorem lkX2_65 : LkN RX6 yX6_means cX6_means 2 none 1 := ⟨⟨minst_X6_means, msel_X6_means, mini_X6, mcode_X6_means⟩, ⟨by decide, by decide, by decide +kernel⟩⟩
theorem mlX2_68 : tables_1[512]? = some (Cond.methodLinkNest RX2 68 yX6_drops "CountedHeap") := by decide +kernel
theorem minst_X6_drops : Cond.instanceMethod yX6_drops ∈ bigW := bw_t 514 (by decide +kernel) rfl
theorem msel_X6_drops : Cond.selects RX6 yX6_drops yX6_drops ∈ bigW := bw_s 31 (by decide +kernel) rfl
theorem mcode_X6_drops : Cond.code yX6_drops cX6_drops 4 none ∈ bigW := bw_t 515 (by decide +kernel) rfl
theorem lkX2_68 : LkN RX6 yX6_drops cX6_drops 4 none 1 := ⟨⟨minst_X6_drops, msel_X6_drops, mini_X6, mcode_X6_drops⟩, ⟨by decide, by decide, by decide +kernel⟩⟩
theorem mlX2_71 : tables_1[516]? = some (Cond.methodLinkNest RX2 71 yX3_hasEndToRun "CountedHeap") := by decide +kernel
theorem minst_X3_hasEndToRun : Cond.instanceMethod yX3_hasEndToRun ∈ bigW := bw_t 518 (by decide +kernel) rfl
theorem msel_X3_hasEndToRun : Cond.selects RX3 yX3_hasEndToRun yX3_hasEndToRun ∈ bigW := bw_s 32 (by decide +kernel) rfl
theorem mcode_X3_hasEndToRun : Cond.code yX3_hasEndToRun cX3_hasEndToRun 2 (some .boolean) ∈ bigW := bw_t 519 (by decide +kernel) rfl
theorem lkX2_71 : LkN RX3 yX3_hasEndToRun cX3_hasEndToRun 2 (some .boolean) 1 := ⟨⟨minst_X3_hasEndToRun, msel_X3_hasEndToRun, mini_X3, mcode_X3_hasEndToRun⟩, ⟨by decide, by decide, by decide +kernel⟩⟩
theorem mlX2_75 : tables_1[520]? = some (Cond.methodLink RX2 75 yX2_runsEnd) := by decide +kernel
theorem minst_X2_runsEnd : Cond.instanceMethod yX2_runsEnd ∈ bigW := bw_t 522 (by decide +kernel) rfl
theorem msel_X2_runsEnd : Cond.selects RX2 yX2_runsEnd yX2_runsEnd ∈ bigW := bw_s 33 (by decide +kernel) rfl
theorem mcode_X2_runsEnd : Cond.code yX2_runsEnd cX2_runsEnd 5 (some .int) ∈ bigW := bw_t 523 (by decide +kernel) rfl
theorem lkX2_75 : LkV RX2 75 RX2 yX2_runsEnd cX2_runsEnd 5 (some .int) 2 := ⟨⟨bw_t 520 mlX2_75 rfl, minst_X2_runsEnd, msel_X2_runsEnd, mini_X2, mcode_X2_runsEnd⟩, rfl, ⟨by decide, by decide, by decide +kernel⟩⟩
theorem mlX2_82 : tables_1[524]? = some (Cond.methodLinkNest RX2 82 yX4_adds "CountedHeap") := by decide +kernel
theorem minst_X4_adds : Cond.instanceMethod yX4_adds ∈ bigW := bw_t 484 (by decide +kernel) rfl
theorem msel_X4_adds : Cond.selects RX4 yX4_adds yX4_adds ∈ bigW := bw_s 24 (by decide +kernel) rfl
theorem mcode_X4_adds : Cond.code yX4_adds cX4_adds 4 none ∈ bigW := bw_t 485 (by decide +kernel) rfl
theorem lkX2_82 : LkN RX4 yX4_adds cX4_adds 4 none 2 := ⟨⟨minst_X4_adds, msel_X4_adds, mini_X4, mcode_X4_adds⟩, ⟨by decide, by decide, by decide +kernel⟩⟩
theorem mlX2_94 : tables_1[534]? = some (Cond.methodLinkNest RX2 94 yX3_loses "CountedHeap") := by decide +kernel
theorem minst_X3_loses : Cond.instanceMethod yX3_loses ∈ bigW := bw_t 536 (by decide +kernel) rfl
theorem msel_X3_loses : Cond.selects RX3 yX3_loses yX3_loses ∈ bigW := bw_s 36 (by decide +kernel) rfl
theorem mcode_X3_loses : Cond.code yX3_loses cX3_loses 3 none ∈ bigW := bw_t 537 (by decide +kernel) rfl
theorem lkX2_94 : LkN RX3 yX3_loses cX3_loses 3 none 1 := ⟨⟨minst_X3_loses, msel_X3_loses, mini_X3, mcode_X3_loses⟩, ⟨by decide, by decide, by decide +kernel⟩⟩
theorem mlX3_69 : tables_1[389]? = some (Cond.methodLinkNest RX3 69 yX6_copies "CountedHeap") := by decide +kernel
theorem minst_X6_copies : Cond.instanceMethod yX6_copies ∈ bigW := bw_t 391 (by decide +kernel) rfl
theorem msel_X6_copies : Cond.selects RX6 yX6_copies yX6_copies ∈ bigW := bw_s 5 (by decide +kernel) rfl
theorem mcode_X6_copies : Cond.code yX6_copies cX6_copies 2 none ∈ bigW := bw_t 392 (by decide +kernel) rfl
theorem lkX3_69 : LkN RX6 yX6_copies cX6_copies 2 none 1 := ⟨⟨minst_X6_copies, msel_X6_copies, mini_X6, mcode_X6_copies⟩, ⟨by decide, by decide, by decide +kernel⟩⟩
theorem mlX3_73 : tables_1[394]? = some (Cond.methodLinkNest RX3 73 yX4_copies "CountedHeap") := by decide +kernel
theorem minst_X4_copies : Cond.instanceMethod yX4_copies ∈ bigW := bw_t 396 (by decide +kernel) rfl
theorem msel_X4_copies : Cond.selects RX4 yX4_copies yX4_copies ∈ bigW := bw_s 6 (by decide +kernel) rfl
theorem mcode_X4_copies : Cond.code yX4_copies cX4_copies 2 none ∈ bigW := bw_t 397 (by decide +kernel) rfl
theorem lkX3_73 : LkN RX4 yX4_copies cX4_copies 2 none 1 := ⟨⟨minst_X4_copies, msel_X4_copies, mini_X4, mcode_X4_copies⟩, ⟨by decide, by decide, by decide +kernel⟩⟩
theorem mlX3_76 : tables_1[423]? = some (Cond.methodLink RX3 76 yX3_has) := by decide +kernel
theorem lkX3_76 : LkV RX3 76 RX3 yX3_has cX3_has 2 (some .boolean) 1 := ⟨⟨bw_t 423 mlX3_76 rfl, minst_X3_has, msel_X3_has, mini_X3, mcode_X3_has⟩, rfl, ⟨by decide, by decide, by decide +kernel⟩⟩
theorem mlX3_90 : tables_1[457]? = some (Cond.methodLink RX3 90 yX3_fieldAt) := by decide +kernel
theorem lkX3_90 : LkV RX3 90 RX3 yX3_fieldAt cX3_fieldAt 3 (some .int) 2 := ⟨⟨bw_t 457 mlX3_90 rfl, minst_X3_fieldAt, msel_X3_fieldAt, mini_X3, mcode_X3_fieldAt⟩, rfl, ⟨by decide, by decide, by decide +kernel⟩⟩
theorem mlX3_93 : tables_1[478]? = some (Cond.methodLink RX3 93 yX3_empties) := by decide +kernel
theorem minst_X3_empties : Cond.instanceMethod yX3_empties ∈ bigW := bw_t 480 (by decide +kernel) rfl
theorem msel_X3_empties : Cond.selects RX3 yX3_empties yX3_empties ∈ bigW := bw_s 23 (by decide +kernel) rfl
theorem mcode_X3_empties : Cond.code yX3_empties cX3_empties 3 none ∈ bigW := bw_t 481 (by decide +kernel) rfl
theorem lkX3_93 : LkV RX3 93 RX3 yX3_empties cX3_empties 3 none 1 := ⟨⟨bw_t 478 mlX3_93 rfl, minst_X3_empties, msel_X3_empties, mini_X3, mcode_X3_empties⟩, rfl, ⟨by decide, by decide, by decide +kernel⟩⟩
theorem mlX3_97 : tables_1[482]? = some (Cond.methodLinkNest RX3 97 yX4_adds "CountedHeap") := by decide +kernel
theorem lkX3_97 : LkN RX4 yX4_adds cX4_adds 4 none 2 := ⟨⟨minst_X4_adds, msel_X4_adds, mini_X4, mcode_X4_adds⟩, ⟨by decide, by decide, by decide +kernel⟩⟩
theorem mlX4_31 : tables_1[965]? = some (Cond.methodLink RX4 31 yX4_has) := by decide +kernel
theorem lkX4_31 : LkV RX4 31 RX4 yX4_has cX4_has 2 (some .boolean) 1 := ⟨⟨bw_t 965 mlX4_31 rfl, minst_X4_has, msel_X4_has, mini_X4, mcode_X4_has⟩, rfl, ⟨by decide, by decide, by decide +kernel⟩⟩
theorem mlX5_22 : tables_1[382]? = some (Cond.methodLinkNest RX5 22 yX3_copies "CountedHeap") := by decide +kernel
theorem lkX5_22 : LkN RX3 yX3_copies cX3_copies 2 none 1 := ⟨⟨minst_X3_copies, msel_X3_copies, mini_X3, mcode_X3_copies⟩, ⟨by decide, by decide, by decide +kernel⟩⟩
theorem mlX7_26 : tables_1[792]? = some (Cond.methodLink RX7 26 yX7_next) := by decide +kernel
theorem minst_X7_next : Cond.instanceMethod yX7_next ∈ bigW := bw_t 794 (by decide +kernel) rfl
theorem msel_X7_next : Cond.selects RX7 yX7_next yX7_next ∈ bigW := bw_s 70 (by decide +kernel) rfl
theorem mcode_X7_next : Cond.code yX7_next cX7_next 1 (some .int) ∈ bigW := bw_t 795 (by decide +kernel) rfl
theorem lkX7_26 : LkV RX7 26 RX7 yX7_next cX7_next 1 (some .int) 0 := ⟨⟨bw_t 792 mlX7_26 rfl, minst_X7_next, msel_X7_next, mini_X7, mcode_X7_next⟩, rfl, ⟨by decide, by decide, by decide +kernel⟩⟩
theorem mlX7_30 : tables_1[796]? = some (Cond.methodLink RX7 30 yX7_digit) := by decide +kernel
theorem minst_X7_digit : Cond.instanceMethod yX7_digit ∈ bigW := bw_t 798 (by decide +kernel) rfl
theorem msel_X7_digit : Cond.selects RX7 yX7_digit yX7_digit ∈ bigW := bw_s 71 (by decide +kernel) rfl
theorem mcode_X7_digit : Cond.code yX7_digit cX7_digit 1 (some .int) ∈ bigW := bw_t 799 (by decide +kernel) rfl
theorem lkX7_30 : LkV RX7 30 RX7 yX7_digit cX7_digit 1 (some .int) 0 := ⟨⟨bw_t 796 mlX7_30 rfl, minst_X7_digit, msel_X7_digit, mini_X7, mcode_X7_digit⟩, rfl, ⟨by decide, by decide, by decide +kernel⟩⟩
theorem mlX7_33 : tables_1[800]? = some (Cond.methodLinkNest RX7 33 yX0_becomes "CountedHeap") := by decide +kernel
theorem lkX7_33 : LkN RX0 yX0_becomes cX0_becomes 6 none 5 := ⟨⟨minst_X0_becomes, msel_X0_becomes, mini_X0, mcode_X0_becomes⟩, ⟨by decide, by decide, by decide +kernel⟩⟩
theorem mlX7_39 : tables_1[801]? = some (Cond.methodLink RX7 39 yX7_twoDigits) := by decide +kernel
theorem minst_X7_twoDigits : Cond.instanceMethod yX7_twoDigits ∈ bigW := bw_t 803 (by decide +kernel) rfl
theorem msel_X7_twoDigits : Cond.selects RX7 yX7_twoDigits yX7_twoDigits ∈ bigW := bw_s 72 (by decide +kernel) rfl
theorem mcode_X7_twoDigits : Cond.code yX7_twoDigits cX7_twoDigits 2 (some .int) ∈ bigW := bw_t 804 (by decide +kernel) rfl
theorem lkX7_39 : LkV RX7 39 RX7 yX7_twoDigits cX7_twoDigits 2 (some .int) 0 := ⟨⟨bw_t 801 mlX7_39 rfl, minst_X7_twoDigits, msel_X7_twoDigits, mini_X7, mcode_X7_twoDigits⟩, rfl, ⟨by decide, by decide, by decide +kernel⟩⟩
theorem mlX7_42 : tables_1[805]? = some (Cond.methodLink RX7 42 yX7_target) := by decide +kernel
theorem minst_X7_target : Cond.instanceMethod yX7_target ∈ bigW := bw_t 807 (by decide +kernel) rfl
theorem msel_X7_target : Cond.selects RX7 yX7_target yX7_target ∈ bigW := bw_s 73 (by decide +kernel) rfl
theorem mcode_X7_target : Cond.code yX7_target cX7_target 2 (some .int) ∈ bigW := bw_t 808 (by decide +kernel) rfl
theorem lkX7_42 : LkV RX7 42 RX7 yX7_target cX7_target 2 (some .int) 0 := ⟨⟨bw_t 805 mlX7_42 rfl, minst_X7_target, msel_X7_target, mini_X7, mcode_X7_target⟩, rfl, ⟨by decide, by decide, by decide +kernel⟩⟩
theorem mlX8_19 : tables_1[610]? = some (Cond.methodLink RX8 19 yX8_clears) := by decide +kernel
theorem lkX8_19 : LkV RX8 19 RX8 yX8_clears cX8_clears 1 none 0 := ⟨⟨bw_t 610 mlX8_19 rfl, minst_X8_clears, msel_X8_clears, mini_X8, mcode_X8_clears⟩, rfl, ⟨by decide, by decide, by decide +kernel⟩⟩
theorem mlX8_22 : tables_1[614]? = some (Cond.methodLink RX8 22 yX8_adds) := by decide +kernel
theorem lkX8_22 : LkV RX8 22 RX8 yX8_adds cX8_adds 3 none 1 := ⟨⟨bw_t 614 mlX8_22 rfl, minst_X8_adds, msel_X8_adds, mini_X8, mcode_X8_adds⟩, rfl, ⟨by decide, by decide, by decide +kernel⟩⟩
theorem mlX8_26 : tables_1[635]? = some (Cond.methodLink RX8 26 yX8_tells) := by decide +kernel
theorem lkX8_26 : LkV RX8 26 RX8 yX8_tells cX8_tells 3 none 1 := ⟨⟨bw_t 635 mlX8_26 rfl, minst_X8_tells, msel_X8_tells, mini_X8, mcode_X8_tells⟩, rfl, ⟨by decide, by decide, by decide +kernel⟩⟩
theorem mlX8_29 : tables_1[748]? = some (Cond.methodLink RX8 29 yX8_tells_) := by decide +kernel
theorem lkX8_29 : LkV RX8 29 RX8 yX8_tells_ cX8_tells_ 5 none 2 := ⟨⟨bw_t 748 mlX8_29 rfl, minst_X8_tells_, msel_X8_tells_, mini_X8, mcode_X8_tells_⟩, rfl, ⟨by decide, by decide, by decide +kernel⟩⟩
theorem mlX9_56 : tables_1[548]? = some (Cond.methodLinkNest RX9 56 yX6_dropsTrusted "CountedHeap") := by decide +kernel
theorem minst_X6_dropsTrusted : Cond.instanceMethod yX6_dropsTrusted ∈ bigW := bw_t 550 (by decide +kernel) rfl
theorem msel_X6_dropsTrusted : Cond.selects RX6 yX6_dropsTrusted yX6_dropsTrusted ∈ bigW := bw_s 39 (by decide +kernel) rfl
theorem mcode_X6_dropsTrusted : Cond.code yX6_dropsTrusted cX6_dropsTrusted 3 none ∈ bigW := bw_t 551 (by decide +kernel) rfl
theorem lkX9_56 : LkN RX6 yX6_dropsTrusted cX6_dropsTrusted 3 none 0 := ⟨⟨minst_X6_dropsTrusted, msel_X6_dropsTrusted, mini_X6, mcode_X6_dropsTrusted⟩, ⟨by decide, by decide, by decide +kernel⟩⟩
theorem mlX9_67 : tables_1[552]? = some (Cond.methodLink RX9 67 yX9_takesAway) := by decide +kernel
theorem minst_X9_takesAway : Cond.instanceMethod yX9_takesAway ∈ bigW := bw_t 554 (by decide +kernel) rfl
theorem msel_X9_takesAway : Cond.selects RX9 yX9_takesAway yX9_takesAway ∈ bigW := bw_s 40 (by decide +kernel) rfl
theorem mcode_X9_takesAway : Cond.code yX9_takesAway cX9_takesAway 3 none ∈ bigW := bw_t 555 (by decide +kernel) rfl
theorem lkX9_67 : LkV RX9 67 RX9 yX9_takesAway cX9_takesAway 3 none 2 := ⟨⟨bw_t 552 mlX9_67 rfl, minst_X9_takesAway, msel_X9_takesAway, mini_X9, mcode_X9_takesAway⟩, rfl, ⟨by decide, by decide, by decide +kernel⟩⟩
theorem mlX9_71 : tables_1[565]? = some (Cond.methodLink RX9 71 yX9_looksThrough) := by decide +kernel
theorem minst_X9_looksThrough : Cond.instanceMethod yX9_looksThrough ∈ bigW := bw_t 567 (by decide +kernel) rfl
theorem msel_X9_looksThrough : Cond.selects RX9 yX9_looksThrough yX9_looksThrough ∈ bigW := bw_s 43 (by decide +kernel) rfl
theorem mcode_X9_looksThrough : Cond.code yX9_looksThrough cX9_looksThrough 6 none ∈ bigW := bw_t 568 (by decide +kernel) rfl
theorem lkX9_71 : LkV RX9 71 RX9 yX9_looksThrough cX9_looksThrough 6 none 2 := ⟨⟨bw_t 565 mlX9_71 rfl, minst_X9_looksThrough, msel_X9_looksThrough, mini_X9, mcode_X9_looksThrough⟩, rfl, ⟨by decide, by decide, by decide +kernel⟩⟩
theorem mlX9_74 : tables_1[574]? = some (Cond.methodLinkNest RX9 74 yX6_clears "CountedHeap") := by decide +kernel
theorem minst_X6_clears : Cond.instanceMethod yX6_clears ∈ bigW := bw_t 576 (by decide +kernel) rfl
theorem msel_X6_clears : Cond.selects RX6 yX6_clears yX6_clears ∈ bigW := bw_s 45 (by decide +kernel) rfl
theorem mcode_X6_clears : Cond.code yX6_clears cX6_clears 1 none ∈ bigW := bw_t 577 (by decide +kernel) rfl
theorem lkX9_74 : LkN RX6 yX6_clears cX6_clears 1 none 0 := ⟨⟨minst_X6_clears, msel_X6_clears, mini_X6, mcode_X6_clears⟩, ⟨by decide, by decide, by decide +kernel⟩⟩
theorem mlX9_77 : tables_1[578]? = some (Cond.methodLink RX9 77 yX9_hasWhiteEnd) := by decide +kernel
theorem minst_X9_hasWhiteEnd : Cond.instanceMethod yX9_hasWhiteEnd ∈ bigW := bw_t 580 (by decide +kernel) rfl
theorem msel_X9_hasWhiteEnd : Cond.selects RX9 yX9_hasWhiteEnd yX9_hasWhiteEnd ∈ bigW := bw_s 46 (by decide +kernel) rfl
theorem mcode_X9_hasWhiteEnd : Cond.code yX9_hasWhiteEnd cX9_hasWhiteEnd 3 (some .boolean) ∈ bigW := bw_t 581 (by decide +kernel) rfl
theorem lkX9_77 : LkV RX9 77 RX9 yX9_hasWhiteEnd cX9_hasWhiteEnd 3 (some .boolean) 1 := ⟨⟨bw_t 578 mlX9_77 rfl, minst_X9_hasWhiteEnd, msel_X9_hasWhiteEnd, mini_X9, mcode_X9_hasWhiteEnd⟩, rfl, ⟨by decide, by decide, by decide +kernel⟩⟩
theorem mlX9_81 : tables_1[583]? = some (Cond.methodLink RX9 81 yX9_runsEnds) := by decide +kernel
theorem minst_X9_runsEnds : Cond.instanceMethod yX9_runsEnds ∈ bigW := bw_t 585 (by decide +kernel) rfl
theorem msel_X9_runsEnds : Cond.selects RX9 yX9_runsEnds yX9_runsEnds ∈ bigW := bw_s 47 (by decide +kernel) rfl
theorem mcode_X9_runsEnds : Cond.code yX9_runsEnds cX9_runsEnds 3 none ∈ bigW := bw_t 586 (by decide +kernel) rfl
theorem lkX9_81 : LkV RX9 81 RX9 yX9_runsEnds cX9_runsEnds 3 none 1 := ⟨⟨bw_t 583 mlX9_81 rfl, minst_X9_runsEnds, msel_X9_runsEnds, mini_X9, mcode_X9_runsEnds⟩, rfl, ⟨by decide, by decide, by decide +kernel⟩⟩
theorem mlX9_85 : tables_1[592]? = some (Cond.methodLink RX9 85 yX9_frees) := by decide +kernel
theorem minst_X9_frees : Cond.instanceMethod yX9_frees ∈ bigW := bw_t 594 (by decide +kernel) rfl
theorem msel_X9_frees : Cond.selects RX9 yX9_frees yX9_frees ∈ bigW := bw_s 48 (by decide +kernel) rfl
theorem mcode_X9_frees : Cond.code yX9_frees cX9_frees 3 none ∈ bigW := bw_t 595 (by decide +kernel) rfl
theorem lkX9_85 : LkV RX9 85 RX9 yX9_frees cX9_frees 3 none 1 := ⟨⟨bw_t 592 mlX9_85 rfl, minst_X9_frees, msel_X9_frees, mini_X9, mcode_X9_frees⟩, rfl, ⟨by decide, by decide, by decide +kernel⟩⟩
theorem mlX9_88 : tables_1[556]? = some (Cond.methodLink RX9 88 yX9_spreads) := by decide +kernel
theorem minst_X9_spreads : Cond.instanceMethod yX9_spreads ∈ bigW := bw_t 558 (by decide +kernel) rfl
theorem msel_X9_spreads : Cond.selects RX9 yX9_spreads yX9_spreads ∈ bigW := bw_s 41 (by decide +kernel) rfl
theorem mcode_X9_spreads : Cond.code yX9_spreads cX9_spreads 9 none ∈ bigW := bw_t 559 (by decide +kernel) rfl
theorem lkX9_88 : LkV RX9 88 RX9 yX9_spreads cX9_spreads 9 none 4 := ⟨⟨bw_t 556 mlX9_88 rfl, minst_X9_spreads, msel_X9_spreads, mini_X9, mcode_X9_spreads⟩, rfl, ⟨by decide, by decide, by decide +kernel⟩⟩
theorem mlX9_92 : tables_1[560]? = some (Cond.methodLink RX9 92 yX9_paints) := by decide +kernel
theorem minst_X9_paints : Cond.instanceMethod yX9_paints ∈ bigW := bw_t 562 (by decide +kernel) rfl
theorem msel_X9_paints : Cond.selects RX9 yX9_paints yX9_paints ∈ bigW := bw_s 42 (by decide +kernel) rfl
theorem mcode_X9_paints : Cond.code yX9_paints cX9_paints 3 none ∈ bigW := bw_t 563 (by decide +kernel) rfl
theorem lkX9_92 : LkV RX9 92 RX9 yX9_paints cX9_paints 3 none 2 := ⟨⟨bw_t 560 mlX9_92 rfl, minst_X9_paints, msel_X9_paints, mini_X9, mcode_X9_paints⟩, rfl, ⟨by decide, by decide, by decide +kernel⟩⟩
theorem mlX9_96 : tables_1[564]? = some (Cond.methodLinkNest RX9 96 yX3_fieldAt "CountedHeap") := by decide +kernel
theorem lkX9_96 : LkN RX3 yX3_fieldAt cX3_fieldAt 3 (some .int) 2 := ⟨⟨minst_X3_fieldAt, msel_X3_fieldAt, mini_X3, mcode_X3_fieldAt⟩, ⟨by decide, by decide, by decide +kernel⟩⟩
theorem mlX9_103 : tables_1[569]? = some (Cond.methodLink RX9 103 yX9_looksAt) := by decide +kernel
theorem minst_X9_looksAt : Cond.instanceMethod yX9_looksAt ∈ bigW := bw_t 571 (by decide +kernel) rfl
theorem msel_X9_looksAt : Cond.selects RX9 yX9_looksAt yX9_looksAt ∈ bigW := bw_s 44 (by decide +kernel) rfl
theorem mcode_X9_looksAt : Cond.code yX9_looksAt cX9_looksAt 3 none ∈ bigW := bw_t 572 (by decide +kernel) rfl
theorem lkX9_103 : LkV RX9 103 RX9 yX9_looksAt cX9_looksAt 3 none 2 := ⟨⟨bw_t 569 mlX9_103 rfl, minst_X9_looksAt, msel_X9_looksAt, mini_X9, mcode_X9_looksAt⟩, rfl, ⟨by decide, by decide, by decide +kernel⟩⟩
theorem mlX9_107 : tables_1[582]? = some (Cond.methodLinkNest RX9 107 yX3_hasEndToRun "CountedHeap") := by decide +kernel
theorem lkX9_107 : LkN RX3 yX3_hasEndToRun cX3_hasEndToRun 2 (some .boolean) 1 := ⟨⟨minst_X3_hasEndToRun, msel_X3_hasEndToRun, mini_X3, mcode_X3_hasEndToRun⟩, ⟨by decide, by decide, by decide +kernel⟩⟩
theorem mlX9_115 : tables_1[596]? = some (Cond.methodLinkNest RX9 115 yX4_adds "CountedHeap") := by decide +kernel
theorem lkX9_115 : LkN RX4 yX4_adds cX4_adds 4 none 2 := ⟨⟨minst_X4_adds, msel_X4_adds, mini_X4, mcode_X4_adds⟩, ⟨by decide, by decide, by decide +kernel⟩⟩
theorem mlX9_120 : tables_1[597]? = some (Cond.methodLinkNest RX9 120 yX3_empties "CountedHeap") := by decide +kernel
theorem lkX9_120 : LkN RX3 yX3_empties cX3_empties 3 none 1 := ⟨⟨minst_X3_empties, msel_X3_empties, mini_X3, mcode_X3_empties⟩, ⟨by decide, by decide, by decide +kernel⟩⟩
theorem mlX9_124 : tables_1[598]? = some (Cond.methodLinkNest RX9 124 yX3_loses "CountedHeap") := by decide +kernel
theorem lkX9_124 : LkN RX3 yX3_loses cX3_loses 3 none 1 := ⟨⟨minst_X3_loses, msel_X3_loses, mini_X3, mcode_X3_loses⟩, ⟨by decide, by decide, by decide +kernel⟩⟩
theorem mlX9_127 : tables_1[587]? = some (Cond.methodLinkNest RX9 127 yX2_runsEnd "CountedHeap") := by decide +kernel
theorem lkX9_127 : LkN RX2 yX2_runsEnd cX2_runsEnd 5 (some .int) 2 := ⟨⟨minst_X2_runsEnd, msel_X2_runsEnd, mini_X2, mcode_X2_runsEnd⟩, ⟨by decide, by decide, by decide +kernel⟩⟩
theorem mlX9_133 : tables_1[588]? = some (Cond.methodLinkNest RX9 133 yX2_countsDown "CountedHeap") := by decide +kernel
theorem lkX9_133 : LkN RX2 yX2_countsDown cX2_countsDown 5 none 2 := ⟨⟨minst_X2_countsDown, msel_X2_countsDown, mini_X2, mcode_X2_countsDown⟩, ⟨by decide, by decide, by decide +kernel⟩⟩
theorem mlX9_136 : tables_1[589]? = some (Cond.methodLinkNest RX9 136 yX3_has "CountedHeap") := by decide +kernel
theorem lkX9_136 : LkN RX3 yX3_has cX3_has 2 (some .boolean) 1 := ⟨⟨minst_X3_has, msel_X3_has, mini_X3, mcode_X3_has⟩, ⟨by decide, by decide, by decide +kernel⟩⟩
theorem mlX9_148 : tables_1[591]? = some (Cond.methodLinkNest RX9 148 yX6_means "CountedHeap") := by decide +kernel
theorem lkX9_148 : LkN RX6 yX6_means cX6_means 2 none 1 := ⟨⟨minst_X6_means, msel_X6_means, mini_X6, mcode_X6_means⟩, ⟨by decide, by decide, by decide +kernel⟩⟩
theorem mlX10_15 : tables_1[439]? = some (Cond.methodLinkNest RX10 15 yX3_rootBits "CountedHeap") := by decide +kernel
theorem lkX10_15 : LkN RX3 yX3_rootBits cX3_rootBits 4 (some .int) 1 := ⟨⟨minst_X3_rootBits, msel_X3_rootBits, mini_X3, mcode_X3_rootBits⟩, ⟨by decide, by decide, by decide +kernel⟩⟩
theorem mlX10_21 : tables_1[443]? = some (Cond.methodLink RX10 21 yX10_spreads) := by decide +kernel
theorem lkX10_21 : LkV RX10 21 RX10 yX10_spreads cX10_spreads 9 (some .int) 3 := ⟨⟨bw_t 443 mlX10_21 rfl, minst_X10_spreads, msel_X10_spreads, mini_X10, mcode_X10_spreads⟩, rfl, ⟨by decide, by decide, by decide +kernel⟩⟩
theorem mlX10_25 : tables_1[725]? = some (Cond.methodLink RX10 25 yX10_reached) := by decide +kernel
theorem lkX10_25 : LkV RX10 25 RX10 yX10_reached cX10_reached 2 (some .int) 1 := ⟨⟨bw_t 725 mlX10_25 rfl, minst_X10_reached, msel_X10_reached, mini_X10, mcode_X10_reached⟩, rfl, ⟨by decide, by decide, by decide +kernel⟩⟩
theorem mlX10_34 : tables_1[453]? = some (Cond.methodLinkNest RX10 34 yX3_fieldBits "CountedHeap") := by decide +kernel
theorem lkX10_34 : LkN RX3 yX3_fieldBits cX3_fieldBits 5 (some .int) 1 := ⟨⟨minst_X3_fieldBits, msel_X3_fieldBits, mini_X3, mcode_X3_fieldBits⟩, ⟨by decide, by decide, by decide +kernel⟩⟩
theorem mlX12_25 : tables_1[1423]? = some (Cond.methodLink RX12 25 yJ0_length_8abf5) := by decide +kernel
theorem minst_J0_length_8abf5 : Cond.instanceMethod yJ0_length_8abf5 ∈ bigW := bw_t 1424 (by decide +kernel) rfl
theorem msel_J0_length_8abf5 : Cond.selects RJ0 yJ0_length_8abf5 yJ0_length_8abf5 ∈ bigW := bw_t 1425 (by decide +kernel) rfl
theorem mini_J0 : Cond.initialized RJ0 ∈ bigW := bw_t 22 (by decide +kernel) rfl
theorem mcode_J0_length_8abf5 : Cond.code yJ0_length_8abf5 cJ0_length_8abf5 1 (some .int) ∈ bigW := bw_t 1426 (by decide +kernel) rfl
theorem lkX12_25 : LkV RX12 25 RJ0 yJ0_length_8abf5 cJ0_length_8abf5 1 (some .int) 0 := ⟨⟨bw_t 1423 mlX12_25 rfl, minst_J0_length_8abf5, msel_J0_length_8abf5, mini_J0, mcode_J0_length_8abf5⟩, rfl, ⟨by decide, by decide, by decide +kernel⟩⟩
theorem mlX12_37 : tables_1[1433]? = some (Cond.methodLink RX12 37 yJ0_charAt_5068e) := by decide +kernel
theorem minst_J0_charAt_5068e : Cond.instanceMethod yJ0_charAt_5068e ∈ bigW := bw_t 1434 (by decide +kernel) rfl
theorem msel_J0_charAt_5068e : Cond.selects RJ0 yJ0_charAt_5068e yJ0_charAt_5068e ∈ bigW := bw_t 1435 (by decide +kernel) rfl
theorem mcode_J0_charAt_5068e : Cond.code yJ0_charAt_5068e cJ0_charAt_5068e 2 (some .char) ∈ bigW := bw_t 1436 (by decide +kernel) rfl
theorem lkX12_37 : LkV RX12 37 RJ0 yJ0_charAt_5068e cJ0_charAt_5068e 2 (some .char) 1 := ⟨⟨bw_t 1433 mlX12_37 rfl, minst_J0_charAt_5068e, msel_J0_charAt_5068e, mini_J0, mcode_J0_charAt_5068e⟩, rfl, ⟨by decide, by decide, by decide +kernel⟩⟩
theorem mlX12_43 : tables_1[1419]? = some (Cond.methodLink RX12 43 yX12_takesOf) := by decide +kernel
theorem minst_X12_takesOf : Cond.instanceMethod yX12_takesOf ∈ bigW := bw_t 1421 (by decide +kernel) rfl
theorem msel_X12_takesOf : Cond.selects RX12 yX12_takesOf yX12_takesOf ∈ bigW := bw_s 143 (by decide +kernel) rfl
theorem mcode_X12_takesOf : Cond.code yX12_takesOf cX12_takesOf 3 (some .int) ∈ bigW := bw_t 1422 (by decide +kernel) rfl
theorem lkX12_43 : LkV RX12 43 RX12 yX12_takesOf cX12_takesOf 3 (some .int) 1 := ⟨⟨bw_t 1419 mlX12_43 rfl, minst_X12_takesOf, msel_X12_takesOf, mini_X12, mcode_X12_takesOf⟩, rfl, ⟨by decide, by decide, by decide +kernel⟩⟩
theorem mlX12_81 : tables_1[1068]? = some (Cond.methodLink RX12 81 yX12_copies) := by decide +kernel
theorem minst_X12_copies : Cond.instanceMethod yX12_copies ∈ bigW := bw_t 1070 (by decide +kernel) rfl
theorem msel_X12_copies : Cond.selects RX12 yX12_copies yX12_copies ∈ bigW := bw_s 85 (by decide +kernel) rfl
theorem mcode_X12_copies : Cond.code yX12_copies cX12_copies 4 none ∈ bigW := bw_t 1071 (by decide +kernel) rfl
theorem lkX12_81 : LkV RX12 81 RX12 yX12_copies cX12_copies 4 none 2 := ⟨⟨bw_t 1068 mlX12_81 rfl, minst_X12_copies, msel_X12_copies, mini_X12, mcode_X12_copies⟩, rfl, ⟨by decide, by decide, by decide +kernel⟩⟩
theorem mlX12_91 : tables_1[1084]? = some (Cond.methodLink RX12 91 yX12_of) := by decide +kernel
theorem minst_X12_of : Cond.instanceMethod yX12_of ∈ bigW := bw_t 1086 (by decide +kernel) rfl
theorem msel_X12_of : Cond.selects RX12 yX12_of yX12_of ∈ bigW := bw_s 87 (by decide +kernel) rfl
theorem mcode_X12_of : Cond.code yX12_of cX12_of 3 (some .int) ∈ bigW := bw_t 1087 (by decide +kernel) rfl
theorem lkX12_91 : LkV RX12 91 RX12 yX12_of cX12_of 3 (some .int) 2 := ⟨⟨bw_t 1084 mlX12_91 rfl, minst_X12_of, msel_X12_of, mini_X12, mcode_X12_of⟩, rfl, ⟨by decide, by decide, by decide +kernel⟩⟩
theorem mlX12_97 : tables_1[1120]? = some (Cond.methodLink RX12 97 yX12_listed) := by decide +kernel
theorem minst_X12_listed : Cond.instanceMethod yX12_listed ∈ bigW := bw_t 1122 (by decide +kernel) rfl
theorem msel_X12_listed : Cond.selects RX12 yX12_listed yX12_listed ∈ bigW := bw_s 96 (by decide +kernel) rfl
theorem mcode_X12_listed : Cond.code yX12_listed cX12_listed 1 (some .int) ∈ bigW := bw_t 1123 (by decide +kernel) rfl
theorem lkX12_97 : LkV RX12 97 RX12 yX12_listed cX12_listed 1 (some .int) 0 := ⟨⟨bw_t 1120 mlX12_97 rfl, minst_X12_listed, msel_X12_listed, mini_X12, mcode_X12_listed⟩, rfl, ⟨by decide, by decide, by decide +kernel⟩⟩
theorem mlX12_100 : tables_1[1124]? = some (Cond.methodLink RX12 100 yX12_onList) := by decide +kernel
theorem minst_X12_onList : Cond.instanceMethod yX12_onList ∈ bigW := bw_t 1126 (by decide +kernel) rfl
theorem msel_X12_onList : Cond.selects RX12 yX12_onList yX12_onList ∈ bigW := bw_s 97 (by decide +kernel) rfl
theorem mcode_X12_onList : Cond.code yX12_onList cX12_onList 2 (some .int) ∈ bigW := bw_t 1127 (by decide +kernel) rfl
theorem lkX12_100 : LkV RX12 100 RX12 yX12_onList cX12_onList 2 (some .int) 1 := ⟨⟨bw_t 1124 mlX12_100 rfl, minst_X12_onList, msel_X12_onList, mini_X12, mcode_X12_onList⟩, rfl, ⟨by decide, by decide, by decide +kernel⟩⟩
theorem mlX12_104 : tables_1[1088]? = some (Cond.methodLink RX12 104 yX12_puts) := by decide +kernel
theorem minst_X12_puts : Cond.instanceMethod yX12_puts ∈ bigW := bw_t 1090 (by decide +kernel) rfl
theorem msel_X12_puts : Cond.selects RX12 yX12_puts yX12_puts ∈ bigW := bw_s 88 (by decide +kernel) rfl
theorem mcode_X12_puts : Cond.code yX12_puts cX12_puts 4 none ∈ bigW := bw_t 1091 (by decide +kernel) rfl
theorem lkX12_104 : LkV RX12 104 RX12 yX12_puts cX12_puts 4 none 3 := ⟨⟨bw_t 1088 mlX12_104 rfl, minst_X12_puts, msel_X12_puts, mini_X12, mcode_X12_puts⟩, rfl, ⟨by decide, by decide, by decide +kernel⟩⟩
theorem mlX12_108 : tables_1[1116]? = some (Cond.methodLink RX12 108 yX12_placeOnList) := by decide +kernel
theorem minst_X12_placeOnList : Cond.instanceMethod yX12_placeOnList ∈ bigW := bw_t 1118 (by decide +kernel) rfl
theorem msel_X12_placeOnList : Cond.selects RX12 yX12_placeOnList yX12_placeOnList ∈ bigW := bw_s 95 (by decide +kernel) rfl
theorem mcode_X12_placeOnList : Cond.code yX12_placeOnList cX12_placeOnList 3 (some .int) ∈ bigW := bw_t 1119 (by decide +kernel) rfl
theorem lkX12_108 : LkV RX12 108 RX12 yX12_placeOnList cX12_placeOnList 3 (some .int) 1 := ⟨⟨bw_t 1116 mlX12_108 rfl, minst_X12_placeOnList, msel_X12_placeOnList, mini_X12, mcode_X12_placeOnList⟩, rfl, ⟨by decide, by decide, by decide +kernel⟩⟩
theorem mlX12_111 : tables_1[1112]? = some (Cond.methodLink RX12 111 yX12_isSuspect) := by decide +kernel
theorem minst_X12_isSuspect : Cond.instanceMethod yX12_isSuspect ∈ bigW := bw_t 1114 (by decide +kernel) rfl
theorem msel_X12_isSuspect : Cond.selects RX12 yX12_isSuspect yX12_isSuspect ∈ bigW := bw_s 94 (by decide +kernel) rfl
theorem mcode_X12_isSuspect : Cond.code yX12_isSuspect cX12_isSuspect 2 none ∈ bigW := bw_t 1115 (by decide +kernel) rfl
theorem lkX12_111 : LkV RX12 111 RX12 yX12_isSuspect cX12_isSuspect 2 none 1 := ⟨⟨bw_t 1112 mlX12_111 rfl, minst_X12_isSuspect, msel_X12_isSuspect, mini_X12, mcode_X12_isSuspect⟩, rfl, ⟨by decide, by decide, by decide +kernel⟩⟩
theorem mlX12_115 : tables_1[1128]? = some (Cond.methodLink RX12 115 yX12_goesOffList) := by decide +kernel
theorem minst_X12_goesOffList : Cond.instanceMethod yX12_goesOffList ∈ bigW := bw_t 1130 (by decide +kernel) rfl
theorem msel_X12_goesOffList : Cond.selects RX12 yX12_goesOffList yX12_goesOffList ∈ bigW := bw_s 98 (by decide +kernel) rfl
theorem mcode_X12_goesOffList : Cond.code yX12_goesOffList cX12_goesOffList 3 none ∈ bigW := bw_t 1131 (by decide +kernel) rfl
theorem lkX12_115 : LkV RX12 115 RX12 yX12_goesOffList cX12_goesOffList 3 none 1 := ⟨⟨bw_t 1128 mlX12_115 rfl, minst_X12_goesOffList, msel_X12_goesOffList, mini_X12, mcode_X12_goesOffList⟩, rfl, ⟨by decide, by decide, by decide +kernel⟩⟩
theorem mlX12_118 : tables_1[1132]? = some (Cond.methodLink RX12 118 yX12_runsEnd) := by decide +kernel
theorem minst_X12_runsEnd : Cond.instanceMethod yX12_runsEnd ∈ bigW := bw_t 1134 (by decide +kernel) rfl
theorem msel_X12_runsEnd : Cond.selects RX12 yX12_runsEnd yX12_runsEnd ∈ bigW := bw_s 99 (by decide +kernel) rfl
theorem mcode_X12_runsEnd : Cond.code yX12_runsEnd cX12_runsEnd 2 (some .boolean) ∈ bigW := bw_t 1135 (by decide +kernel) rfl
theorem lkX12_118 : LkV RX12 118 RX12 yX12_runsEnd cX12_runsEnd 2 (some .boolean) 1 := ⟨⟨bw_t 1132 mlX12_118 rfl, minst_X12_runsEnd, msel_X12_runsEnd, mini_X12, mcode_X12_runsEnd⟩, rfl, ⟨by decide, by decide, by decide +kernel⟩⟩
theorem mlX12_122 : tables_1[1136]? = some (Cond.methodLink RX12 122 yX12_isFreed) := by decide +kernel
theorem minst_X12_isFreed : Cond.instanceMethod yX12_isFreed ∈ bigW := bw_t 1138 (by decide +kernel) rfl
theorem msel_X12_isFreed : Cond.selects RX12 yX12_isFreed yX12_isFreed ∈ bigW := bw_s 100 (by decide +kernel) rfl
theorem mcode_X12_isFreed : Cond.code yX12_isFreed cX12_isFreed 3 none ∈ bigW := bw_t 1139 (by decide +kernel) rfl
theorem lkX12_122 : LkV RX12 122 RX12 yX12_isFreed cX12_isFreed 3 none 1 := ⟨⟨bw_t 1136 mlX12_122 rfl, minst_X12_isFreed, msel_X12_isFreed, mini_X12, mcode_X12_isFreed⟩, rfl, ⟨by decide, by decide, by decide +kernel⟩⟩
theorem mlX12_125 : tables_1[1092]? = some (Cond.methodLink RX12 125 yX12_logs) := by decide +kernel
theorem minst_X12_logs : Cond.instanceMethod yX12_logs ∈ bigW := bw_t 1094 (by decide +kernel) rfl
theorem msel_X12_logs : Cond.selects RX12 yX12_logs yX12_logs ∈ bigW := bw_s 89 (by decide +kernel) rfl
theorem mcode_X12_logs : Cond.code yX12_logs cX12_logs 4 none ∈ bigW := bw_t 1095 (by decide +kernel) rfl
theorem lkX12_125 : LkV RX12 125 RX12 yX12_logs cX12_logs 4 none 2 := ⟨⟨bw_t 1092 mlX12_125 rfl, minst_X12_logs, msel_X12_logs, mini_X12, mcode_X12_logs⟩, rfl, ⟨by decide, by decide, by decide +kernel⟩⟩
theorem mlX12_128 : tables_1[1096]? = some (Cond.methodLink RX12 128 yX12_laysRoot) := by decide +kernel
theorem minst_X12_laysRoot : Cond.instanceMethod yX12_laysRoot ∈ bigW := bw_t 1098 (by decide +kernel) rfl
theorem msel_X12_laysRoot : Cond.selects RX12 yX12_laysRoot yX12_laysRoot ∈ bigW := bw_s 90 (by decide +kernel) rfl
theorem mcode_X12_laysRoot : Cond.code yX12_laysRoot cX12_laysRoot 4 none ∈ bigW := bw_t 1099 (by decide +kernel) rfl
theorem lkX12_128 : LkV RX12 128 RX12 yX12_laysRoot cX12_laysRoot 4 none 2 := ⟨⟨bw_t 1096 mlX12_128 rfl, minst_X12_laysRoot, msel_X12_laysRoot, mini_X12, mcode_X12_laysRoot⟩, rfl, ⟨by decide, by decide, by decide +kernel⟩⟩
theorem mlX12_131 : tables_1[1100]? = some (Cond.methodLink RX12 131 yX12_rootOf) := by decide +kernel
theorem minst_X12_rootOf : Cond.instanceMethod yX12_rootOf ∈ bigW := bw_t 1102 (by decide +kernel) rfl
theorem msel_X12_rootOf : Cond.selects RX12 yX12_rootOf yX12_rootOf ∈ bigW := bw_s 91 (by decide +kernel) rfl
theorem mcode_X12_rootOf : Cond.code yX12_rootOf cX12_rootOf 2 (some .int) ∈ bigW := bw_t 1103 (by decide +kernel) rfl
theorem lkX12_131 : LkV RX12 131 RX12 yX12_rootOf cX12_rootOf 2 (some .int) 1 := ⟨⟨bw_t 1100 mlX12_131 rfl, minst_X12_rootOf, msel_X12_rootOf, mini_X12, mcode_X12_rootOf⟩, rfl, ⟨by decide, by decide, by decide +kernel⟩⟩
theorem mlX12_134 : tables_1[1104]? = some (Cond.methodLink RX12 134 yX12_countsUp) := by decide +kernel
theorem minst_X12_countsUp : Cond.instanceMethod yX12_countsUp ∈ bigW := bw_t 1106 (by decide +kernel) rfl
theorem msel_X12_countsUp : Cond.selects RX12 yX12_countsUp yX12_countsUp ∈ bigW := bw_s 92 (by decide +kernel) rfl
theorem mcode_X12_countsUp : Cond.code yX12_countsUp cX12_countsUp 2 none ∈ bigW := bw_t 1107 (by decide +kernel) rfl
theorem lkX12_134 : LkV RX12 134 RX12 yX12_countsUp cX12_countsUp 2 none 1 := ⟨⟨bw_t 1104 mlX12_134 rfl, minst_X12_countsUp, msel_X12_countsUp, mini_X12, mcode_X12_countsUp⟩, rfl, ⟨by decide, by decide, by decide +kernel⟩⟩
theorem mlX12_137 : tables_1[1108]? = some (Cond.methodLink RX12 137 yX12_countsDown) := by decide +kernel
theorem minst_X12_countsDown : Cond.instanceMethod yX12_countsDown ∈ bigW := bw_t 1110 (by decide +kernel) rfl
theorem msel_X12_countsDown : Cond.selects RX12 yX12_countsDown yX12_countsDown ∈ bigW := bw_s 93 (by decide +kernel) rfl
theorem mcode_X12_countsDown : Cond.code yX12_countsDown cX12_countsDown 3 none ∈ bigW := bw_t 1111 (by decide +kernel) rfl
theorem lkX12_137 : LkV RX12 137 RX12 yX12_countsDown cX12_countsDown 3 none 1 := ⟨⟨bw_t 1108 mlX12_137 rfl, minst_X12_countsDown, msel_X12_countsDown, mini_X12, mcode_X12_countsDown⟩, rfl, ⟨by decide, by decide, by decide +kernel⟩⟩
theorem mlX12_140 : tables_1[1144]? = some (Cond.methodLink RX12 140 yX12_fieldOf) := by decide +kernel
theorem minst_X12_fieldOf : Cond.instanceMethod yX12_fieldOf ∈ bigW := bw_t 1146 (by decide +kernel) rfl
theorem msel_X12_fieldOf : Cond.selects RX12 yX12_fieldOf yX12_fieldOf ∈ bigW := bw_s 102 (by decide +kernel) rfl
theorem mcode_X12_fieldOf : Cond.code yX12_fieldOf cX12_fieldOf 3 (some .int) ∈ bigW := bw_t 1147 (by decide +kernel) rfl
theorem lkX12_140 : LkV RX12 140 RX12 yX12_fieldOf cX12_fieldOf 3 (some .int) 2 := ⟨⟨bw_t 1144 mlX12_140 rfl, minst_X12_fieldOf, msel_X12_fieldOf, mini_X12, mcode_X12_fieldOf⟩, rfl, ⟨by decide, by decide, by decide +kernel⟩⟩
theorem mlX12_143 : tables_1[1152]? = some (Cond.methodLink RX12 143 yX12_weakOf) := by decide +kernel
theorem minst_X12_weakOf : Cond.instanceMethod yX12_weakOf ∈ bigW := bw_t 1154 (by decide +kernel) rfl
theorem msel_X12_weakOf : Cond.selects RX12 yX12_weakOf yX12_weakOf ∈ bigW := bw_s 104 (by decide +kernel) rfl
theorem mcode_X12_weakOf : Cond.code yX12_weakOf cX12_weakOf 2 (some .int) ∈ bigW := bw_t 1155 (by decide +kernel) rfl
theorem lkX12_143 : LkV RX12 143 RX12 yX12_weakOf cX12_weakOf 2 (some .int) 1 := ⟨⟨bw_t 1152 mlX12_143 rfl, minst_X12_weakOf, msel_X12_weakOf, mini_X12, mcode_X12_weakOf⟩, rfl, ⟨by decide, by decide, by decide +kernel⟩⟩
theorem mlX12_146 : tables_1[1140]? = some (Cond.methodLink RX12 146 yX12_laysField) := by decide +kernel
theorem minst_X12_laysField : Cond.instanceMethod yX12_laysField ∈ bigW := bw_t 1142 (by decide +kernel) rfl
theorem msel_X12_laysField : Cond.selects RX12 yX12_laysField yX12_laysField ∈ bigW := bw_s 101 (by decide +kernel) rfl
theorem mcode_X12_laysField : Cond.code yX12_laysField cX12_laysField 5 none ∈ bigW := bw_t 1143 (by decide +kernel) rfl
theorem lkX12_146 : LkV RX12 146 RX12 yX12_laysField cX12_laysField 5 none 3 := ⟨⟨bw_t 1140 mlX12_146 rfl, minst_X12_laysField, msel_X12_laysField, mini_X12, mcode_X12_laysField⟩, rfl, ⟨by decide, by decide, by decide +kernel⟩⟩
theorem mlX12_149 : tables_1[1148]? = some (Cond.methodLink RX12 149 yX12_clearsWeak) := by decide +kernel
theorem minst_X12_clearsWeak : Cond.instanceMethod yX12_clearsWeak ∈ bigW := bw_t 1150 (by decide +kernel) rfl
theorem msel_X12_clearsWeak : Cond.selects RX12 yX12_clearsWeak yX12_clearsWeak ∈ bigW := bw_s 103 (by decide +kernel) rfl
theorem mcode_X12_clearsWeak : Cond.code yX12_clearsWeak cX12_clearsWeak 3 none ∈ bigW := bw_t 1151 (by decide +kernel) rfl
theorem lkX12_149 : LkV RX12 149 RX12 yX12_clearsWeak cX12_clearsWeak 3 none 1 := ⟨⟨bw_t 1148 mlX12_149 rfl, minst_X12_clearsWeak, msel_X12_clearsWeak, mini_X12, mcode_X12_clearsWeak⟩, rfl, ⟨by decide, by decide, by decide +kernel⟩⟩
theorem mlX12_155 : tables_1[1168]? = some (Cond.methodLink RX12 155 yX12_becomes) := by decide +kernel
theorem minst_X12_becomes : Cond.instanceMethod yX12_becomes ∈ bigW := bw_t 1170 (by decide +kernel) rfl
theorem msel_X12_becomes : Cond.selects RX12 yX12_becomes yX12_becomes ∈ bigW := bw_s 108 (by decide +kernel) rfl
theorem mcode_X12_becomes : Cond.code yX12_becomes cX12_becomes 3 none ∈ bigW := bw_t 1171 (by decide +kernel) rfl
theorem lkX12_155 : LkV RX12 155 RX12 yX12_becomes cX12_becomes 3 none 2 := ⟨⟨bw_t 1168 mlX12_155 rfl, minst_X12_becomes, msel_X12_becomes, mini_X12, mcode_X12_becomes⟩, rfl, ⟨by decide, by decide, by decide +kernel⟩⟩
theorem mlX12_158 : tables_1[1164]? = some (Cond.methodLink RX12 158 yX12_grays) := by decide +kernel
theorem minst_X12_grays : Cond.instanceMethod yX12_grays ∈ bigW := bw_t 1166 (by decide +kernel) rfl
theorem msel_X12_grays : Cond.selects RX12 yX12_grays yX12_grays ∈ bigW := bw_s 107 (by decide +kernel) rfl
theorem mcode_X12_grays : Cond.code yX12_grays cX12_grays 4 none ∈ bigW := bw_t 1167 (by decide +kernel) rfl
theorem lkX12_158 : LkV RX12 158 RX12 yX12_grays cX12_grays 4 none 1 := ⟨⟨bw_t 1164 mlX12_158 rfl, minst_X12_grays, msel_X12_grays, mini_X12, mcode_X12_grays⟩, rfl, ⟨by decide, by decide, by decide +kernel⟩⟩
theorem mlX12_161 : tables_1[1176]? = some (Cond.methodLink RX12 161 yX12_givesBack) := by decide +kernel
theorem minst_X12_givesBack : Cond.instanceMethod yX12_givesBack ∈ bigW := bw_t 1178 (by decide +kernel) rfl
theorem msel_X12_givesBack : Cond.selects RX12 yX12_givesBack yX12_givesBack ∈ bigW := bw_s 110 (by decide +kernel) rfl
theorem mcode_X12_givesBack : Cond.code yX12_givesBack cX12_givesBack 4 none ∈ bigW := bw_t 1179 (by decide +kernel) rfl
theorem lkX12_161 : LkV RX12 161 RX12 yX12_givesBack cX12_givesBack 4 none 1 := ⟨⟨bw_t 1176 mlX12_161 rfl, minst_X12_givesBack, msel_X12_givesBack, mini_X12, mcode_X12_givesBack⟩, rfl, ⟨by decide, by decide, by decide +kernel⟩⟩
theorem mlX12_164 : tables_1[1172]? = some (Cond.methodLink RX12 164 yX12_looksThrough) := by decide +kernel
theorem minst_X12_looksThrough : Cond.instanceMethod yX12_looksThrough ∈ bigW := bw_t 1174 (by decide +kernel) rfl
theorem msel_X12_looksThrough : Cond.selects RX12 yX12_looksThrough yX12_looksThrough ∈ bigW := bw_s 109 (by decide +kernel) rfl
theorem mcode_X12_looksThrough : Cond.code yX12_looksThrough cX12_looksThrough 3 none ∈ bigW := bw_t 1175 (by decide +kernel) rfl
theorem lkX12_164 : LkV RX12 164 RX12 yX12_looksThrough cX12_looksThrough 3 none 1 := ⟨⟨bw_t 1172 mlX12_164 rfl, minst_X12_looksThrough, msel_X12_looksThrough, mini_X12, mcode_X12_looksThrough⟩, rfl, ⟨by decide, by decide, by decide +kernel⟩⟩
theorem mlX12_175 : tables_1[1194]? = some (Cond.methodLink RX12 175 yX12_hasEnd) := by decide +kernel
theorem minst_X12_hasEnd : Cond.instanceMethod yX12_hasEnd ∈ bigW := bw_t 1196 (by decide +kernel) rfl
theorem msel_X12_hasEnd : Cond.selects RX12 yX12_hasEnd yX12_hasEnd ∈ bigW := bw_s 113 (by decide +kernel) rfl
theorem mcode_X12_hasEnd : Cond.code yX12_hasEnd cX12_hasEnd 2 (some .boolean) ∈ bigW := bw_t 1197 (by decide +kernel) rfl
theorem lkX12_175 : LkV RX12 175 RX12 yX12_hasEnd cX12_hasEnd 2 (some .boolean) 1 := ⟨⟨bw_t 1194 mlX12_175 rfl, minst_X12_hasEnd, msel_X12_hasEnd, mini_X12, mcode_X12_hasEnd⟩, rfl, ⟨by decide, by decide, by decide +kernel⟩⟩
theorem mlX12_178 : tables_1[1180]? = some (Cond.methodLink RX12 178 yX12_whites) := by decide +kernel
theorem minst_X12_whites : Cond.instanceMethod yX12_whites ∈ bigW := bw_t 1182 (by decide +kernel) rfl
theorem msel_X12_whites : Cond.selects RX12 yX12_whites yX12_whites ∈ bigW := bw_s 111 (by decide +kernel) rfl
theorem mcode_X12_whites : Cond.code yX12_whites cX12_whites 3 (some .int) ∈ bigW := bw_t 1183 (by decide +kernel) rfl
theorem lkX12_178 : LkV RX12 178 RX12 yX12_whites cX12_whites 3 (some .int) 0 := ⟨⟨bw_t 1180 mlX12_178 rfl, minst_X12_whites, msel_X12_whites, mini_X12, mcode_X12_whites⟩, rfl, ⟨by decide, by decide, by decide +kernel⟩⟩
theorem mlX12_181 : tables_1[1187]? = some (Cond.methodLink RX12 181 yX12_withEnds) := by decide +kernel
theorem minst_X12_withEnds : Cond.instanceMethod yX12_withEnds ∈ bigW := bw_t 1189 (by decide +kernel) rfl
theorem msel_X12_withEnds : Cond.selects RX12 yX12_withEnds yX12_withEnds ∈ bigW := bw_s 112 (by decide +kernel) rfl
theorem mcode_X12_withEnds : Cond.code yX12_withEnds cX12_withEnds 4 (some .int) ∈ bigW := bw_t 1190 (by decide +kernel) rfl
theorem lkX12_181 : LkV RX12 181 RX12 yX12_withEnds cX12_withEnds 4 (some .int) 1 := ⟨⟨bw_t 1187 mlX12_181 rfl, minst_X12_withEnds, msel_X12_withEnds, mini_X12, mcode_X12_withEnds⟩, rfl, ⟨by decide, by decide, by decide +kernel⟩⟩
theorem mlX12_184 : tables_1[1198]? = some (Cond.methodLink RX12 184 yX12_freesAll) := by decide +kernel
theorem minst_X12_freesAll : Cond.instanceMethod yX12_freesAll ∈ bigW := bw_t 1200 (by decide +kernel) rfl
theorem msel_X12_freesAll : Cond.selects RX12 yX12_freesAll yX12_freesAll ∈ bigW := bw_s 114 (by decide +kernel) rfl
theorem mcode_X12_freesAll : Cond.code yX12_freesAll cX12_freesAll 3 none ∈ bigW := bw_t 1201 (by decide +kernel) rfl
theorem lkX12_184 : LkV RX12 184 RX12 yX12_freesAll cX12_freesAll 3 none 1 := ⟨⟨bw_t 1198 mlX12_184 rfl, minst_X12_freesAll, msel_X12_freesAll, mini_X12, mcode_X12_freesAll⟩, rfl, ⟨by decide, by decide, by decide +kernel⟩⟩
theorem mlX12_187 : tables_1[1202]? = some (Cond.methodLink RX12 187 yX12_runsEnds) := by decide +kernel
theorem minst_X12_runsEnds : Cond.instanceMethod yX12_runsEnds ∈ bigW := bw_t 1204 (by decide +kernel) rfl
theorem msel_X12_runsEnds : Cond.selects RX12 yX12_runsEnds yX12_runsEnds ∈ bigW := bw_s 115 (by decide +kernel) rfl
theorem mcode_X12_runsEnds : Cond.code yX12_runsEnds cX12_runsEnds 3 none ∈ bigW := bw_t 1205 (by decide +kernel) rfl
theorem lkX12_187 : LkV RX12 187 RX12 yX12_runsEnds cX12_runsEnds 3 none 1 := ⟨⟨bw_t 1202 mlX12_187 rfl, minst_X12_runsEnds, msel_X12_runsEnds, mini_X12, mcode_X12_runsEnds⟩, rfl, ⟨by decide, by decide, by decide +kernel⟩⟩
theorem mlX12_190 : tables_1[1160]? = some (Cond.methodLink RX12 190 yX12_runsTrial) := by decide +kernel
theorem minst_X12_runsTrial : Cond.instanceMethod yX12_runsTrial ∈ bigW := bw_t 1162 (by decide +kernel) rfl
theorem msel_X12_runsTrial : Cond.selects RX12 yX12_runsTrial yX12_runsTrial ∈ bigW := bw_s 106 (by decide +kernel) rfl
theorem mcode_X12_runsTrial : Cond.code yX12_runsTrial cX12_runsTrial 3 none ∈ bigW := bw_t 1163 (by decide +kernel) rfl
theorem lkX12_190 : LkV RX12 190 RX12 yX12_runsTrial cX12_runsTrial 3 none 0 := ⟨⟨bw_t 1160 mlX12_190 rfl, minst_X12_runsTrial, msel_X12_runsTrial, mini_X12, mcode_X12_runsTrial⟩, rfl, ⟨by decide, by decide, by decide +kernel⟩⟩
theorem mlX12_193 : tables_1[1251]? = some (Cond.methodLink RX12 193 yX12_next) := by decide +kernel
theorem minst_X12_next : Cond.instanceMethod yX12_next ∈ bigW := bw_t 1253 (by decide +kernel) rfl
theorem msel_X12_next : Cond.selects RX12 yX12_next yX12_next ∈ bigW := bw_s 126 (by decide +kernel) rfl
theorem mcode_X12_next : Cond.code yX12_next cX12_next 4 (some .int) ∈ bigW := bw_t 1254 (by decide +kernel) rfl
theorem lkX12_193 : LkV RX12 193 RX12 yX12_next cX12_next 4 (some .int) 1 := ⟨⟨bw_t 1251 mlX12_193 rfl, minst_X12_next, msel_X12_next, mini_X12, mcode_X12_next⟩, rfl, ⟨by decide, by decide, by decide +kernel⟩⟩
theorem mlX12_196 : tables_1[1243]? = some (Cond.methodLink RX12 196 yX12_inRoots) := by decide +kernel
theorem minst_X12_inRoots : Cond.instanceMethod yX12_inRoots ∈ bigW := bw_t 1245 (by decide +kernel) rfl
theorem msel_X12_inRoots : Cond.selects RX12 yX12_inRoots yX12_inRoots ∈ bigW := bw_s 124 (by decide +kernel) rfl
theorem mcode_X12_inRoots : Cond.code yX12_inRoots cX12_inRoots 4 (some .int) ∈ bigW := bw_t 1246 (by decide +kernel) rfl
theorem lkX12_196 : LkV RX12 196 RX12 yX12_inRoots cX12_inRoots 4 (some .int) 1 := ⟨⟨bw_t 1243 mlX12_196 rfl, minst_X12_inRoots, msel_X12_inRoots, mini_X12, mcode_X12_inRoots⟩, rfl, ⟨by decide, by decide, by decide +kernel⟩⟩
theorem mlX12_199 : tables_1[1247]? = some (Cond.methodLink RX12 199 yX12_reach) := by decide +kernel
theorem minst_X12_reach : Cond.instanceMethod yX12_reach ∈ bigW := bw_t 1249 (by decide +kernel) rfl
theorem msel_X12_reach : Cond.selects RX12 yX12_reach yX12_reach ∈ bigW := bw_s 125 (by decide +kernel) rfl
theorem mcode_X12_reach : Cond.code yX12_reach cX12_reach 6 (some .int) ∈ bigW := bw_t 1250 (by decide +kernel) rfl
theorem lkX12_199 : LkV RX12 199 RX12 yX12_reach cX12_reach 6 (some .int) 2 := ⟨⟨bw_t 1247 mlX12_199 rfl, minst_X12_reach, msel_X12_reach, mini_X12, mcode_X12_reach⟩, rfl, ⟨by decide, by decide, by decide +kernel⟩⟩
theorem mlX12_202 : tables_1[1239]? = some (Cond.methodLink RX12 202 yX12_reached) := by decide +kernel
theorem minst_X12_reached : Cond.instanceMethod yX12_reached ∈ bigW := bw_t 1241 (by decide +kernel) rfl
theorem msel_X12_reached : Cond.selects RX12 yX12_reached yX12_reached ∈ bigW := bw_s 123 (by decide +kernel) rfl
theorem mcode_X12_reached : Cond.code yX12_reached cX12_reached 1 (some .int) ∈ bigW := bw_t 1242 (by decide +kernel) rfl
theorem lkX12_202 : LkV RX12 202 RX12 yX12_reached cX12_reached 1 (some .int) 0 := ⟨⟨bw_t 1239 mlX12_202 rfl, minst_X12_reached, msel_X12_reached, mini_X12, mcode_X12_reached⟩, rfl, ⟨by decide, by decide, by decide +kernel⟩⟩
theorem mlX12_213 : tables_1[1156]? = some (Cond.methodLink RX12 213 yX12_isActed) := by decide +kernel
theorem minst_X12_isActed : Cond.instanceMethod yX12_isActed ∈ bigW := bw_t 1158 (by decide +kernel) rfl
theorem msel_X12_isActed : Cond.selects RX12 yX12_isActed yX12_isActed ∈ bigW := bw_s 105 (by decide +kernel) rfl
theorem mcode_X12_isActed : Cond.code yX12_isActed cX12_isActed 1 none ∈ bigW := bw_t 1159 (by decide +kernel) rfl
theorem lkX12_213 : LkV RX12 213 RX12 yX12_isActed cX12_isActed 1 none 0 := ⟨⟨bw_t 1156 mlX12_213 rfl, minst_X12_isActed, msel_X12_isActed, mini_X12, mcode_X12_isActed⟩, rfl, ⟨by decide, by decide, by decide +kernel⟩⟩
theorem mlX12_216 : tables_1[1226]? = some (Cond.methodLink RX12 216 yX12_isThere) := by decide +kernel
theorem minst_X12_isThere : Cond.instanceMethod yX12_isThere ∈ bigW := bw_t 1228 (by decide +kernel) rfl
theorem msel_X12_isThere : Cond.selects RX12 yX12_isThere yX12_isThere ∈ bigW := bw_s 120 (by decide +kernel) rfl
theorem mcode_X12_isThere : Cond.code yX12_isThere cX12_isThere 2 (some .boolean) ∈ bigW := bw_t 1229 (by decide +kernel) rfl
theorem lkX12_216 : LkV RX12 216 RX12 yX12_isThere cX12_isThere 2 (some .boolean) 1 := ⟨⟨bw_t 1226 mlX12_216 rfl, minst_X12_isThere, msel_X12_isThere, mini_X12, mcode_X12_isThere⟩, rfl, ⟨by decide, by decide, by decide +kernel⟩⟩
theorem mlX12_219 : tables_1[1231]? = some (Cond.methodLink RX12 219 yX12_isOther) := by decide +kernel
theorem minst_X12_isOther : Cond.instanceMethod yX12_isOther ∈ bigW := bw_t 1233 (by decide +kernel) rfl
theorem msel_X12_isOther : Cond.selects RX12 yX12_isOther yX12_isOther ∈ bigW := bw_s 121 (by decide +kernel) rfl
theorem mcode_X12_isOther : Cond.code yX12_isOther cX12_isOther 2 (some .boolean) ∈ bigW := bw_t 1234 (by decide +kernel) rfl
theorem lkX12_219 : LkV RX12 219 RX12 yX12_isOther cX12_isOther 2 (some .boolean) 1 := ⟨⟨bw_t 1231 mlX12_219 rfl, minst_X12_isOther, msel_X12_isOther, mini_X12, mcode_X12_isOther⟩, rfl, ⟨by decide, by decide, by decide +kernel⟩⟩
theorem mlX12_222 : tables_1[1235]? = some (Cond.methodLink RX12 222 yX12_isReached) := by decide +kernel
theorem minst_X12_isReached : Cond.instanceMethod yX12_isReached ∈ bigW := bw_t 1237 (by decide +kernel) rfl
theorem msel_X12_isReached : Cond.selects RX12 yX12_isReached yX12_isReached ∈ bigW := bw_s 122 (by decide +kernel) rfl
theorem mcode_X12_isReached : Cond.code yX12_isReached cX12_isReached 2 (some .boolean) ∈ bigW := bw_t 1238 (by decide +kernel) rfl
theorem lkX12_222 : LkV RX12 222 RX12 yX12_isReached cX12_isReached 2 (some .boolean) 1 := ⟨⟨bw_t 1235 mlX12_222 rfl, minst_X12_isReached, msel_X12_isReached, mini_X12, mcode_X12_isReached⟩, rfl, ⟨by decide, by decide, by decide +kernel⟩⟩
theorem mlX12_227 : tables_1[1299]? = some (Cond.methodLink RX12 227 yX12_freedMany) := by decide +kernel
theorem minst_X12_freedMany : Cond.instanceMethod yX12_freedMany ∈ bigW := bw_t 1301 (by decide +kernel) rfl
theorem msel_X12_freedMany : Cond.selects RX12 yX12_freedMany yX12_freedMany ∈ bigW := bw_s 133 (by decide +kernel) rfl
theorem mcode_X12_freedMany : Cond.code yX12_freedMany cX12_freedMany 1 (some .int) ∈ bigW := bw_t 1302 (by decide +kernel) rfl
theorem lkX12_227 : LkV RX12 227 RX12 yX12_freedMany cX12_freedMany 1 (some .int) 0 := ⟨⟨bw_t 1299 mlX12_227 rfl, minst_X12_freedMany, msel_X12_freedMany, mini_X12, mcode_X12_freedMany⟩, rfl, ⟨by decide, by decide, by decide +kernel⟩⟩
theorem mlX12_233 : tables_1[1259]? = some (Cond.methodLink RX12 233 yX12_thereAll) := by decide +kernel
theorem minst_X12_thereAll : Cond.instanceMethod yX12_thereAll ∈ bigW := bw_t 1261 (by decide +kernel) rfl
theorem msel_X12_thereAll : Cond.selects RX12 yX12_thereAll yX12_thereAll ∈ bigW := bw_s 128 (by decide +kernel) rfl
theorem mcode_X12_thereAll : Cond.code yX12_thereAll cX12_thereAll 3 (some .int) ∈ bigW := bw_t 1262 (by decide +kernel) rfl
theorem lkX12_233 : LkV RX12 233 RX12 yX12_thereAll cX12_thereAll 3 (some .int) 0 := ⟨⟨bw_t 1259 mlX12_233 rfl, minst_X12_thereAll, msel_X12_thereAll, mini_X12, mcode_X12_thereAll⟩, rfl, ⟨by decide, by decide, by decide +kernel⟩⟩
theorem mlX12_239 : tables_1[1206]? = some (Cond.methodLink RX12 239 yX12_enters) := by decide +kernel
theorem minst_X12_enters : Cond.instanceMethod yX12_enters ∈ bigW := bw_t 1208 (by decide +kernel) rfl
theorem msel_X12_enters : Cond.selects RX12 yX12_enters yX12_enters ∈ bigW := bw_s 116 (by decide +kernel) rfl
theorem mcode_X12_enters : Cond.code yX12_enters cX12_enters 3 none ∈ bigW := bw_t 1209 (by decide +kernel) rfl
theorem lkX12_239 : LkV RX12 239 RX12 yX12_enters cX12_enters 3 none 1 := ⟨⟨bw_t 1206 mlX12_239 rfl, minst_X12_enters, msel_X12_enters, mini_X12, mcode_X12_enters⟩, rfl, ⟨by decide, by decide, by decide +kernel⟩⟩
theorem mlX12_243 : tables_1[1214]? = some (Cond.methodLink RX12 243 yX12_lays) := by decide +kernel
theorem minst_X12_lays : Cond.instanceMethod yX12_lays ∈ bigW := bw_t 1216 (by decide +kernel) rfl
theorem msel_X12_lays : Cond.selects RX12 yX12_lays yX12_lays ∈ bigW := bw_s 118 (by decide +kernel) rfl
theorem mcode_X12_lays : Cond.code yX12_lays cX12_lays 2 none ∈ bigW := bw_t 1217 (by decide +kernel) rfl
theorem lkX12_243 : LkV RX12 243 RX12 yX12_lays cX12_lays 2 none 0 := ⟨⟨bw_t 1214 mlX12_243 rfl, minst_X12_lays, msel_X12_lays, mini_X12, mcode_X12_lays⟩, rfl, ⟨by decide, by decide, by decide +kernel⟩⟩
theorem mlX12_246 : tables_1[1076]? = some (Cond.methodLink RX12 246 yX12_makesOne) := by decide +kernel
theorem minst_X12_makesOne : Cond.instanceMethod yX12_makesOne ∈ bigW := bw_t 1078 (by decide +kernel) rfl
theorem msel_X12_makesOne : Cond.selects RX12 yX12_makesOne yX12_makesOne ∈ bigW := bw_s 86 (by decide +kernel) rfl
theorem mcode_X12_makesOne : Cond.code yX12_makesOne cX12_makesOne 7 (some .int) ∈ bigW := bw_t 1079 (by decide +kernel) rfl
theorem lkX12_246 : LkV RX12 246 RX12 yX12_makesOne cX12_makesOne 7 (some .int) 4 := ⟨⟨bw_t 1076 mlX12_246 rfl, minst_X12_makesOne, msel_X12_makesOne, mini_X12, mcode_X12_makesOne⟩, rfl, ⟨by decide, by decide, by decide +kernel⟩⟩
theorem mlX12_250 : tables_1[1210]? = some (Cond.methodLink RX12 250 yX12_done) := by decide +kernel
theorem minst_X12_done : Cond.instanceMethod yX12_done ∈ bigW := bw_t 1212 (by decide +kernel) rfl
theorem msel_X12_done : Cond.selects RX12 yX12_done yX12_done ∈ bigW := bw_s 117 (by decide +kernel) rfl
theorem mcode_X12_done : Cond.code yX12_done cX12_done 2 (some .int) ∈ bigW := bw_t 1213 (by decide +kernel) rfl
theorem lkX12_250 : LkV RX12 250 RX12 yX12_done cX12_done 2 (some .int) 1 := ⟨⟨bw_t 1210 mlX12_250 rfl, minst_X12_done, msel_X12_done, mini_X12, mcode_X12_done⟩, rfl, ⟨by decide, by decide, by decide +kernel⟩⟩
theorem mlX12_253 : tables_1[1222]? = some (Cond.methodLink RX12 253 yX12_setsOne) := by decide +kernel
theorem minst_X12_setsOne : Cond.instanceMethod yX12_setsOne ∈ bigW := bw_t 1224 (by decide +kernel) rfl
theorem msel_X12_setsOne : Cond.selects RX12 yX12_setsOne yX12_setsOne ∈ bigW := bw_s 119 (by decide +kernel) rfl
theorem mcode_X12_setsOne : Cond.code yX12_setsOne cX12_setsOne 5 (some .int) ∈ bigW := bw_t 1225 (by decide +kernel) rfl
theorem lkX12_253 : LkV RX12 253 RX12 yX12_setsOne cX12_setsOne 5 (some .int) 3 := ⟨⟨bw_t 1222 mlX12_253 rfl, minst_X12_setsOne, msel_X12_setsOne, mini_X12, mcode_X12_setsOne⟩, rfl, ⟨by decide, by decide, by decide +kernel⟩⟩
theorem mlX12_257 : tables_1[1255]? = some (Cond.methodLink RX12 257 yX12_entersBoth) := by decide +kernel
theorem minst_X12_entersBoth : Cond.instanceMethod yX12_entersBoth ∈ bigW := bw_t 1257 (by decide +kernel) rfl
theorem msel_X12_entersBoth : Cond.selects RX12 yX12_entersBoth yX12_entersBoth ∈ bigW := bw_s 127 (by decide +kernel) rfl
theorem mcode_X12_entersBoth : Cond.code yX12_entersBoth cX12_entersBoth 2 (some .int) ∈ bigW := bw_t 1258 (by decide +kernel) rfl
theorem lkX12_257 : LkV RX12 257 RX12 yX12_entersBoth cX12_entersBoth 2 (some .int) 1 := ⟨⟨bw_t 1255 mlX12_257 rfl, minst_X12_entersBoth, msel_X12_entersBoth, mini_X12, mcode_X12_entersBoth⟩, rfl, ⟨by decide, by decide, by decide +kernel⟩⟩
theorem mlX12_260 : tables_1[1270]? = some (Cond.methodLink RX12 260 yX12_rootsOne) := by decide +kernel
theorem minst_X12_rootsOne : Cond.instanceMethod yX12_rootsOne ∈ bigW := bw_t 1272 (by decide +kernel) rfl
theorem msel_X12_rootsOne : Cond.selects RX12 yX12_rootsOne yX12_rootsOne ∈ bigW := bw_s 129 (by decide +kernel) rfl
theorem mcode_X12_rootsOne : Cond.code yX12_rootsOne cX12_rootsOne 4 (some .int) ∈ bigW := bw_t 1273 (by decide +kernel) rfl
theorem lkX12_260 : LkV RX12 260 RX12 yX12_rootsOne cX12_rootsOne 4 (some .int) 2 := ⟨⟨bw_t 1270 mlX12_260 rfl, minst_X12_rootsOne, msel_X12_rootsOne, mini_X12, mcode_X12_rootsOne⟩, rfl, ⟨by decide, by decide, by decide +kernel⟩⟩
theorem mlX12_263 : tables_1[1278]? = some (Cond.methodLink RX12 263 yX12_weaksOne) := by decide +kernel
theorem minst_X12_weaksOne : Cond.instanceMethod yX12_weaksOne ∈ bigW := bw_t 1280 (by decide +kernel) rfl
theorem msel_X12_weaksOne : Cond.selects RX12 yX12_weaksOne yX12_weaksOne ∈ bigW := bw_s 130 (by decide +kernel) rfl
theorem mcode_X12_weaksOne : Cond.code yX12_weaksOne cX12_weaksOne 4 (some .int) ∈ bigW := bw_t 1281 (by decide +kernel) rfl
theorem lkX12_263 : LkV RX12 263 RX12 yX12_weaksOne cX12_weaksOne 4 (some .int) 2 := ⟨⟨bw_t 1278 mlX12_263 rfl, minst_X12_weaksOne, msel_X12_weaksOne, mini_X12, mcode_X12_weaksOne⟩, rfl, ⟨by decide, by decide, by decide +kernel⟩⟩
theorem mlX12_266 : tables_1[1287]? = some (Cond.methodLink RX12 266 yX12_wakesOne) := by decide +kernel
theorem minst_X12_wakesOne : Cond.instanceMethod yX12_wakesOne ∈ bigW := bw_t 1289 (by decide +kernel) rfl
theorem msel_X12_wakesOne : Cond.selects RX12 yX12_wakesOne yX12_wakesOne ∈ bigW := bw_s 131 (by decide +kernel) rfl
theorem mcode_X12_wakesOne : Cond.code yX12_wakesOne cX12_wakesOne 5 (some .int) ∈ bigW := bw_t 1290 (by decide +kernel) rfl
theorem lkX12_266 : LkV RX12 266 RX12 yX12_wakesOne cX12_wakesOne 5 (some .int) 2 := ⟨⟨bw_t 1287 mlX12_266 rfl, minst_X12_wakesOne, msel_X12_wakesOne, mini_X12, mcode_X12_wakesOne⟩, rfl, ⟨by decide, by decide, by decide +kernel⟩⟩
theorem mlX12_269 : tables_1[1295]? = some (Cond.methodLink RX12 269 yX12_trialOne) := by decide +kernel
theorem minst_X12_trialOne : Cond.instanceMethod yX12_trialOne ∈ bigW := bw_t 1297 (by decide +kernel) rfl
theorem msel_X12_trialOne : Cond.selects RX12 yX12_trialOne yX12_trialOne ∈ bigW := bw_s 132 (by decide +kernel) rfl
theorem mcode_X12_trialOne : Cond.code yX12_trialOne cX12_trialOne 3 (some .int) ∈ bigW := bw_t 1298 (by decide +kernel) rfl
theorem lkX12_269 : LkV RX12 269 RX12 yX12_trialOne cX12_trialOne 3 (some .int) 0 := ⟨⟨bw_t 1295 mlX12_269 rfl, minst_X12_trialOne, msel_X12_trialOne, mini_X12, mcode_X12_trialOne⟩, rfl, ⟨by decide, by decide, by decide +kernel⟩⟩
theorem mlX12_276 : tables_1[1325]? = some (Cond.methodLink RX12 276 yX12_suspects) := by decide +kernel
theorem minst_X12_suspects : Cond.instanceMethod yX12_suspects ∈ bigW := bw_t 1327 (by decide +kernel) rfl
theorem msel_X12_suspects : Cond.selects RX12 yX12_suspects yX12_suspects ∈ bigW := bw_s 134 (by decide +kernel) rfl
theorem mcode_X12_suspects : Cond.code yX12_suspects cX12_suspects 3 (some .int) ∈ bigW := bw_t 1328 (by decide +kernel) rfl
theorem lkX12_276 : LkV RX12 276 RX12 yX12_suspects cX12_suspects 3 (some .int) 0 := ⟨⟨bw_t 1325 mlX12_276 rfl, minst_X12_suspects, msel_X12_suspects, mini_X12, mcode_X12_suspects⟩, rfl, ⟨by decide, by decide, by decide +kernel⟩⟩
theorem mlX12_279 : tables_1[1329]? = some (Cond.methodLink RX12 279 yX12_weights) := by decide +kernel
theorem minst_X12_weights : Cond.instanceMethod yX12_weights ∈ bigW := bw_t 1331 (by decide +kernel) rfl
theorem msel_X12_weights : Cond.selects RX12 yX12_weights yX12_weights ∈ bigW := bw_s 135 (by decide +kernel) rfl
theorem mcode_X12_weights : Cond.code yX12_weights cX12_weights 4 (some .int) ∈ bigW := bw_t 1332 (by decide +kernel) rfl
theorem lkX12_279 : LkV RX12 279 RX12 yX12_weights cX12_weights 4 (some .int) 1 := ⟨⟨bw_t 1329 mlX12_279 rfl, minst_X12_weights, msel_X12_weights, mini_X12, mcode_X12_weights⟩, rfl, ⟨by decide, by decide, by decide +kernel⟩⟩
theorem mlX12_282 : tables_1[1345]? = some (Cond.methodLink RX12 282 yX12_measures) := by decide +kernel
theorem minst_X12_measures : Cond.instanceMethod yX12_measures ∈ bigW := bw_t 1347 (by decide +kernel) rfl
theorem msel_X12_measures : Cond.selects RX12 yX12_measures yX12_measures ∈ bigW := bw_s 136 (by decide +kernel) rfl
theorem mcode_X12_measures : Cond.code yX12_measures cX12_measures 6 none ∈ bigW := bw_t 1348 (by decide +kernel) rfl
theorem lkX12_282 : LkV RX12 282 RX12 yX12_measures cX12_measures 6 none 1 := ⟨⟨bw_t 1345 mlX12_282 rfl, minst_X12_measures, msel_X12_measures, mini_X12, mcode_X12_measures⟩, rfl, ⟨by decide, by decide, by decide +kernel⟩⟩
theorem mlX12_285 : tables_1[1349]? = some (Cond.methodLink RX12 285 yX12_nearest) := by decide +kernel
theorem minst_X12_nearest : Cond.instanceMethod yX12_nearest ∈ bigW := bw_t 1351 (by decide +kernel) rfl
theorem msel_X12_nearest : Cond.selects RX12 yX12_nearest yX12_nearest ∈ bigW := bw_s 137 (by decide +kernel) rfl
theorem mcode_X12_nearest : Cond.code yX12_nearest cX12_nearest 4 (some .int) ∈ bigW := bw_t 1352 (by decide +kernel) rfl
theorem lkX12_285 : LkV RX12 285 RX12 yX12_nearest cX12_nearest 4 (some .int) 1 := ⟨⟨bw_t 1349 mlX12_285 rfl, minst_X12_nearest, msel_X12_nearest, mini_X12, mcode_X12_nearest⟩, rfl, ⟨by decide, by decide, by decide +kernel⟩⟩
theorem mlX12_288 : tables_1[1365]? = some (Cond.methodLink RX12 288 yX12_aloneWith) := by decide +kernel
theorem minst_X12_aloneWith : Cond.instanceMethod yX12_aloneWith ∈ bigW := bw_t 1367 (by decide +kernel) rfl
theorem msel_X12_aloneWith : Cond.selects RX12 yX12_aloneWith yX12_aloneWith ∈ bigW := bw_s 138 (by decide +kernel) rfl
theorem mcode_X12_aloneWith : Cond.code yX12_aloneWith cX12_aloneWith 3 (some .int) ∈ bigW := bw_t 1368 (by decide +kernel) rfl
theorem lkX12_288 : LkV RX12 288 RX12 yX12_aloneWith cX12_aloneWith 3 (some .int) 1 := ⟨⟨bw_t 1365 mlX12_288 rfl, minst_X12_aloneWith, msel_X12_aloneWith, mini_X12, mcode_X12_aloneWith⟩, rfl, ⟨by decide, by decide, by decide +kernel⟩⟩
theorem mlX12_291 : tables_1[1377]? = some (Cond.methodLink RX12 291 yX12_tries) := by decide +kernel
theorem minst_X12_tries : Cond.instanceMethod yX12_tries ∈ bigW := bw_t 1379 (by decide +kernel) rfl
theorem msel_X12_tries : Cond.selects RX12 yX12_tries yX12_tries ∈ bigW := bw_s 139 (by decide +kernel) rfl
theorem mcode_X12_tries : Cond.code yX12_tries cX12_tries 1 none ∈ bigW := bw_t 1380 (by decide +kernel) rfl
theorem lkX12_291 : LkV RX12 291 RX12 yX12_tries cX12_tries 1 none 0 := ⟨⟨bw_t 1377 mlX12_291 rfl, minst_X12_tries, msel_X12_tries, mini_X12, mcode_X12_tries⟩, rfl, ⟨by decide, by decide, by decide +kernel⟩⟩
theorem mlX12_294 : tables_1[1381]? = some (Cond.methodLink RX12 294 yX12_isBack) := by decide +kernel
theorem minst_X12_isBack : Cond.instanceMethod yX12_isBack ∈ bigW := bw_t 1383 (by decide +kernel) rfl
theorem msel_X12_isBack : Cond.selects RX12 yX12_isBack yX12_isBack ∈ bigW := bw_s 140 (by decide +kernel) rfl
theorem mcode_X12_isBack : Cond.code yX12_isBack cX12_isBack 1 none ∈ bigW := bw_t 1384 (by decide +kernel) rfl
theorem lkX12_294 : LkV RX12 294 RX12 yX12_isBack cX12_isBack 1 none 0 := ⟨⟨bw_t 1381 mlX12_294 rfl, minst_X12_isBack, msel_X12_isBack, mini_X12, mcode_X12_isBack⟩, rfl, ⟨by decide, by decide, by decide +kernel⟩⟩
theorem mlX12_299 : tables_1[1398]? = some (Cond.methodLink RX12 299 yX12_worth) := by decide +kernel
theorem minst_X12_worth : Cond.instanceMethod yX12_worth ∈ bigW := bw_t 1400 (by decide +kernel) rfl
theorem msel_X12_worth : Cond.selects RX12 yX12_worth yX12_worth ∈ bigW := bw_s 141 (by decide +kernel) rfl
theorem mcode_X12_worth : Cond.code yX12_worth cX12_worth 3 (some .int) ∈ bigW := bw_t 1401 (by decide +kernel) rfl
theorem lkX12_299 : LkV RX12 299 RX12 yX12_worth cX12_worth 3 (some .int) 2 := ⟨⟨bw_t 1398 mlX12_299 rfl, minst_X12_worth, msel_X12_worth, mini_X12, mcode_X12_worth⟩, rfl, ⟨by decide, by decide, by decide +kernel⟩⟩
theorem mlX12_304 : tables_1[1471]? = some (Cond.methodLink RX12 304 yX12_digits) := by decide +kernel
theorem minst_X12_digits : Cond.instanceMethod yX12_digits ∈ bigW := bw_t 1473 (by decide +kernel) rfl
theorem msel_X12_digits : Cond.selects RX12 yX12_digits yX12_digits ∈ bigW := bw_s 144 (by decide +kernel) rfl
theorem mcode_X12_digits : Cond.code yX12_digits cX12_digits 5 (some .int) ∈ bigW := bw_t 1474 (by decide +kernel) rfl
theorem lkX12_304 : LkV RX12 304 RX12 yX12_digits cX12_digits 5 (some .int) 1 := ⟨⟨bw_t 1471 mlX12_304 rfl, minst_X12_digits, msel_X12_digits, mini_X12, mcode_X12_digits⟩, rfl, ⟨by decide, by decide, by decide +kernel⟩⟩
theorem mlX12_307 : tables_1[1480]? = some (Cond.methodLink RX12 307 yX12_orNone) := by decide +kernel
theorem minst_X12_orNone : Cond.instanceMethod yX12_orNone ∈ bigW := bw_t 1482 (by decide +kernel) rfl
theorem msel_X12_orNone : Cond.selects RX12 yX12_orNone yX12_orNone ∈ bigW := bw_s 146 (by decide +kernel) rfl
theorem mcode_X12_orNone : Cond.code yX12_orNone cX12_orNone 2 (some .int) ∈ bigW := bw_t 1483 (by decide +kernel) rfl
theorem lkX12_307 : LkV RX12 307 RX12 yX12_orNone cX12_orNone 2 (some .int) 1 := ⟨⟨bw_t 1480 mlX12_307 rfl, minst_X12_orNone, msel_X12_orNone, mini_X12, mcode_X12_orNone⟩, rfl, ⟨by decide, by decide, by decide +kernel⟩⟩
theorem mlX12_310 : tables_1[1414]? = some (Cond.methodLink RX12 310 yX12_readsAct) := by decide +kernel
theorem minst_X12_readsAct : Cond.instanceMethod yX12_readsAct ∈ bigW := bw_t 1416 (by decide +kernel) rfl
theorem msel_X12_readsAct : Cond.selects RX12 yX12_readsAct yX12_readsAct ∈ bigW := bw_s 142 (by decide +kernel) rfl
theorem mcode_X12_readsAct : Cond.code yX12_readsAct cX12_readsAct 2 (some .boolean) ∈ bigW := bw_t 1417 (by decide +kernel) rfl
theorem lkX12_310 : LkV RX12 310 RX12 yX12_readsAct cX12_readsAct 2 (some .boolean) 1 := ⟨⟨bw_t 1414 mlX12_310 rfl, minst_X12_readsAct, msel_X12_readsAct, mini_X12, mcode_X12_readsAct⟩, rfl, ⟨by decide, by decide, by decide +kernel⟩⟩
theorem mlX12_313 : tables_1[1476]? = some (Cond.methodLink RX12 313 yX12_does) := by decide +kernel
theorem minst_X12_does : Cond.instanceMethod yX12_does ∈ bigW := bw_t 1478 (by decide +kernel) rfl
theorem msel_X12_does : Cond.selects RX12 yX12_does yX12_does ∈ bigW := bw_s 145 (by decide +kernel) rfl
theorem mcode_X12_does : Cond.code yX12_does cX12_does 3 (some .boolean) ∈ bigW := bw_t 1479 (by decide +kernel) rfl
theorem lkX12_313 : LkV RX12 313 RX12 yX12_does cX12_does 3 (some .boolean) 1 := ⟨⟨bw_t 1476 mlX12_313 rfl, minst_X12_does, msel_X12_does, mini_X12, mcode_X12_does⟩, rfl, ⟨by decide, by decide, by decide +kernel⟩⟩
theorem mlX12_320 : tables_1[1493]? = some (Cond.methodLink RX12 320 yX12_draws) := by decide +kernel
theorem minst_X12_draws : Cond.instanceMethod yX12_draws ∈ bigW := bw_t 1495 (by decide +kernel) rfl
theorem msel_X12_draws : Cond.selects RX12 yX12_draws yX12_draws ∈ bigW := bw_s 148 (by decide +kernel) rfl
theorem mcode_X12_draws : Cond.code yX12_draws cX12_draws 2 (some .int) ∈ bigW := bw_t 1496 (by decide +kernel) rfl
theorem lkX12_320 : LkV RX12 320 RX12 yX12_draws cX12_draws 2 (some .int) 1 := ⟨⟨bw_t 1493 mlX12_320 rfl, minst_X12_draws, msel_X12_draws, mini_X12, mcode_X12_draws⟩, rfl, ⟨by decide, by decide, by decide +kernel⟩⟩
theorem mlX12_323 : tables_1[1498]? = some (Cond.methodLink RX12 323 yX12_drawsOther) := by decide +kernel
theorem minst_X12_drawsOther : Cond.instanceMethod yX12_drawsOther ∈ bigW := bw_t 1500 (by decide +kernel) rfl
theorem msel_X12_drawsOther : Cond.selects RX12 yX12_drawsOther yX12_drawsOther ∈ bigW := bw_s 149 (by decide +kernel) rfl
theorem mcode_X12_drawsOther : Cond.code yX12_drawsOther cX12_drawsOther 2 (some .int) ∈ bigW := bw_t 1501 (by decide +kernel) rfl
theorem lkX12_323 : LkV RX12 323 RX12 yX12_drawsOther cX12_drawsOther 2 (some .int) 0 := ⟨⟨bw_t 1498 mlX12_323 rfl, minst_X12_drawsOther, msel_X12_drawsOther, mini_X12, mcode_X12_drawsOther⟩, rfl, ⟨by decide, by decide, by decide +kernel⟩⟩
theorem mlX12_328 : tables_1[1489]? = some (Cond.methodLink RX12 328 yX12_drawnAct) := by decide +kernel
theorem minst_X12_drawnAct : Cond.instanceMethod yX12_drawnAct ∈ bigW := bw_t 1491 (by decide +kernel) rfl
theorem msel_X12_drawnAct : Cond.selects RX12 yX12_drawnAct yX12_drawnAct ∈ bigW := bw_s 147 (by decide +kernel) rfl
theorem mcode_X12_drawnAct : Cond.code yX12_drawnAct cX12_drawnAct 4 (some .int) ∈ bigW := bw_t 1492 (by decide +kernel) rfl
theorem lkX12_328 : LkV RX12 328 RX12 yX12_drawnAct cX12_drawnAct 4 (some .int) 0 := ⟨⟨bw_t 1489 mlX12_328 rfl, minst_X12_drawnAct, msel_X12_drawnAct, mini_X12, mcode_X12_drawnAct⟩, rfl, ⟨by decide, by decide, by decide +kernel⟩⟩
theorem mlX12_331 : tables_1[1514]? = some (Cond.methodLink RX12 331 yX12_countsOfAll) := by decide +kernel
theorem minst_X12_countsOfAll : Cond.instanceMethod yX12_countsOfAll ∈ bigW := bw_t 1516 (by decide +kernel) rfl
theorem msel_X12_countsOfAll : Cond.selects RX12 yX12_countsOfAll yX12_countsOfAll ∈ bigW := bw_s 150 (by decide +kernel) rfl
theorem mcode_X12_countsOfAll : Cond.code yX12_countsOfAll cX12_countsOfAll 3 (some .int) ∈ bigW := bw_t 1517 (by decide +kernel) rfl
theorem lkX12_331 : LkV RX12 331 RX12 yX12_countsOfAll cX12_countsOfAll 3 (some .int) 0 := ⟨⟨bw_t 1514 mlX12_331 rfl, minst_X12_countsOfAll, msel_X12_countsOfAll, mini_X12, mcode_X12_countsOfAll⟩, rfl, ⟨by decide, by decide, by decide +kernel⟩⟩
