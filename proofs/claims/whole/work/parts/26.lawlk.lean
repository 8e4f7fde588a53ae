-- no code ('CountedHeapLaw', 'object', '(LCountedHeap;II[J)I')
-- no code ('CountedHeapLaw', 'field', '(LCountedHeap;II[J)I')
-- no code ('CountedHeapLaw', 'root', '(LCountedHeap;I[J)I')
-- no code ('CountedHeapLaw', 'log', '(LCountedHeap;II[J)I')
-- no code ('CountedHeapLaw', 'row', '(LCountedHeap;I[J)I')
theorem mlL_7 : tables_1[854]? = some (Cond.methodLink RL 7 yX11_object) := by decide +kernel
theorem minst_X11_object : Cond.instanceMethod yX11_object ∈ bigW := bw_t 855 (by decide +kernel) rfl
theorem msel_X11_object : Cond.selects RX11 yX11_object yX11_object ∈ bigW := bw_t 856 (by decide +kernel) rfl
theorem mcode_X11_object : Cond.code yX11_object cX11_object 3 (some .int) ∈ bigW := bw_t 857 (by decide +kernel) rfl
theorem lkL_7 : LkV RL 7 RX11 yX11_object cX11_object 3 (some .int) 2 := ⟨⟨bw_t 854 mlL_7 rfl, minst_X11_object, msel_X11_object, mini_X11, mcode_X11_object⟩, rfl, ⟨by decide, by decide, by decide +kernel⟩⟩
theorem mlL_15 : tables_1[932]? = some (Cond.methodLink RL 15 yX11_field) := by decide +kernel
theorem minst_X11_field : Cond.instanceMethod yX11_field ∈ bigW := bw_t 933 (by decide +kernel) rfl
theorem msel_X11_field : Cond.selects RX11 yX11_field yX11_field ∈ bigW := bw_t 934 (by decide +kernel) rfl
theorem mcode_X11_field : Cond.code yX11_field cX11_field 3 (some .int) ∈ bigW := bw_t 935 (by decide +kernel) rfl
theorem lkL_15 : LkV RL 15 RX11 yX11_field cX11_field 3 (some .int) 2 := ⟨⟨bw_t 932 mlL_15 rfl, minst_X11_field, msel_X11_field, mini_X11, mcode_X11_field⟩, rfl, ⟨by decide, by decide, by decide +kernel⟩⟩
theorem mlL_18 : tables_1[940]? = some (Cond.methodLink RL 18 yX11_root) := by decide +kernel
theorem minst_X11_root : Cond.instanceMethod yX11_root ∈ bigW := bw_t 941 (by decide +kernel) rfl
theorem msel_X11_root : Cond.selects RX11 yX11_root yX11_root ∈ bigW := bw_t 942 (by decide +kernel) rfl
theorem mcode_X11_root : Cond.code yX11_root cX11_root 2 (some .int) ∈ bigW := bw_t 943 (by decide +kernel) rfl
theorem lkL_18 : LkV RL 18 RX11 yX11_root cX11_root 2 (some .int) 1 := ⟨⟨bw_t 940 mlL_18 rfl, minst_X11_root, msel_X11_root, mini_X11, mcode_X11_root⟩, rfl, ⟨by decide, by decide, by decide +kernel⟩⟩
theorem mlL_22 : tables_1[952]? = some (Cond.methodLink RL 22 yX11_log) := by decide +kernel
theorem minst_X11_log : Cond.instanceMethod yX11_log ∈ bigW := bw_t 953 (by decide +kernel) rfl
theorem msel_X11_log : Cond.selects RX11 yX11_log yX11_log ∈ bigW := bw_t 954 (by decide +kernel) rfl
theorem mcode_X11_log : Cond.code yX11_log cX11_log 3 (some .int) ∈ bigW := bw_t 955 (by decide +kernel) rfl
theorem lkL_22 : LkV RL 22 RX11 yX11_log cX11_log 3 (some .int) 2 := ⟨⟨bw_t 952 mlL_22 rfl, minst_X11_log, msel_X11_log, mini_X11, mcode_X11_log⟩, rfl, ⟨by decide, by decide, by decide +kernel⟩⟩
theorem mlL_25 : tables_1[973]? = some (Cond.methodLink RL 25 yX11_row) := by decide +kernel
theorem minst_X11_row : Cond.instanceMethod yX11_row ∈ bigW := bw_t 974 (by decide +kernel) rfl
theorem msel_X11_row : Cond.selects RX11 yX11_row yX11_row ∈ bigW := bw_t 975 (by decide +kernel) rfl
theorem mcode_X11_row : Cond.code yX11_row cX11_row 2 (some .long) ∈ bigW := bw_t 976 (by decide +kernel) rfl
theorem lkL_25 : LkV RL 25 RX11 yX11_row cX11_row 2 (some .long) 1 := ⟨⟨bw_t 973 mlL_25 rfl, minst_X11_row, msel_X11_row, mini_X11, mcode_X11_row⟩, rfl, ⟨by decide, by decide, by decide +kernel⟩⟩
theorem mlL_33 : tables_1[351]? = some (Cond.methodLink RL 33 yX11_sign) := by decide +kernel
theorem minst_X11_sign : Cond.instanceMethod yX11_sign ∈ bigW := bw_t 352 (by decide +kernel) rfl
theorem msel_X11_sign : Cond.selects RX11 yX11_sign yX11_sign ∈ bigW := bw_t 353 (by decide +kernel) rfl
theorem mcode_X11_sign : Cond.code yX11_sign cX11_sign 2 (some .int) ∈ bigW := bw_t 354 (by decide +kernel) rfl
theorem lkL_33 : LkV RL 33 RX11 yX11_sign cX11_sign 2 (some .int) 1 := ⟨⟨bw_t 351 mlL_33 rfl, minst_X11_sign, msel_X11_sign, mini_X11, mcode_X11_sign⟩, rfl, ⟨by decide, by decide, by decide +kernel⟩⟩
theorem mlL_36 : tables_1[982]? = some (Cond.methodLink RL 36 yX12_sign) := by decide +kernel
theorem minst_X12_sign : Cond.instanceMethod yX12_sign ∈ bigW := bw_t 983 (by decide +kernel) rfl
theorem msel_X12_sign : Cond.selects RX12 yX12_sign yX12_sign ∈ bigW := bw_t 984 (by decide +kernel) rfl
theorem mcode_X12_sign : Cond.code yX12_sign cX12_sign 3 (some .int) ∈ bigW := bw_t 985 (by decide +kernel) rfl
theorem lkL_36 : LkV RL 36 RX12 yX12_sign cX12_sign 3 (some .int) 1 := ⟨⟨bw_t 982 mlL_36 rfl, minst_X12_sign, msel_X12_sign, mini_X12, mcode_X12_sign⟩, rfl, ⟨by decide, by decide, by decide +kernel⟩⟩
theorem mlL_37 : tables_1[359]? = some (Cond.methodLink RL 37 yX11_end) := by decide +kernel
theorem minst_X11_end : Cond.instanceMethod yX11_end ∈ bigW := bw_t 360 (by decide +kernel) rfl
theorem msel_X11_end : Cond.selects RX11 yX11_end yX11_end ∈ bigW := bw_t 361 (by decide +kernel) rfl
theorem mcode_X11_end : Cond.code yX11_end cX11_end 2 (some .boolean) ∈ bigW := bw_t 362 (by decide +kernel) rfl
theorem lkL_37 : LkV RL 37 RX11 yX11_end cX11_end 2 (some .boolean) 1 := ⟨⟨bw_t 359 mlL_37 rfl, minst_X11_end, msel_X11_end, mini_X11, mcode_X11_end⟩, rfl, ⟨by decide, by decide, by decide +kernel⟩⟩
theorem mlL_41 : tables_1[986]? = some (Cond.methodLink RL 41 yX12_end) := by decide +kernel
theorem minst_X12_end : Cond.instanceMethod yX12_end ∈ bigW := bw_t 987 (by decide +kernel) rfl
theorem msel_X12_end : Cond.selects RX12 yX12_end yX12_end ∈ bigW := bw_t 988 (by decide +kernel) rfl
theorem mcode_X12_end : Cond.code yX12_end cX12_end 2 (some .boolean) ∈ bigW := bw_t 989 (by decide +kernel) rfl
theorem lkL_41 : LkV RL 41 RX12 yX12_end cX12_end 2 (some .boolean) 1 := ⟨⟨bw_t 986 mlL_41 rfl, minst_X12_end, msel_X12_end, mini_X12, mcode_X12_end⟩, rfl, ⟨by decide, by decide, by decide +kernel⟩⟩
theorem mlL_42 : tables_1[363]? = some (Cond.methodLink RL 42 yX11_makes) := by decide +kernel
theorem minst_X11_makes : Cond.instanceMethod yX11_makes ∈ bigW := bw_t 364 (by decide +kernel) rfl
theorem msel_X11_makes : Cond.selects RX11 yX11_makes yX11_makes ∈ bigW := bw_t 365 (by decide +kernel) rfl
theorem mcode_X11_makes : Cond.code yX11_makes cX11_makes 7 (some .int) ∈ bigW := bw_t 366 (by decide +kernel) rfl
theorem lkL_42 : LkV RL 42 RX11 yX11_makes cX11_makes 7 (some .int) 4 := ⟨⟨bw_t 363 mlL_42 rfl, minst_X11_makes, msel_X11_makes, mini_X11, mcode_X11_makes⟩, rfl, ⟨by decide, by decide, by decide +kernel⟩⟩
theorem mlL_46 : tables_1[1072]? = some (Cond.methodLink RL 46 yX12_makes) := by decide +kernel
theorem minst_X12_makes : Cond.instanceMethod yX12_makes ∈ bigW := bw_t 1073 (by decide +kernel) rfl
theorem msel_X12_makes : Cond.selects RX12 yX12_makes yX12_makes ∈ bigW := bw_t 1074 (by decide +kernel) rfl
theorem mcode_X12_makes : Cond.code yX12_makes cX12_makes 7 (some .int) ∈ bigW := bw_t 1075 (by decide +kernel) rfl
theorem lkL_46 : LkV RL 46 RX12 yX12_makes cX12_makes 7 (some .int) 4 := ⟨⟨bw_t 1072 mlL_46 rfl, minst_X12_makes, msel_X12_makes, mini_X12, mcode_X12_makes⟩, rfl, ⟨by decide, by decide, by decide +kernel⟩⟩
theorem mlL_47 : tables_1[618]? = some (Cond.methodLink RL 47 yX11_sets) := by decide +kernel
theorem minst_X11_sets : Cond.instanceMethod yX11_sets ∈ bigW := bw_t 619 (by decide +kernel) rfl
theorem msel_X11_sets : Cond.selects RX11 yX11_sets yX11_sets ∈ bigW := bw_t 620 (by decide +kernel) rfl
theorem mcode_X11_sets : Cond.code yX11_sets cX11_sets 4 (some .int) ∈ bigW := bw_t 621 (by decide +kernel) rfl
theorem lkL_47 : LkV RL 47 RX11 yX11_sets cX11_sets 4 (some .int) 3 := ⟨⟨bw_t 618 mlL_47 rfl, minst_X11_sets, msel_X11_sets, mini_X11, mcode_X11_sets⟩, rfl, ⟨by decide, by decide, by decide +kernel⟩⟩
theorem mlL_51 : tables_1[1218]? = some (Cond.methodLink RL 51 yX12_sets) := by decide +kernel
theorem minst_X12_sets : Cond.instanceMethod yX12_sets ∈ bigW := bw_t 1219 (by decide +kernel) rfl
theorem msel_X12_sets : Cond.selects RX12 yX12_sets yX12_sets ∈ bigW := bw_t 1220 (by decide +kernel) rfl
theorem mcode_X12_sets : Cond.code yX12_sets cX12_sets 4 (some .int) ∈ bigW := bw_t 1221 (by decide +kernel) rfl
theorem lkL_51 : LkV RL 51 RX12 yX12_sets cX12_sets 4 (some .int) 3 := ⟨⟨bw_t 1218 mlL_51 rfl, minst_X12_sets, msel_X12_sets, mini_X12, mcode_X12_sets⟩, rfl, ⟨by decide, by decide, by decide +kernel⟩⟩
theorem mlL_52 : tables_1[636]? = some (Cond.methodLink RL 52 yX11_roots) := by decide +kernel
theorem minst_X11_roots : Cond.instanceMethod yX11_roots ∈ bigW := bw_t 637 (by decide +kernel) rfl
theorem msel_X11_roots : Cond.selects RX11 yX11_roots yX11_roots ∈ bigW := bw_t 638 (by decide +kernel) rfl
theorem mcode_X11_roots : Cond.code yX11_roots cX11_roots 3 (some .int) ∈ bigW := bw_t 639 (by decide +kernel) rfl
theorem lkL_52 : LkV RL 52 RX11 yX11_roots cX11_roots 3 (some .int) 2 := ⟨⟨bw_t 636 mlL_52 rfl, minst_X11_roots, msel_X11_roots, mini_X11, mcode_X11_roots⟩, rfl, ⟨by decide, by decide, by decide +kernel⟩⟩
theorem mlL_55 : tables_1[1266]? = some (Cond.methodLink RL 55 yX12_roots) := by decide +kernel
theorem minst_X12_roots : Cond.instanceMethod yX12_roots ∈ bigW := bw_t 1267 (by decide +kernel) rfl
theorem msel_X12_roots : Cond.selects RX12 yX12_roots yX12_roots ∈ bigW := bw_t 1268 (by decide +kernel) rfl
theorem mcode_X12_roots : Cond.code yX12_roots cX12_roots 3 (some .int) ∈ bigW := bw_t 1269 (by decide +kernel) rfl
theorem lkL_55 : LkV RL 55 RX12 yX12_roots cX12_roots 3 (some .int) 2 := ⟨⟨bw_t 1266 mlL_55 rfl, minst_X12_roots, msel_X12_roots, mini_X12, mcode_X12_roots⟩, rfl, ⟨by decide, by decide, by decide +kernel⟩⟩
theorem mlL_56 : tables_1[640]? = some (Cond.methodLink RL 56 yX11_weaks) := by decide +kernel
theorem minst_X11_weaks : Cond.instanceMethod yX11_weaks ∈ bigW := bw_t 641 (by decide +kernel) rfl
theorem msel_X11_weaks : Cond.selects RX11 yX11_weaks yX11_weaks ∈ bigW := bw_t 642 (by decide +kernel) rfl
theorem mcode_X11_weaks : Cond.code yX11_weaks cX11_weaks 5 (some .int) ∈ bigW := bw_t 643 (by decide +kernel) rfl
theorem lkL_56 : LkV RL 56 RX11 yX11_weaks cX11_weaks 5 (some .int) 2 := ⟨⟨bw_t 640 mlL_56 rfl, minst_X11_weaks, msel_X11_weaks, mini_X11, mcode_X11_weaks⟩, rfl, ⟨by decide, by decide, by decide +kernel⟩⟩
theorem mlL_59 : tables_1[1274]? = some (Cond.methodLink RL 59 yX12_weaks) := by decide +kernel
theorem minst_X12_weaks : Cond.instanceMethod yX12_weaks ∈ bigW := bw_t 1275 (by decide +kernel) rfl
theorem msel_X12_weaks : Cond.selects RX12 yX12_weaks yX12_weaks ∈ bigW := bw_t 1276 (by decide +kernel) rfl
theorem mcode_X12_weaks : Cond.code yX12_weaks cX12_weaks 4 (some .int) ∈ bigW := bw_t 1277 (by decide +kernel) rfl
theorem lkL_59 : LkV RL 59 RX12 yX12_weaks cX12_weaks 4 (some .int) 2 := ⟨⟨bw_t 1274 mlL_59 rfl, minst_X12_weaks, msel_X12_weaks, mini_X12, mcode_X12_weaks⟩, rfl, ⟨by decide, by decide, by decide +kernel⟩⟩
theorem mlL_60 : tables_1[648]? = some (Cond.methodLink RL 60 yX11_wakes) := by decide +kernel
theorem minst_X11_wakes : Cond.instanceMethod yX11_wakes ∈ bigW := bw_t 649 (by decide +kernel) rfl
theorem msel_X11_wakes : Cond.selects RX11 yX11_wakes yX11_wakes ∈ bigW := bw_t 650 (by decide +kernel) rfl
theorem mcode_X11_wakes : Cond.code yX11_wakes cX11_wakes 3 (some .int) ∈ bigW := bw_t 651 (by decide +kernel) rfl
theorem lkL_60 : LkV RL 60 RX11 yX11_wakes cX11_wakes 3 (some .int) 2 := ⟨⟨bw_t 648 mlL_60 rfl, minst_X11_wakes, msel_X11_wakes, mini_X11, mcode_X11_wakes⟩, rfl, ⟨by decide, by decide, by decide +kernel⟩⟩
theorem mlL_63 : tables_1[1283]? = some (Cond.methodLink RL 63 yX12_wakes) := by decide +kernel
theorem minst_X12_wakes : Cond.instanceMethod yX12_wakes ∈ bigW := bw_t 1284 (by decide +kernel) rfl
theorem msel_X12_wakes : Cond.selects RX12 yX12_wakes yX12_wakes ∈ bigW := bw_t 1285 (by decide +kernel) rfl
theorem mcode_X12_wakes : Cond.code yX12_wakes cX12_wakes 3 (some .int) ∈ bigW := bw_t 1286 (by decide +kernel) rfl
theorem lkL_63 : LkV RL 63 RX12 yX12_wakes cX12_wakes 3 (some .int) 2 := ⟨⟨bw_t 1283 mlL_63 rfl, minst_X12_wakes, msel_X12_wakes, mini_X12, mcode_X12_wakes⟩, rfl, ⟨by decide, by decide, by decide +kernel⟩⟩
theorem mlL_64 : tables_1[652]? = some (Cond.methodLink RL 64 yX11_trial) := by decide +kernel
theorem minst_X11_trial : Cond.instanceMethod yX11_trial ∈ bigW := bw_t 653 (by decide +kernel) rfl
theorem msel_X11_trial : Cond.selects RX11 yX11_trial yX11_trial ∈ bigW := bw_t 654 (by decide +kernel) rfl
theorem mcode_X11_trial : Cond.code yX11_trial cX11_trial 4 (some .int) ∈ bigW := bw_t 655 (by decide +kernel) rfl
theorem lkL_64 : LkV RL 64 RX11 yX11_trial cX11_trial 4 (some .int) 0 := ⟨⟨bw_t 652 mlL_64 rfl, minst_X11_trial, msel_X11_trial, mini_X11, mcode_X11_trial⟩, rfl, ⟨by decide, by decide, by decide +kernel⟩⟩
theorem mlL_68 : tables_1[1291]? = some (Cond.methodLink RL 68 yX12_trial) := by decide +kernel
theorem minst_X12_trial : Cond.instanceMethod yX12_trial ∈ bigW := bw_t 1292 (by decide +kernel) rfl
theorem msel_X12_trial : Cond.selects RX12 yX12_trial yX12_trial ∈ bigW := bw_t 1293 (by decide +kernel) rfl
theorem mcode_X12_trial : Cond.code yX12_trial cX12_trial 2 (some .int) ∈ bigW := bw_t 1294 (by decide +kernel) rfl
theorem lkL_68 : LkV RL 68 RX12 yX12_trial cX12_trial 2 (some .int) 0 := ⟨⟨bw_t 1291 mlL_68 rfl, minst_X12_trial, msel_X12_trial, mini_X12, mcode_X12_trial⟩, rfl, ⟨by decide, by decide, by decide +kernel⟩⟩
theorem mlL_69 : tables_1[660]? = some (Cond.methodLink RL 69 yX11_limit) := by decide +kernel
theorem minst_X11_limit : Cond.instanceMethod yX11_limit ∈ bigW := bw_t 661 (by decide +kernel) rfl
theorem msel_X11_limit : Cond.selects RX11 yX11_limit yX11_limit ∈ bigW := bw_t 662 (by decide +kernel) rfl
theorem mcode_X11_limit : Cond.code yX11_limit cX11_limit 3 (some .int) ∈ bigW := bw_t 663 (by decide +kernel) rfl
theorem lkL_69 : LkV RL 69 RX11 yX11_limit cX11_limit 3 (some .int) 1 := ⟨⟨bw_t 660 mlL_69 rfl, minst_X11_limit, msel_X11_limit, mini_X11, mcode_X11_limit⟩, rfl, ⟨by decide, by decide, by decide +kernel⟩⟩
theorem mlL_72 : tables_1[1303]? = some (Cond.methodLink RL 72 yX12_limit) := by decide +kernel
theorem minst_X12_limit : Cond.instanceMethod yX12_limit ∈ bigW := bw_t 1304 (by decide +kernel) rfl
theorem msel_X12_limit : Cond.selects RX12 yX12_limit yX12_limit ∈ bigW := bw_t 1305 (by decide +kernel) rfl
theorem mcode_X12_limit : Cond.code yX12_limit cX12_limit 3 (some .int) ∈ bigW := bw_t 1306 (by decide +kernel) rfl
theorem lkL_72 : LkV RL 72 RX12 yX12_limit cX12_limit 3 (some .int) 1 := ⟨⟨bw_t 1303 mlL_72 rfl, minst_X12_limit, msel_X12_limit, mini_X12, mcode_X12_limit⟩, rfl, ⟨by decide, by decide, by decide +kernel⟩⟩
theorem mlL_78 : tables_1[1308]? = some (Cond.methodLink RL 78 yX12_object) := by decide +kernel
theorem minst_X12_object : Cond.instanceMethod yX12_object ∈ bigW := bw_t 1309 (by decide +kernel) rfl
theorem msel_X12_object : Cond.selects RX12 yX12_object yX12_object ∈ bigW := bw_t 1310 (by decide +kernel) rfl
theorem mcode_X12_object : Cond.code yX12_object cX12_object 3 (some .int) ∈ bigW := bw_t 1311 (by decide +kernel) rfl
theorem lkL_78 : LkV RL 78 RX12 yX12_object cX12_object 3 (some .int) 2 := ⟨⟨bw_t 1308 mlL_78 rfl, minst_X12_object, msel_X12_object, mini_X12, mcode_X12_object⟩, rfl, ⟨by decide, by decide, by decide +kernel⟩⟩
theorem mlL_79 : tables_1[978]? = some (Cond.methodLink RL 79 yX12_thrown) := by decide +kernel
theorem minst_X12_thrown : Cond.instanceMethod yX12_thrown ∈ bigW := bw_t 979 (by decide +kernel) rfl
theorem msel_X12_thrown : Cond.selects RX12 yX12_thrown yX12_thrown ∈ bigW := bw_t 980 (by decide +kernel) rfl
theorem mcode_X12_thrown : Cond.code yX12_thrown cX12_thrown 1 (some .int) ∈ bigW := bw_t 981 (by decide +kernel) rfl
theorem lkL_79 : LkV RL 79 RX12 yX12_thrown cX12_thrown 1 (some .int) 0 := ⟨⟨bw_t 978 mlL_79 rfl, minst_X12_thrown, msel_X12_thrown, mini_X12, mcode_X12_thrown⟩, rfl, ⟨by decide, by decide, by decide +kernel⟩⟩
theorem mlL_84 : tables_1[1313]? = some (Cond.methodLink RL 84 yX12_field) := by decide +kernel
theorem minst_X12_field : Cond.instanceMethod yX12_field ∈ bigW := bw_t 1314 (by decide +kernel) rfl
theorem msel_X12_field : Cond.selects RX12 yX12_field yX12_field ∈ bigW := bw_t 1315 (by decide +kernel) rfl
theorem mcode_X12_field : Cond.code yX12_field cX12_field 3 (some .int) ∈ bigW := bw_t 1316 (by decide +kernel) rfl
theorem lkL_84 : LkV RL 84 RX12 yX12_field cX12_field 3 (some .int) 2 := ⟨⟨bw_t 1313 mlL_84 rfl, minst_X12_field, msel_X12_field, mini_X12, mcode_X12_field⟩, rfl, ⟨by decide, by decide, by decide +kernel⟩⟩
theorem mlL_88 : tables_1[1317]? = some (Cond.methodLink RL 88 yX12_root) := by decide +kernel
theorem minst_X12_root : Cond.instanceMethod yX12_root ∈ bigW := bw_t 1318 (by decide +kernel) rfl
theorem msel_X12_root : Cond.selects RX12 yX12_root yX12_root ∈ bigW := bw_t 1319 (by decide +kernel) rfl
theorem mcode_X12_root : Cond.code yX12_root cX12_root 2 (some .int) ∈ bigW := bw_t 1320 (by decide +kernel) rfl
theorem lkL_88 : LkV RL 88 RX12 yX12_root cX12_root 2 (some .int) 1 := ⟨⟨bw_t 1317 mlL_88 rfl, minst_X12_root, msel_X12_root, mini_X12, mcode_X12_root⟩, rfl, ⟨by decide, by decide, by decide +kernel⟩⟩
theorem mlL_89 : tables_1[664]? = some (Cond.methodLink RL 89 yX11_all) := by decide +kernel
theorem minst_X11_all : Cond.instanceMethod yX11_all ∈ bigW := bw_t 665 (by decide +kernel) rfl
theorem msel_X11_all : Cond.selects RX11 yX11_all yX11_all ∈ bigW := bw_t 666 (by decide +kernel) rfl
theorem mcode_X11_all : Cond.code yX11_all cX11_all 3 (some .int) ∈ bigW := bw_t 667 (by decide +kernel) rfl
theorem lkL_89 : LkV RL 89 RX11 yX11_all cX11_all 3 (some .int) 1 := ⟨⟨bw_t 664 mlL_89 rfl, minst_X11_all, msel_X11_all, mini_X11, mcode_X11_all⟩, rfl, ⟨by decide, by decide, by decide +kernel⟩⟩
theorem mlL_92 : tables_1[1321]? = some (Cond.methodLink RL 92 yX12_all) := by decide +kernel
theorem minst_X12_all : Cond.instanceMethod yX12_all ∈ bigW := bw_t 1322 (by decide +kernel) rfl
theorem msel_X12_all : Cond.selects RX12 yX12_all yX12_all ∈ bigW := bw_t 1323 (by decide +kernel) rfl
theorem mcode_X12_all : Cond.code yX12_all cX12_all 4 (some .int) ∈ bigW := bw_t 1324 (by decide +kernel) rfl
theorem lkL_92 : LkV RL 92 RX12 yX12_all cX12_all 4 (some .int) 1 := ⟨⟨bw_t 1321 mlL_92 rfl, minst_X12_all, msel_X12_all, mini_X12, mcode_X12_all⟩, rfl, ⟨by decide, by decide, by decide +kernel⟩⟩
theorem mlL_93 : tables_1[673]? = some (Cond.methodLink RL 93 yX11_list) := by decide +kernel
theorem minst_X11_list : Cond.instanceMethod yX11_list ∈ bigW := bw_t 674 (by decide +kernel) rfl
theorem msel_X11_list : Cond.selects RX11 yX11_list yX11_list ∈ bigW := bw_t 675 (by decide +kernel) rfl
theorem mcode_X11_list : Cond.code yX11_list cX11_list 2 (some .int) ∈ bigW := bw_t 676 (by decide +kernel) rfl
theorem lkL_93 : LkV RL 93 RX11 yX11_list cX11_list 2 (some .int) 0 := ⟨⟨bw_t 673 mlL_93 rfl, minst_X11_list, msel_X11_list, mini_X11, mcode_X11_list⟩, rfl, ⟨by decide, by decide, by decide +kernel⟩⟩
theorem mlL_96 : tables_1[1333]? = some (Cond.methodLink RL 96 yX12_list) := by decide +kernel
theorem minst_X12_list : Cond.instanceMethod yX12_list ∈ bigW := bw_t 1334 (by decide +kernel) rfl
theorem msel_X12_list : Cond.selects RX12 yX12_list yX12_list ∈ bigW := bw_t 1335 (by decide +kernel) rfl
theorem mcode_X12_list : Cond.code yX12_list cX12_list 2 (some .int) ∈ bigW := bw_t 1336 (by decide +kernel) rfl
theorem lkL_96 : LkV RL 96 RX12 yX12_list cX12_list 2 (some .int) 0 := ⟨⟨bw_t 1333 mlL_96 rfl, minst_X12_list, msel_X12_list, mini_X12, mcode_X12_list⟩, rfl, ⟨by decide, by decide, by decide +kernel⟩⟩
theorem mlL_97 : tables_1[679]? = some (Cond.methodLink RL 97 yX11_holders) := by decide +kernel
theorem minst_X11_holders : Cond.instanceMethod yX11_holders ∈ bigW := bw_t 680 (by decide +kernel) rfl
theorem msel_X11_holders : Cond.selects RX11 yX11_holders yX11_holders ∈ bigW := bw_t 681 (by decide +kernel) rfl
theorem mcode_X11_holders : Cond.code yX11_holders cX11_holders 4 (some .int) ∈ bigW := bw_t 682 (by decide +kernel) rfl
theorem lkL_97 : LkV RL 97 RX11 yX11_holders cX11_holders 4 (some .int) 1 := ⟨⟨bw_t 679 mlL_97 rfl, minst_X11_holders, msel_X11_holders, mini_X11, mcode_X11_holders⟩, rfl, ⟨by decide, by decide, by decide +kernel⟩⟩
theorem mlL_100 : tables_1[1337]? = some (Cond.methodLink RL 100 yX12_holders) := by decide +kernel
theorem minst_X12_holders : Cond.instanceMethod yX12_holders ∈ bigW := bw_t 1338 (by decide +kernel) rfl
theorem msel_X12_holders : Cond.selects RX12 yX12_holders yX12_holders ∈ bigW := bw_t 1339 (by decide +kernel) rfl
theorem mcode_X12_holders : Cond.code yX12_holders cX12_holders 6 (some .int) ∈ bigW := bw_t 1340 (by decide +kernel) rfl
theorem lkL_100 : LkV RL 100 RX12 yX12_holders cX12_holders 6 (some .int) 1 := ⟨⟨bw_t 1337 mlL_100 rfl, minst_X12_holders, msel_X12_holders, mini_X12, mcode_X12_holders⟩, rfl, ⟨by decide, by decide, by decide +kernel⟩⟩
theorem mlL_101 : tables_1[689]? = some (Cond.methodLink RL 101 yX11_way) := by decide +kernel
theorem minst_X11_way : Cond.instanceMethod yX11_way ∈ bigW := bw_t 690 (by decide +kernel) rfl
theorem msel_X11_way : Cond.selects RX11 yX11_way yX11_way ∈ bigW := bw_t 691 (by decide +kernel) rfl
theorem mcode_X11_way : Cond.code yX11_way cX11_way 4 (some .int) ∈ bigW := bw_t 692 (by decide +kernel) rfl
theorem lkL_101 : LkV RL 101 RX11 yX11_way cX11_way 4 (some .int) 1 := ⟨⟨bw_t 689 mlL_101 rfl, minst_X11_way, msel_X11_way, mini_X11, mcode_X11_way⟩, rfl, ⟨by decide, by decide, by decide +kernel⟩⟩
theorem mlL_104 : tables_1[1341]? = some (Cond.methodLink RL 104 yX12_way) := by decide +kernel
theorem minst_X12_way : Cond.instanceMethod yX12_way ∈ bigW := bw_t 1342 (by decide +kernel) rfl
theorem msel_X12_way : Cond.selects RX12 yX12_way yX12_way ∈ bigW := bw_t 1343 (by decide +kernel) rfl
theorem mcode_X12_way : Cond.code yX12_way cX12_way 3 (some .int) ∈ bigW := bw_t 1344 (by decide +kernel) rfl
theorem lkL_104 : LkV RL 104 RX12 yX12_way cX12_way 3 (some .int) 1 := ⟨⟨bw_t 1341 mlL_104 rfl, minst_X12_way, msel_X12_way, mini_X12, mcode_X12_way⟩, rfl, ⟨by decide, by decide, by decide +kernel⟩⟩
theorem mlL_105 : tables_1[704]? = some (Cond.methodLink RL 105 yX11_from) := by decide +kernel
theorem minst_X11_from : Cond.instanceMethod yX11_from ∈ bigW := bw_t 705 (by decide +kernel) rfl
theorem msel_X11_from : Cond.selects RX11 yX11_from yX11_from ∈ bigW := bw_t 706 (by decide +kernel) rfl
theorem mcode_X11_from : Cond.code yX11_from cX11_from 3 (some .int) ∈ bigW := bw_t 707 (by decide +kernel) rfl
theorem lkL_105 : LkV RL 105 RX11 yX11_from cX11_from 3 (some .int) 1 := ⟨⟨bw_t 704 mlL_105 rfl, minst_X11_from, msel_X11_from, mini_X11, mcode_X11_from⟩, rfl, ⟨by decide, by decide, by decide +kernel⟩⟩
theorem mlL_108 : tables_1[1353]? = some (Cond.methodLink RL 108 yX12_from) := by decide +kernel
theorem minst_X12_from : Cond.instanceMethod yX12_from ∈ bigW := bw_t 1354 (by decide +kernel) rfl
theorem msel_X12_from : Cond.selects RX12 yX12_from yX12_from ∈ bigW := bw_t 1355 (by decide +kernel) rfl
theorem mcode_X12_from : Cond.code yX12_from cX12_from 2 (some .int) ∈ bigW := bw_t 1356 (by decide +kernel) rfl
theorem lkL_108 : LkV RL 108 RX12 yX12_from cX12_from 2 (some .int) 1 := ⟨⟨bw_t 1353 mlL_108 rfl, minst_X12_from, msel_X12_from, mini_X12, mcode_X12_from⟩, rfl, ⟨by decide, by decide, by decide +kernel⟩⟩
theorem mlL_109 : tables_1[709]? = some (Cond.methodLink RL 109 yX11_rings) := by decide +kernel
theorem minst_X11_rings : Cond.instanceMethod yX11_rings ∈ bigW := bw_t 710 (by decide +kernel) rfl
theorem msel_X11_rings : Cond.selects RX11 yX11_rings yX11_rings ∈ bigW := bw_t 711 (by decide +kernel) rfl
theorem mcode_X11_rings : Cond.code yX11_rings cX11_rings 4 (some .int) ∈ bigW := bw_t 712 (by decide +kernel) rfl
theorem lkL_109 : LkV RL 109 RX11 yX11_rings cX11_rings 4 (some .int) 0 := ⟨⟨bw_t 709 mlL_109 rfl, minst_X11_rings, msel_X11_rings, mini_X11, mcode_X11_rings⟩, rfl, ⟨by decide, by decide, by decide +kernel⟩⟩
theorem mlL_112 : tables_1[1357]? = some (Cond.methodLink RL 112 yX12_rings) := by decide +kernel
theorem minst_X12_rings : Cond.instanceMethod yX12_rings ∈ bigW := bw_t 1358 (by decide +kernel) rfl
theorem msel_X12_rings : Cond.selects RX12 yX12_rings yX12_rings ∈ bigW := bw_t 1359 (by decide +kernel) rfl
theorem mcode_X12_rings : Cond.code yX12_rings cX12_rings 6 (some .int) ∈ bigW := bw_t 1360 (by decide +kernel) rfl
theorem lkL_112 : LkV RL 112 RX12 yX12_rings cX12_rings 6 (some .int) 0 := ⟨⟨bw_t 1357 mlL_112 rfl, minst_X12_rings, msel_X12_rings, mini_X12, mcode_X12_rings⟩, rfl, ⟨by decide, by decide, by decide +kernel⟩⟩
theorem mlL_113 : tables_1[717]? = some (Cond.methodLink RL 113 yX11_alone) := by decide +kernel
theorem minst_X11_alone : Cond.instanceMethod yX11_alone ∈ bigW := bw_t 718 (by decide +kernel) rfl
theorem msel_X11_alone : Cond.selects RX11 yX11_alone yX11_alone ∈ bigW := bw_t 719 (by decide +kernel) rfl
theorem mcode_X11_alone : Cond.code yX11_alone cX11_alone 3 (some .int) ∈ bigW := bw_t 720 (by decide +kernel) rfl
theorem lkL_113 : LkV RL 113 RX11 yX11_alone cX11_alone 3 (some .int) 1 := ⟨⟨bw_t 717 mlL_113 rfl, minst_X11_alone, msel_X11_alone, mini_X11, mcode_X11_alone⟩, rfl, ⟨by decide, by decide, by decide +kernel⟩⟩
theorem mlL_116 : tables_1[1361]? = some (Cond.methodLink RL 116 yX12_alone) := by decide +kernel
theorem minst_X12_alone : Cond.instanceMethod yX12_alone ∈ bigW := bw_t 1362 (by decide +kernel) rfl
theorem msel_X12_alone : Cond.selects RX12 yX12_alone yX12_alone ∈ bigW := bw_t 1363 (by decide +kernel) rfl
theorem mcode_X12_alone : Cond.code yX12_alone cX12_alone 3 (some .int) ∈ bigW := bw_t 1364 (by decide +kernel) rfl
theorem lkL_116 : LkV RL 116 RX12 yX12_alone cX12_alone 3 (some .int) 1 := ⟨⟨bw_t 1361 mlL_116 rfl, minst_X12_alone, msel_X12_alone, mini_X12, mcode_X12_alone⟩, rfl, ⟨by decide, by decide, by decide +kernel⟩⟩
theorem mlL_117 : tables_1[726]? = some (Cond.methodLink RL 117 yX11_keepers) := by decide +kernel
theorem minst_X11_keepers : Cond.instanceMethod yX11_keepers ∈ bigW := bw_t 727 (by decide +kernel) rfl
theorem msel_X11_keepers : Cond.selects RX11 yX11_keepers yX11_keepers ∈ bigW := bw_t 728 (by decide +kernel) rfl
theorem mcode_X11_keepers : Cond.code yX11_keepers cX11_keepers 5 (some .int) ∈ bigW := bw_t 729 (by decide +kernel) rfl
theorem lkL_117 : LkV RL 117 RX11 yX11_keepers cX11_keepers 5 (some .int) 1 := ⟨⟨bw_t 726 mlL_117 rfl, minst_X11_keepers, msel_X11_keepers, mini_X11, mcode_X11_keepers⟩, rfl, ⟨by decide, by decide, by decide +kernel⟩⟩
theorem mlL_120 : tables_1[1369]? = some (Cond.methodLink RL 120 yX12_keepers) := by decide +kernel
theorem minst_X12_keepers : Cond.instanceMethod yX12_keepers ∈ bigW := bw_t 1370 (by decide +kernel) rfl
theorem msel_X12_keepers : Cond.selects RX12 yX12_keepers yX12_keepers ∈ bigW := bw_t 1371 (by decide +kernel) rfl
theorem mcode_X12_keepers : Cond.code yX12_keepers cX12_keepers 4 (some .int) ∈ bigW := bw_t 1372 (by decide +kernel) rfl
theorem lkL_120 : LkV RL 120 RX12 yX12_keepers cX12_keepers 4 (some .int) 1 := ⟨⟨bw_t 1369 mlL_120 rfl, minst_X12_keepers, msel_X12_keepers, mini_X12, mcode_X12_keepers⟩, rfl, ⟨by decide, by decide, by decide +kernel⟩⟩
theorem mlL_121 : tables_1[731]? = some (Cond.methodLink RL 121 yX11_cut) := by decide +kernel
theorem minst_X11_cut : Cond.instanceMethod yX11_cut ∈ bigW := bw_t 732 (by decide +kernel) rfl
theorem msel_X11_cut : Cond.selects RX11 yX11_cut yX11_cut ∈ bigW := bw_t 733 (by decide +kernel) rfl
theorem mcode_X11_cut : Cond.code yX11_cut cX11_cut 3 (some .int) ∈ bigW := bw_t 734 (by decide +kernel) rfl
theorem lkL_121 : LkV RL 121 RX11 yX11_cut cX11_cut 3 (some .int) 2 := ⟨⟨bw_t 731 mlL_121 rfl, minst_X11_cut, msel_X11_cut, mini_X11, mcode_X11_cut⟩, rfl, ⟨by decide, by decide, by decide +kernel⟩⟩
theorem mlL_124 : tables_1[1373]? = some (Cond.methodLink RL 124 yX12_cut) := by decide +kernel
theorem minst_X12_cut : Cond.instanceMethod yX12_cut ∈ bigW := bw_t 1374 (by decide +kernel) rfl
theorem msel_X12_cut : Cond.selects RX12 yX12_cut yX12_cut ∈ bigW := bw_t 1375 (by decide +kernel) rfl
theorem mcode_X12_cut : Cond.code yX12_cut cX12_cut 6 (some .int) ∈ bigW := bw_t 1376 (by decide +kernel) rfl
theorem lkL_124 : LkV RL 124 RX12 yX12_cut cX12_cut 6 (some .int) 2 := ⟨⟨bw_t 1373 mlL_124 rfl, minst_X12_cut, msel_X12_cut, mini_X12, mcode_X12_cut⟩, rfl, ⟨by decide, by decide, by decide +kernel⟩⟩
theorem mlL_125 : tables_1[739]? = some (Cond.methodLink RL 125 yX11_would) := by decide +kernel
theorem minst_X11_would : Cond.instanceMethod yX11_would ∈ bigW := bw_t 740 (by decide +kernel) rfl
theorem msel_X11_would : Cond.selects RX11 yX11_would yX11_would ∈ bigW := bw_t 741 (by decide +kernel) rfl
theorem mcode_X11_would : Cond.code yX11_would cX11_would 2 (some .int) ∈ bigW := bw_t 742 (by decide +kernel) rfl
theorem lkL_125 : LkV RL 125 RX11 yX11_would cX11_would 2 (some .int) 0 := ⟨⟨bw_t 739 mlL_125 rfl, minst_X11_would, msel_X11_would, mini_X11, mcode_X11_would⟩, rfl, ⟨by decide, by decide, by decide +kernel⟩⟩
theorem mlL_128 : tables_1[1385]? = some (Cond.methodLink RL 128 yX12_would) := by decide +kernel
theorem minst_X12_would : Cond.instanceMethod yX12_would ∈ bigW := bw_t 1386 (by decide +kernel) rfl
theorem msel_X12_would : Cond.selects RX12 yX12_would yX12_would ∈ bigW := bw_t 1387 (by decide +kernel) rfl
theorem mcode_X12_would : Cond.code yX12_would cX12_would 5 (some .int) ∈ bigW := bw_t 1388 (by decide +kernel) rfl
theorem lkL_128 : LkV RL 128 RX12 yX12_would cX12_would 5 (some .int) 0 := ⟨⟨bw_t 1385 mlL_128 rfl, minst_X12_would, msel_X12_would, mini_X12, mcode_X12_would⟩, rfl, ⟨by decide, by decide, by decide +kernel⟩⟩
theorem mlL_129 : tables_1[749]? = some (Cond.methodLink RL 129 yX11_settles) := by decide +kernel
theorem minst_X11_settles : Cond.instanceMethod yX11_settles ∈ bigW := bw_t 750 (by decide +kernel) rfl
theorem msel_X11_settles : Cond.selects RX11 yX11_settles yX11_settles ∈ bigW := bw_t 751 (by decide +kernel) rfl
theorem mcode_X11_settles : Cond.code yX11_settles cX11_settles 2 (some .int) ∈ bigW := bw_t 752 (by decide +kernel) rfl
theorem lkL_129 : LkV RL 129 RX11 yX11_settles cX11_settles 2 (some .int) 0 := ⟨⟨bw_t 749 mlL_129 rfl, minst_X11_settles, msel_X11_settles, mini_X11, mcode_X11_settles⟩, rfl, ⟨by decide, by decide, by decide +kernel⟩⟩
theorem mlL_132 : tables_1[1389]? = some (Cond.methodLink RL 132 yX12_settles) := by decide +kernel
theorem minst_X12_settles : Cond.instanceMethod yX12_settles ∈ bigW := bw_t 1390 (by decide +kernel) rfl
theorem msel_X12_settles : Cond.selects RX12 yX12_settles yX12_settles ∈ bigW := bw_t 1391 (by decide +kernel) rfl
theorem mcode_X12_settles : Cond.code yX12_settles cX12_settles 5 (some .int) ∈ bigW := bw_t 1392 (by decide +kernel) rfl
theorem lkL_132 : LkV RL 132 RX12 yX12_settles cX12_settles 5 (some .int) 0 := ⟨⟨bw_t 1389 mlL_132 rfl, minst_X12_settles, msel_X12_settles, mini_X12, mcode_X12_settles⟩, rfl, ⟨by decide, by decide, by decide +kernel⟩⟩
theorem mlL_133 : tables_1[753]? = some (Cond.methodLink RL 133 yX11_ranks) := by decide +kernel
theorem minst_X11_ranks : Cond.instanceMethod yX11_ranks ∈ bigW := bw_t 754 (by decide +kernel) rfl
theorem msel_X11_ranks : Cond.selects RX11 yX11_ranks yX11_ranks ∈ bigW := bw_t 755 (by decide +kernel) rfl
theorem mcode_X11_ranks : Cond.code yX11_ranks cX11_ranks 5 (some .int) ∈ bigW := bw_t 756 (by decide +kernel) rfl
theorem lkL_133 : LkV RL 133 RX11 yX11_ranks cX11_ranks 5 (some .int) 1 := ⟨⟨bw_t 753 mlL_133 rfl, minst_X11_ranks, msel_X11_ranks, mini_X11, mcode_X11_ranks⟩, rfl, ⟨by decide, by decide, by decide +kernel⟩⟩
theorem mlL_136 : tables_1[1393]? = some (Cond.methodLink RL 136 yX12_ranks) := by decide +kernel
theorem minst_X12_ranks : Cond.instanceMethod yX12_ranks ∈ bigW := bw_t 1394 (by decide +kernel) rfl
theorem msel_X12_ranks : Cond.selects RX12 yX12_ranks yX12_ranks ∈ bigW := bw_t 1395 (by decide +kernel) rfl
theorem mcode_X12_ranks : Cond.code yX12_ranks cX12_ranks 5 (some .int) ∈ bigW := bw_t 1396 (by decide +kernel) rfl
theorem lkL_136 : LkV RL 136 RX12 yX12_ranks cX12_ranks 5 (some .int) 1 := ⟨⟨bw_t 1393 mlL_136 rfl, minst_X12_ranks, msel_X12_ranks, mini_X12, mcode_X12_ranks⟩, rfl, ⟨by decide, by decide, by decide +kernel⟩⟩
theorem mlL_139 : tables_1[1402]? = some (Cond.methodLink RL 139 yX12_log) := by decide +kernel
theorem minst_X12_log : Cond.instanceMethod yX12_log ∈ bigW := bw_t 1403 (by decide +kernel) rfl
theorem msel_X12_log : Cond.selects RX12 yX12_log yX12_log ∈ bigW := bw_t 1404 (by decide +kernel) rfl
theorem mcode_X12_log : Cond.code yX12_log cX12_log 4 (some .int) ∈ bigW := bw_t 1405 (by decide +kernel) rfl
theorem lkL_139 : LkV RL 139 RX12 yX12_log cX12_log 4 (some .int) 2 := ⟨⟨bw_t 1402 mlL_139 rfl, minst_X12_log, msel_X12_log, mini_X12, mcode_X12_log⟩, rfl, ⟨by decide, by decide, by decide +kernel⟩⟩
theorem mlL_140 : tables_1[765]? = some (Cond.methodLink RL 140 yX11_logged) := by decide +kernel
theorem minst_X11_logged : Cond.instanceMethod yX11_logged ∈ bigW := bw_t 766 (by decide +kernel) rfl
theorem msel_X11_logged : Cond.selects RX11 yX11_logged yX11_logged ∈ bigW := bw_t 767 (by decide +kernel) rfl
theorem mcode_X11_logged : Cond.code yX11_logged cX11_logged 2 (some .int) ∈ bigW := bw_t 768 (by decide +kernel) rfl
theorem lkL_140 : LkV RL 140 RX11 yX11_logged cX11_logged 2 (some .int) 1 := ⟨⟨bw_t 765 mlL_140 rfl, minst_X11_logged, msel_X11_logged, mini_X11, mcode_X11_logged⟩, rfl, ⟨by decide, by decide, by decide +kernel⟩⟩
theorem mlL_143 : tables_1[1406]? = some (Cond.methodLink RL 143 yX12_logged) := by decide +kernel
theorem minst_X12_logged : Cond.instanceMethod yX12_logged ∈ bigW := bw_t 1407 (by decide +kernel) rfl
theorem msel_X12_logged : Cond.selects RX12 yX12_logged yX12_logged ∈ bigW := bw_t 1408 (by decide +kernel) rfl
theorem mcode_X12_logged : Cond.code yX12_logged cX12_logged 2 (some .int) ∈ bigW := bw_t 1409 (by decide +kernel) rfl
theorem lkL_143 : LkV RL 143 RX12 yX12_logged cX12_logged 2 (some .int) 1 := ⟨⟨bw_t 1406 mlL_143 rfl, minst_X12_logged, msel_X12_logged, mini_X12, mcode_X12_logged⟩, rfl, ⟨by decide, by decide, by decide +kernel⟩⟩
theorem mlL_144 : tables_1[769]? = some (Cond.methodLink RL 144 yX11_day) := by decide +kernel
theorem minst_X11_day : Cond.instanceMethod yX11_day ∈ bigW := bw_t 770 (by decide +kernel) rfl
theorem msel_X11_day : Cond.selects RX11 yX11_day yX11_day ∈ bigW := bw_t 771 (by decide +kernel) rfl
theorem mcode_X11_day : Cond.code yX11_day cX11_day 5 (some .int) ∈ bigW := bw_t 772 (by decide +kernel) rfl
theorem lkL_144 : LkV RL 144 RX11 yX11_day cX11_day 5 (some .int) 0 := ⟨⟨bw_t 769 mlL_144 rfl, minst_X11_day, msel_X11_day, mini_X11, mcode_X11_day⟩, rfl, ⟨by decide, by decide, by decide +kernel⟩⟩
theorem mlL_147 : tables_1[1410]? = some (Cond.methodLink RL 147 yX12_day) := by decide +kernel
theorem minst_X12_day : Cond.instanceMethod yX12_day ∈ bigW := bw_t 1411 (by decide +kernel) rfl
theorem msel_X12_day : Cond.selects RX12 yX12_day yX12_day ∈ bigW := bw_t 1412 (by decide +kernel) rfl
theorem mcode_X12_day : Cond.code yX12_day cX12_day 3 (some .int) ∈ bigW := bw_t 1413 (by decide +kernel) rfl
theorem lkL_147 : LkV RL 147 RX12 yX12_day cX12_day 3 (some .int) 0 := ⟨⟨bw_t 1410 mlL_147 rfl, minst_X12_day, msel_X12_day, mini_X12, mcode_X12_day⟩, rfl, ⟨by decide, by decide, by decide +kernel⟩⟩
theorem mlL_148 : tables_1[809]? = some (Cond.methodLink RL 148 yX11_undo) := by decide +kernel
theorem minst_X11_undo : Cond.instanceMethod yX11_undo ∈ bigW := bw_t 810 (by decide +kernel) rfl
theorem msel_X11_undo : Cond.selects RX11 yX11_undo yX11_undo ∈ bigW := bw_t 811 (by decide +kernel) rfl
theorem mcode_X11_undo : Cond.code yX11_undo cX11_undo 1 (some .int) ∈ bigW := bw_t 812 (by decide +kernel) rfl
theorem lkL_148 : LkV RL 148 RX11 yX11_undo cX11_undo 1 (some .int) 0 := ⟨⟨bw_t 809 mlL_148 rfl, minst_X11_undo, msel_X11_undo, mini_X11, mcode_X11_undo⟩, rfl, ⟨by decide, by decide, by decide +kernel⟩⟩
theorem mlL_151 : tables_1[1064]? = some (Cond.methodLink RL 151 yX12_undo) := by decide +kernel
theorem minst_X12_undo : Cond.instanceMethod yX12_undo ∈ bigW := bw_t 1065 (by decide +kernel) rfl
theorem msel_X12_undo : Cond.selects RX12 yX12_undo yX12_undo ∈ bigW := bw_t 1066 (by decide +kernel) rfl
theorem mcode_X12_undo : Cond.code yX12_undo cX12_undo 1 (some .int) ∈ bigW := bw_t 1067 (by decide +kernel) rfl
theorem lkL_151 : LkV RL 151 RX12 yX12_undo cX12_undo 1 (some .int) 0 := ⟨⟨bw_t 1064 mlL_151 rfl, minst_X12_undo, msel_X12_undo, mini_X12, mcode_X12_undo⟩, rfl, ⟨by decide, by decide, by decide +kernel⟩⟩
theorem mlL_152 : tables_1[817]? = some (Cond.methodLink RL 152 yX11_years) := by decide +kernel
theorem minst_X11_years : Cond.instanceMethod yX11_years ∈ bigW := bw_t 818 (by decide +kernel) rfl
theorem msel_X11_years : Cond.selects RX11 yX11_years yX11_years ∈ bigW := bw_t 819 (by decide +kernel) rfl
theorem mcode_X11_years : Cond.code yX11_years cX11_years 4 (some .int) ∈ bigW := bw_t 820 (by decide +kernel) rfl
theorem lkL_152 : LkV RL 152 RX11 yX11_years cX11_years 4 (some .int) 2 := ⟨⟨bw_t 817 mlL_152 rfl, minst_X11_years, msel_X11_years, mini_X11, mcode_X11_years⟩, rfl, ⟨by decide, by decide, by decide +kernel⟩⟩
theorem mlL_155 : tables_1[1484]? = some (Cond.methodLink RL 155 yX12_years) := by decide +kernel
theorem minst_X12_years : Cond.instanceMethod yX12_years ∈ bigW := bw_t 1485 (by decide +kernel) rfl
theorem msel_X12_years : Cond.selects RX12 yX12_years yX12_years ∈ bigW := bw_t 1486 (by decide +kernel) rfl
theorem mcode_X12_years : Cond.code yX12_years cX12_years 5 (some .int) ∈ bigW := bw_t 1487 (by decide +kernel) rfl
theorem lkL_155 : LkV RL 155 RX12 yX12_years cX12_years 5 (some .int) 2 := ⟨⟨bw_t 1484 mlL_155 rfl, minst_X12_years, msel_X12_years, mini_X12, mcode_X12_years⟩, rfl, ⟨by decide, by decide, by decide +kernel⟩⟩
theorem mlL_156 : tables_1[834]? = some (Cond.methodLink RL 156 yX11_keep) := by decide +kernel
theorem minst_X11_keep : Cond.instanceMethod yX11_keep ∈ bigW := bw_t 835 (by decide +kernel) rfl
theorem msel_X11_keep : Cond.selects RX11 yX11_keep yX11_keep ∈ bigW := bw_t 836 (by decide +kernel) rfl
theorem mcode_X11_keep : Cond.code yX11_keep cX11_keep 2 (some .boolean) ∈ bigW := bw_t 837 (by decide +kernel) rfl
theorem lkL_156 : LkV RL 156 RX11 yX11_keep cX11_keep 2 (some .boolean) 1 := ⟨⟨bw_t 834 mlL_156 rfl, minst_X11_keep, msel_X11_keep, mini_X11, mcode_X11_keep⟩, rfl, ⟨by decide, by decide, by decide +kernel⟩⟩
theorem mlL_159 : tables_1[1502]? = some (Cond.methodLink RL 159 yX12_keep) := by decide +kernel
theorem minst_X12_keep : Cond.instanceMethod yX12_keep ∈ bigW := bw_t 1503 (by decide +kernel) rfl
theorem msel_X12_keep : Cond.selects RX12 yX12_keep yX12_keep ∈ bigW := bw_t 1504 (by decide +kernel) rfl
theorem mcode_X12_keep : Cond.code yX12_keep cX12_keep 2 (some .boolean) ∈ bigW := bw_t 1505 (by decide +kernel) rfl
theorem lkL_159 : LkV RL 159 RX12 yX12_keep cX12_keep 2 (some .boolean) 1 := ⟨⟨bw_t 1502 mlL_159 rfl, minst_X12_keep, msel_X12_keep, mini_X12, mcode_X12_keep⟩, rfl, ⟨by decide, by decide, by decide +kernel⟩⟩
theorem mlL_160 : tables_1[838]? = some (Cond.methodLink RL 160 yX11_again) := by decide +kernel
theorem minst_X11_again : Cond.instanceMethod yX11_again ∈ bigW := bw_t 839 (by decide +kernel) rfl
theorem msel_X11_again : Cond.selects RX11 yX11_again yX11_again ∈ bigW := bw_t 840 (by decide +kernel) rfl
theorem mcode_X11_again : Cond.code yX11_again cX11_again 2 (some .boolean) ∈ bigW := bw_t 841 (by decide +kernel) rfl
theorem lkL_160 : LkV RL 160 RX11 yX11_again cX11_again 2 (some .boolean) 1 := ⟨⟨bw_t 838 mlL_160 rfl, minst_X11_again, msel_X11_again, mini_X11, mcode_X11_again⟩, rfl, ⟨by decide, by decide, by decide +kernel⟩⟩
theorem mlL_163 : tables_1[1506]? = some (Cond.methodLink RL 163 yX12_again) := by decide +kernel
theorem minst_X12_again : Cond.instanceMethod yX12_again ∈ bigW := bw_t 1507 (by decide +kernel) rfl
theorem msel_X12_again : Cond.selects RX12 yX12_again yX12_again ∈ bigW := bw_t 1508 (by decide +kernel) rfl
theorem mcode_X12_again : Cond.code yX12_again cX12_again 2 (some .boolean) ∈ bigW := bw_t 1509 (by decide +kernel) rfl
theorem lkL_163 : LkV RL 163 RX12 yX12_again cX12_again 2 (some .boolean) 1 := ⟨⟨bw_t 1506 mlL_163 rfl, minst_X12_again, msel_X12_again, mini_X12, mcode_X12_again⟩, rfl, ⟨by decide, by decide, by decide +kernel⟩⟩
theorem mlL_164 : tables_1[842]? = some (Cond.methodLink RL 164 yX11_count) := by decide +kernel
theorem minst_X11_count : Cond.instanceMethod yX11_count ∈ bigW := bw_t 843 (by decide +kernel) rfl
theorem msel_X11_count : Cond.selects RX11 yX11_count yX11_count ∈ bigW := bw_t 844 (by decide +kernel) rfl
theorem mcode_X11_count : Cond.code yX11_count cX11_count 2 (some .int) ∈ bigW := bw_t 845 (by decide +kernel) rfl
theorem lkL_164 : LkV RL 164 RX11 yX11_count cX11_count 2 (some .int) 1 := ⟨⟨bw_t 842 mlL_164 rfl, minst_X11_count, msel_X11_count, mini_X11, mcode_X11_count⟩, rfl, ⟨by decide, by decide, by decide +kernel⟩⟩
theorem mlL_167 : tables_1[1510]? = some (Cond.methodLink RL 167 yX12_count) := by decide +kernel
theorem minst_X12_count : Cond.instanceMethod yX12_count ∈ bigW := bw_t 1511 (by decide +kernel) rfl
theorem msel_X12_count : Cond.selects RX12 yX12_count yX12_count ∈ bigW := bw_t 1512 (by decide +kernel) rfl
theorem mcode_X12_count : Cond.code yX12_count cX12_count 2 (some .int) ∈ bigW := bw_t 1513 (by decide +kernel) rfl
theorem lkL_167 : LkV RL 167 RX12 yX12_count cX12_count 2 (some .int) 1 := ⟨⟨bw_t 1510 mlL_167 rfl, minst_X12_count, msel_X12_count, mini_X12, mcode_X12_count⟩, rfl, ⟨by decide, by decide, by decide +kernel⟩⟩
theorem mlL_170 : tables_1[1518]? = some (Cond.methodLink RL 170 yX12_row) := by decide +kernel
theorem minst_X12_row : Cond.instanceMethod yX12_row ∈ bigW := bw_t 1519 (by decide +kernel) rfl
theorem msel_X12_row : Cond.selects RX12 yX12_row yX12_row ∈ bigW := bw_t 1520 (by decide +kernel) rfl
theorem mcode_X12_row : Cond.code yX12_row cX12_row 2 (some .long) ∈ bigW := bw_t 1521 (by decide +kernel) rfl
theorem lkL_170 : LkV RL 170 RX12 yX12_row cX12_row 2 (some .long) 1 := ⟨⟨bw_t 1518 mlL_170 rfl, minst_X12_row, msel_X12_row, mini_X12, mcode_X12_row⟩, rfl, ⟨by decide, by decide, by decide +kernel⟩⟩

