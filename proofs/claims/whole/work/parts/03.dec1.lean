theorem dX11_root_4 : decode cX11_root 4 = .ok (.iload_n 1, 1) := by decide +kernel
theorem dX11_root_5 : decode cX11_root 5 = .ok (.bipush 10, 2) := by decide +kernel
theorem dX11_root_7 : decode cX11_root 7 = .ok (.if_icmp .lt 13, 3) := by decide +kernel
theorem dX11_root_10 : decode cX11_root 10 = .ok (.new 159, 3) := by decide +kernel
theorem dX11_root_13 : decode cX11_root 13 = .ok (.dup, 1) := by decide +kernel
theorem dX11_root_14 : decode cX11_root 14 = .ok (.ldc 203, 2) := by decide +kernel
theorem dX11_root_16 : decode cX11_root 16 = .ok (.invokespecial 163, 3) := by decide +kernel
theorem dX11_root_19 : decode cX11_root 19 = .ok (.athrow, 1) := by decide +kernel
theorem dX11_root_20 : decode cX11_root 20 = .ok (.iload_n 1, 1) := by decide +kernel
theorem dX11_root_21 : decode cX11_root 21 = .ok (.bipush 6, 2) := by decide +kernel
theorem dX11_root_23 : decode cX11_root 23 = .ok (.if_icmp .ge 14, 3) := by decide +kernel
theorem dX11_root_26 : decode cX11_root 26 = .ok (.aload_n 0, 1) := by decide +kernel
theorem dX11_root_27 : decode cX11_root 27 = .ok (.getfield 10, 3) := by decide +kernel
theorem dX11_root_30 : decode cX11_root 30 = .ok (.iload_n 1, 1) := by decide +kernel
theorem dX11_root_31 : decode cX11_root 31 = .ok (.invokevirtual 205, 3) := by decide +kernel
theorem dX11_root_34 : decode cX11_root 34 = .ok (.goto 14, 3) := by decide +kernel
theorem dX11_root_37 : decode cX11_root 37 = .ok (.aload_n 0, 1) := by decide +kernel
theorem dX11_root_38 : decode cX11_root 38 = .ok (.getfield 10, 3) := by decide +kernel
theorem dX11_root_41 : decode cX11_root 41 = .ok (.iload_n 1, 1) := by decide +kernel
theorem dX11_root_42 : decode cX11_root 42 = .ok (.bipush 6, 2) := by decide +kernel
theorem dX11_root_44 : decode cX11_root 44 = .ok (.isub, 1) := by decide +kernel
theorem dX11_root_45 : decode cX11_root 45 = .ok (.invokevirtual 122, 3) := by decide +kernel
theorem dX11_root_48 : decode cX11_root 48 = .ok (.ireturn, 1) := by decide +kernel
theorem dX11_all_0 : decode cX11_all 0 = .ok (.iload_n 1, 1) := by decide +kernel
theorem dX11_all_1 : decode cX11_all 1 = .ok (.tableswitch 96 0 3 #[31, 42, 57, 82], 31) := by decide +kernel
theorem dX11_all_32 : decode cX11_all 32 = .ok (.aload_n 0, 1) := by decide +kernel
theorem dX11_all_33 : decode cX11_all 33 = .ok (.getfield 10, 3) := by decide +kernel
theorem dX11_all_36 : decode cX11_all 36 = .ok (.getfield 208, 3) := by decide +kernel
theorem dX11_all_39 : decode cX11_all 39 = .ok (.istore_n 2, 1) := by decide +kernel
theorem dX11_all_40 : decode cX11_all 40 = .ok (.goto 59, 3) := by decide +kernel
theorem dX11_all_43 : decode cX11_all 43 = .ok (.aload_n 0, 1) := by decide +kernel
theorem dX11_all_44 : decode cX11_all 44 = .ok (.getfield 54, 3) := by decide +kernel
theorem dX11_all_47 : decode cX11_all 47 = .ok (.aload_n 0, 1) := by decide +kernel
theorem dX11_all_48 : decode cX11_all 48 = .ok (.getfield 10, 3) := by decide +kernel
theorem dX11_all_51 : decode cX11_all 51 = .ok (.invokevirtual 188, 3) := by decide +kernel
theorem dX11_all_54 : decode cX11_all 54 = .ok (.istore_n 2, 1) := by decide +kernel
theorem dX11_all_55 : decode cX11_all 55 = .ok (.goto 44, 3) := by decide +kernel
theorem dX11_all_58 : decode cX11_all 58 = .ok (.aload_n 0, 1) := by decide +kernel
theorem dX11_all_59 : decode cX11_all 59 = .ok (.getfield 10, 3) := by decide +kernel
theorem dX11_all_62 : decode cX11_all 62 = .ok (.getfield 208, 3) := by decide +kernel
theorem dX11_all_65 : decode cX11_all 65 = .ok (.aload_n 0, 1) := by decide +kernel
theorem dX11_all_66 : decode cX11_all 66 = .ok (.getfield 54, 3) := by decide +kernel
theorem dX11_all_69 : decode cX11_all 69 = .ok (.aload_n 0, 1) := by decide +kernel
theorem dX11_all_70 : decode cX11_all 70 = .ok (.getfield 10, 3) := by decide +kernel
theorem dX11_all_73 : decode cX11_all 73 = .ok (.invokevirtual 188, 3) := by decide +kernel
theorem dX11_all_76 : decode cX11_all 76 = .ok (.iconst (-1), 1) := by decide +kernel
theorem dX11_all_77 : decode cX11_all 77 = .ok (.ixor, 1) := by decide +kernel
theorem dX11_all_78 : decode cX11_all 78 = .ok (.iand, 1) := by decide +kernel
theorem dX11_all_79 : decode cX11_all 79 = .ok (.istore_n 2, 1) := by decide +kernel
theorem dX11_all_80 : decode cX11_all 80 = .ok (.goto 19, 3) := by decide +kernel
theorem dX11_all_83 : decode cX11_all 83 = .ok (.aload_n 0, 1) := by decide +kernel
theorem dX11_all_84 : decode cX11_all 84 = .ok (.getfield 10, 3) := by decide +kernel
theorem dX11_all_87 : decode cX11_all 87 = .ok (.getfield 149, 3) := by decide +kernel
theorem dX11_all_90 : decode cX11_all 90 = .ok (.getfield 211, 3) := by decide +kernel
theorem dX11_all_93 : decode cX11_all 93 = .ok (.istore_n 2, 1) := by decide +kernel
theorem dX11_all_94 : decode cX11_all 94 = .ok (.goto 5, 3) := by decide +kernel
theorem dX11_all_97 : decode cX11_all 97 = .ok (.iconst (-1), 1) := by decide +kernel
theorem dX11_all_98 : decode cX11_all 98 = .ok (.ireturn, 1) := by decide +kernel
theorem dX11_all_99 : decode cX11_all 99 = .ok (.aload_n 0, 1) := by decide +kernel
theorem dX11_all_100 : decode cX11_all 100 = .ok (.getfield 33, 3) := by decide +kernel
theorem dX11_all_103 : decode cX11_all 103 = .ok (.aload_n 0, 1) := by decide +kernel
theorem dX11_all_104 : decode cX11_all 104 = .ok (.getfield 10, 3) := by decide +kernel
theorem dX11_all_107 : decode cX11_all 107 = .ok (.iload_n 2, 1) := by decide +kernel
theorem dX11_all_108 : decode cX11_all 108 = .ok (.invokevirtual 214, 3) := by decide +kernel
theorem dX11_all_111 : decode cX11_all 111 = .ok (.i2l, 1) := by decide +kernel
theorem dX11_all_112 : decode cX11_all 112 = .ok (.invokevirtual 114, 3) := by decide +kernel
theorem dX11_all_115 : decode cX11_all 115 = .ok (.iload_n 2, 1) := by decide +kernel
theorem dX11_all_116 : decode cX11_all 116 = .ok (.ireturn, 1) := by decide +kernel
theorem dX11_list_0 : decode cX11_list 0 = .ok (.aload_n 0, 1) := by decide +kernel
theorem dX11_list_1 : decode cX11_list 1 = .ok (.getfield 33, 3) := by decide +kernel
theorem dX11_list_4 : decode cX11_list 4 = .ok (.invokevirtual 217, 3) := by decide +kernel
theorem dX11_list_7 : decode cX11_list 7 = .ok (.iconst 0, 1) := by decide +kernel
theorem dX11_list_8 : decode cX11_list 8 = .ok (.istore_n 1, 1) := by decide +kernel
theorem dX11_list_9 : decode cX11_list 9 = .ok (.iload_n 1, 1) := by decide +kernel
theorem dX11_list_10 : decode cX11_list 10 = .ok (.aload_n 0, 1) := by decide +kernel
theorem dX11_list_11 : decode cX11_list 11 = .ok (.getfield 10, 3) := by decide +kernel
theorem dX11_list_14 : decode cX11_list 14 = .ok (.getfield 149, 3) := by decide +kernel
theorem dX11_list_17 : decode cX11_list 17 = .ok (.getfield 153, 3) := by decide +kernel
theorem dX11_list_20 : decode cX11_list 20 = .ok (.if_icmp .ge 29, 3) := by decide +kernel
theorem dX11_list_23 : decode cX11_list 23 = .ok (.aload_n 0, 1) := by decide +kernel
theorem dX11_list_24 : decode cX11_list 24 = .ok (.getfield 33, 3) := by decide +kernel
theorem dX11_list_27 : decode cX11_list 27 = .ok (.aload_n 0, 1) := by decide +kernel
theorem dX11_list_28 : decode cX11_list 28 = .ok (.getfield 10, 3) := by decide +kernel
theorem dX11_list_31 : decode cX11_list 31 = .ok (.getfield 149, 3) := by decide +kernel
theorem dX11_list_34 : decode cX11_list 34 = .ok (.getfield 220, 3) := by decide +kernel
theorem dX11_list_37 : decode cX11_list 37 = .ok (.iload_n 1, 1) := by decide +kernel
theorem dX11_list_38 : decode cX11_list 38 = .ok (.iaload, 1) := by decide +kernel
theorem dX11_list_39 : decode cX11_list 39 = .ok (.i2l, 1) := by decide +kernel
theorem dX11_list_40 : decode cX11_list 40 = .ok (.invokevirtual 223, 3) := by decide +kernel
theorem dX11_list_43 : decode cX11_list 43 = .ok (.iinc 1 1, 3) := by decide +kernel
theorem dX11_list_46 : decode cX11_list 46 = .ok (.goto (-37), 3) := by decide +kernel
theorem dX11_list_49 : decode cX11_list 49 = .ok (.aload_n 0, 1) := by decide +kernel
theorem dX11_list_50 : decode cX11_list 50 = .ok (.getfield 10, 3) := by decide +kernel
theorem dX11_list_53 : decode cX11_list 53 = .ok (.getfield 149, 3) := by decide +kernel
theorem dX11_list_56 : decode cX11_list 56 = .ok (.getfield 153, 3) := by decide +kernel
theorem dX11_list_59 : decode cX11_list 59 = .ok (.ireturn, 1) := by decide +kernel
theorem dX11_holders_0 : decode cX11_holders 0 = .ok (.aload_n 0, 1) := by decide +kernel
theorem dX11_holders_1 : decode cX11_holders 1 = .ok (.getfield 10, 3) := by decide +kernel
theorem dX11_holders_4 : decode cX11_holders 4 = .ok (.iload_n 1, 1) := by decide +kernel
theorem dX11_holders_5 : decode cX11_holders 5 = .ok (.invokevirtual 156, 3) := by decide +kernel
theorem dX11_holders_8 : decode cX11_holders 8 = .ok (.ifCond .ne 5, 3) := by decide +kernel
theorem dX11_holders_11 : decode cX11_holders 11 = .ok (.iconst (-1), 1) := by decide +kernel
theorem dX11_holders_12 : decode cX11_holders 12 = .ok (.ireturn, 1) := by decide +kernel
theorem dX11_holders_13 : decode cX11_holders 13 = .ok (.iconst 0, 1) := by decide +kernel
theorem dX11_holders_14 : decode cX11_holders 14 = .ok (.istore_n 2, 1) := by decide +kernel
theorem dX11_holders_15 : decode cX11_holders 15 = .ok (.iconst 0, 1) := by decide +kernel
theorem dX11_holders_16 : decode cX11_holders 16 = .ok (.istore_n 3, 1) := by decide +kernel
theorem dX11_holders_17 : decode cX11_holders 17 = .ok (.iload_n 3, 1) := by decide +kernel
theorem dX11_holders_18 : decode cX11_holders 18 = .ok (.bipush 24, 2) := by decide +kernel
theorem dX11_holders_20 : decode cX11_holders 20 = .ok (.if_icmp .ge 26, 3) := by decide +kernel
theorem dX11_holders_23 : decode cX11_holders 23 = .ok (.iload_n 2, 1) := by decide +kernel
theorem dX11_holders_24 : decode cX11_holders 24 = .ok (.aload_n 0, 1) := by decide +kernel
theorem dX11_holders_25 : decode cX11_holders 25 = .ok (.getfield 10, 3) := by decide +kernel
theorem dX11_holders_28 : decode cX11_holders 28 = .ok (.iload_n 3, 1) := by decide +kernel
theorem dX11_holders_29 : decode cX11_holders 29 = .ok (.invokevirtual 226, 3) := by decide +kernel
theorem dX11_holders_32 : decode cX11_holders 32 = .ok (.iload_n 1, 1) := by decide +kernel
theorem dX11_holders_33 : decode cX11_holders 33 = .ok (.invokestatic 181, 3) := by decide +kernel
theorem dX11_holders_36 : decode cX11_holders 36 = .ok (.iload_n 3, 1) := by decide +kernel
theorem dX11_holders_37 : decode cX11_holders 37 = .ok (.ishl, 1) := by decide +kernel
theorem dX11_holders_38 : decode cX11_holders 38 = .ok (.ior, 1) := by decide +kernel
theorem dX11_holders_39 : decode cX11_holders 39 = .ok (.istore_n 2, 1) := by decide +kernel
theorem dX11_holders_40 : decode cX11_holders 40 = .ok (.iinc 3 1, 3) := by decide +kernel
theorem dX11_holders_43 : decode cX11_holders 43 = .ok (.goto (-26), 3) := by decide +kernel
theorem dX11_holders_46 : decode cX11_holders 46 = .ok (.aload_n 0, 1) := by decide +kernel
theorem dX11_holders_47 : decode cX11_holders 47 = .ok (.getfield 33, 3) := by decide +kernel
theorem dX11_holders_50 : decode cX11_holders 50 = .ok (.aload_n 0, 1) := by decide +kernel
theorem dX11_holders_51 : decode cX11_holders 51 = .ok (.getfield 10, 3) := by decide +kernel
theorem dX11_holders_54 : decode cX11_holders 54 = .ok (.getfield 229, 3) := by decide +kernel
theorem dX11_holders_57 : decode cX11_holders 57 = .ok (.iload_n 1, 1) := by decide +kernel
theorem dX11_holders_58 : decode cX11_holders 58 = .ok (.invokestatic 232, 3) := by decide +kernel
theorem dX11_holders_61 : decode cX11_holders 61 = .ok (.i2l, 1) := by decide +kernel
theorem dX11_holders_62 : decode cX11_holders 62 = .ok (.aload_n 0, 1) := by decide +kernel
theorem dX11_holders_63 : decode cX11_holders 63 = .ok (.getfield 10, 3) := by decide +kernel
theorem dX11_holders_66 : decode cX11_holders 66 = .ok (.getfield 236, 3) := by decide +kernel
theorem dX11_holders_69 : decode cX11_holders 69 = .ok (.iload_n 1, 1) := by decide +kernel
theorem dX11_holders_70 : decode cX11_holders 70 = .ok (.invokestatic 232, 3) := by decide +kernel
theorem dX11_holders_73 : decode cX11_holders 73 = .ok (.i2l, 1) := by decide +kernel
theorem dX11_holders_74 : decode cX11_holders 74 = .ok (.invokevirtual 140, 3) := by decide +kernel
theorem dX11_holders_77 : decode cX11_holders 77 = .ok (.iload_n 2, 1) := by decide +kernel
theorem dX11_holders_78 : decode cX11_holders 78 = .ok (.ireturn, 1) := by decide +kernel
theorem dX11_placesOf_0 : decode cX11_placesOf 0 = .ok (.iconst 0, 1) := by decide +kernel
theorem dX11_placesOf_1 : decode cX11_placesOf 1 = .ok (.istore_n 2, 1) := by decide +kernel
theorem dX11_placesOf_2 : decode cX11_placesOf 2 = .ok (.iconst 0, 1) := by decide +kernel
theorem dX11_placesOf_3 : decode cX11_placesOf 3 = .ok (.istore_n 3, 1) := by decide +kernel
theorem dX11_placesOf_4 : decode cX11_placesOf 4 = .ok (.iload_n 3, 1) := by decide +kernel
theorem dX11_placesOf_5 : decode cX11_placesOf 5 = .ok (.aload_n 0, 1) := by decide +kernel
theorem dX11_placesOf_6 : decode cX11_placesOf 6 = .ok (.arraylength, 1) := by decide +kernel
theorem dX11_placesOf_7 : decode cX11_placesOf 7 = .ok (.if_icmp .ge 26, 3) := by decide +kernel
theorem dX11_placesOf_10 : decode cX11_placesOf 10 = .ok (.iload_n 2, 1) := by decide +kernel
theorem dX11_placesOf_11 : decode cX11_placesOf 11 = .ok (.aload_n 0, 1) := by decide +kernel
theorem dX11_placesOf_12 : decode cX11_placesOf 12 = .ok (.iload_n 3, 1) := by decide +kernel
theorem dX11_placesOf_13 : decode cX11_placesOf 13 = .ok (.iaload, 1) := by decide +kernel
theorem dX11_placesOf_14 : decode cX11_placesOf 14 = .ok (.iload_n 1, 1) := by decide +kernel
theorem dX11_placesOf_15 : decode cX11_placesOf 15 = .ok (.if_icmp .ne 7, 3) := by decide +kernel
theorem dX11_placesOf_18 : decode cX11_placesOf 18 = .ok (.iconst 1, 1) := by decide +kernel
theorem dX11_placesOf_19 : decode cX11_placesOf 19 = .ok (.goto 4, 3) := by decide +kernel
theorem dX11_placesOf_22 : decode cX11_placesOf 22 = .ok (.iconst 0, 1) := by decide +kernel
theorem dX11_placesOf_23 : decode cX11_placesOf 23 = .ok (.iload_n 3, 1) := by decide +kernel
theorem dX11_placesOf_24 : decode cX11_placesOf 24 = .ok (.ishl, 1) := by decide +kernel
theorem dX11_placesOf_25 : decode cX11_placesOf 25 = .ok (.ior, 1) := by decide +kernel
theorem dX11_placesOf_26 : decode cX11_placesOf 26 = .ok (.istore_n 2, 1) := by decide +kernel
theorem dX11_placesOf_27 : decode cX11_placesOf 27 = .ok (.iinc 3 1, 3) := by decide +kernel
theorem dX11_placesOf_30 : decode cX11_placesOf 30 = .ok (.goto (-26), 3) := by decide +kernel
theorem dX11_placesOf_33 : decode cX11_placesOf 33 = .ok (.iload_n 2, 1) := by decide +kernel
theorem dX11_placesOf_34 : decode cX11_placesOf 34 = .ok (.ireturn, 1) := by decide +kernel
theorem dX11_way_0 : decode cX11_way 0 = .ok (.aload_n 0, 1) := by decide +kernel
theorem dX11_way_1 : decode cX11_way 1 = .ok (.getfield 10, 3) := by decide +kernel
theorem dX11_way_4 : decode cX11_way 4 = .ok (.iload_n 1, 1) := by decide +kernel
theorem dX11_way_5 : decode cX11_way 5 = .ok (.invokevirtual 156, 3) := by decide +kernel
theorem dX11_way_8 : decode cX11_way 8 = .ok (.ifCond .ne 5, 3) := by decide +kernel
theorem dX11_way_11 : decode cX11_way 11 = .ok (.iconst (-1), 1) := by decide +kernel
theorem dX11_way_12 : decode cX11_way 12 = .ok (.ireturn, 1) := by decide +kernel
theorem dX11_way_13 : decode cX11_way 13 = .ok (.aload_n 0, 1) := by decide +kernel
theorem dX11_way_14 : decode cX11_way 14 = .ok (.getfield 54, 3) := by decide +kernel
theorem dX11_way_17 : decode cX11_way 17 = .ok (.aload_n 0, 1) := by decide +kernel
theorem dX11_way_18 : decode cX11_way 18 = .ok (.getfield 10, 3) := by decide +kernel
theorem dX11_way_21 : decode cX11_way 21 = .ok (.iload_n 1, 1) := by decide +kernel
theorem dX11_way_22 : decode cX11_way 22 = .ok (.invokevirtual 239, 3) := by decide +kernel
theorem dX11_way_25 : decode cX11_way 25 = .ok (.aload_n 0, 1) := by decide +kernel
theorem dX11_way_26 : decode cX11_way 26 = .ok (.getfield 54, 3) := by decide +kernel
theorem dX11_way_29 : decode cX11_way 29 = .ok (.aload_n 0, 1) := by decide +kernel
theorem dX11_way_30 : decode cX11_way 30 = .ok (.getfield 10, 3) := by decide +kernel
theorem dX11_way_33 : decode cX11_way 33 = .ok (.iconst 0, 1) := by decide +kernel
theorem dX11_way_34 : decode cX11_way 34 = .ok (.invokevirtual 243, 3) := by decide +kernel
theorem dX11_way_37 : decode cX11_way 37 = .ok (.invokevirtual 246, 3) := by decide +kernel
theorem dX11_way_40 : decode cX11_way 40 = .ok (.istore_n 2, 1) := by decide +kernel
theorem dX11_way_41 : decode cX11_way 41 = .ok (.iload_n 2, 1) := by decide +kernel
theorem dX11_way_42 : decode cX11_way 42 = .ok (.iconst (-1), 1) := by decide +kernel
theorem dX11_way_43 : decode cX11_way 43 = .ok (.if_icmp .ne 6, 3) := by decide +kernel
theorem dX11_way_46 : decode cX11_way 46 = .ok (.bipush (-2), 2) := by decide +kernel
theorem dX11_way_48 : decode cX11_way 48 = .ok (.ireturn, 1) := by decide +kernel
theorem dX11_way_49 : decode cX11_way 49 = .ok (.aload_n 0, 1) := by decide +kernel
theorem dX11_way_50 : decode cX11_way 50 = .ok (.getfield 33, 3) := by decide +kernel
theorem dX11_way_53 : decode cX11_way 53 = .ok (.invokevirtual 217, 3) := by decide +kernel
theorem dX11_way_56 : decode cX11_way 56 = .ok (.aload_n 0, 1) := by decide +kernel
theorem dX11_way_57 : decode cX11_way 57 = .ok (.getfield 33, 3) := by decide +kernel
theorem dX11_way_60 : decode cX11_way 60 = .ok (.iload_n 2, 1) := by decide +kernel
theorem dX11_way_61 : decode cX11_way 61 = .ok (.i2l, 1) := by decide +kernel
theorem dX11_way_62 : decode cX11_way 62 = .ok (.invokevirtual 223, 3) := by decide +kernel
theorem dX11_way_65 : decode cX11_way 65 = .ok (.aload_n 0, 1) := by decide +kernel
theorem dX11_way_66 : decode cX11_way 66 = .ok (.getfield 54, 3) := by decide +kernel
theorem dX11_way_69 : decode cX11_way 69 = .ok (.getfield 249, 3) := by decide +kernel
theorem dX11_way_72 : decode cX11_way 72 = .ok (.iload_n 2, 1) := by decide +kernel
theorem dX11_way_73 : decode cX11_way 73 = .ok (.iaload, 1) := by decide +kernel
theorem dX11_way_74 : decode cX11_way 74 = .ok (.istore_n 3, 1) := by decide +kernel
theorem dX11_way_75 : decode cX11_way 75 = .ok (.iload_n 3, 1) := by decide +kernel
theorem dX11_way_76 : decode cX11_way 76 = .ok (.ifCond .le 39, 3) := by decide +kernel
theorem dX11_way_79 : decode cX11_way 79 = .ok (.iload_n 2, 1) := by decide +kernel
theorem dX11_way_80 : decode cX11_way 80 = .ok (.iconst (-1), 1) := by decide +kernel
theorem dX11_way_81 : decode cX11_way 81 = .ok (.if_icmp .eq 34, 3) := by decide +kernel
theorem dX11_way_84 : decode cX11_way 84 = .ok (.aload_n 0, 1) := by decide +kernel
theorem dX11_way_85 : decode cX11_way 85 = .ok (.getfield 54, 3) := by decide +kernel
theorem dX11_way_88 : decode cX11_way 88 = .ok (.aload_n 0, 1) := by decide +kernel
theorem dX11_way_89 : decode cX11_way 89 = .ok (.getfield 10, 3) := by decide +kernel
theorem dX11_way_92 : decode cX11_way 92 = .ok (.iload_n 2, 1) := by decide +kernel
theorem dX11_way_93 : decode cX11_way 93 = .ok (.invokevirtual 226, 3) := by decide +kernel
theorem dX11_way_96 : decode cX11_way 96 = .ok (.invokevirtual 246, 3) := by decide +kernel
theorem dX11_way_99 : decode cX11_way 99 = .ok (.istore_n 2, 1) := by decide +kernel
theorem dX11_way_100 : decode cX11_way 100 = .ok (.aload_n 0, 1) := by decide +kernel
theorem dX11_way_101 : decode cX11_way 101 = .ok (.getfield 33, 3) := by decide +kernel
theorem dX11_way_104 : decode cX11_way 104 = .ok (.iload_n 2, 1) := by decide +kernel
theorem dX11_way_105 : decode cX11_way 105 = .ok (.i2l, 1) := by decide +kernel
theorem dX11_way_106 : decode cX11_way 106 = .ok (.invokevirtual 223, 3) := by decide +kernel
theorem dX11_way_109 : decode cX11_way 109 = .ok (.iinc 3 (-1), 3) := by decide +kernel
theorem dX11_way_112 : decode cX11_way 112 = .ok (.goto (-37), 3) := by decide +kernel
theorem dX11_way_115 : decode cX11_way 115 = .ok (.aload_n 0, 1) := by decide +kernel
theorem dX11_way_116 : decode cX11_way 116 = .ok (.getfield 33, 3) := by decide +kernel
theorem dX11_way_119 : decode cX11_way 119 = .ok (.getfield 252, 3) := by decide +kernel
theorem dX11_way_122 : decode cX11_way 122 = .ok (.ireturn, 1) := by decide +kernel
theorem dX11_from_0 : decode cX11_from 0 = .ok (.aload_n 0, 1) := by decide +kernel
theorem dX11_from_1 : decode cX11_from 1 = .ok (.getfield 10, 3) := by decide +kernel
theorem dX11_from_4 : decode cX11_from 4 = .ok (.iload_n 1, 1) := by decide +kernel
theorem dX11_from_5 : decode cX11_from 5 = .ok (.invokevirtual 156, 3) := by decide +kernel
theorem dX11_from_8 : decode cX11_from 8 = .ok (.ifCond .ne 5, 3) := by decide +kernel
theorem dX11_from_11 : decode cX11_from 11 = .ok (.iconst (-1), 1) := by decide +kernel
theorem dX11_from_12 : decode cX11_from 12 = .ok (.ireturn, 1) := by decide +kernel
theorem dX11_from_13 : decode cX11_from 13 = .ok (.aload_n 0, 1) := by decide +kernel
theorem dX11_from_14 : decode cX11_from 14 = .ok (.getfield 54, 3) := by decide +kernel
theorem dX11_from_17 : decode cX11_from 17 = .ok (.aload_n 0, 1) := by decide +kernel
theorem dX11_from_18 : decode cX11_from 18 = .ok (.getfield 10, 3) := by decide +kernel
theorem dX11_from_21 : decode cX11_from 21 = .ok (.aload_n 0, 1) := by decide +kernel
theorem dX11_from_22 : decode cX11_from 22 = .ok (.getfield 10, 3) := by decide +kernel
theorem dX11_from_25 : decode cX11_from 25 = .ok (.iload_n 1, 1) := by decide +kernel
theorem dX11_from_26 : decode cX11_from 26 = .ok (.invokevirtual 226, 3) := by decide +kernel
theorem dX11_from_29 : decode cX11_from 29 = .ok (.iconst 0, 1) := by decide +kernel
theorem dX11_from_30 : decode cX11_from 30 = .ok (.invokevirtual 253, 3) := by decide +kernel
theorem dX11_from_33 : decode cX11_from 33 = .ok (.istore_n 2, 1) := by decide +kernel
theorem dX11_from_34 : decode cX11_from 34 = .ok (.aload_n 0, 1) := by decide +kernel
theorem dX11_from_35 : decode cX11_from 35 = .ok (.getfield 33, 3) := by decide +kernel
theorem dX11_from_38 : decode cX11_from 38 = .ok (.iload_n 2, 1) := by decide +kernel
theorem dX11_from_39 : decode cX11_from 39 = .ok (.iload_n 1, 1) := by decide +kernel
theorem dX11_from_40 : decode cX11_from 40 = .ok (.invokestatic 181, 3) := by decide +kernel
theorem dX11_from_43 : decode cX11_from 43 = .ok (.i2l, 1) := by decide +kernel
theorem dX11_from_44 : decode cX11_from 44 = .ok (.invokevirtual 114, 3) := by decide +kernel
theorem dX11_from_47 : decode cX11_from 47 = .ok (.iload_n 2, 1) := by decide +kernel
theorem dX11_from_48 : decode cX11_from 48 = .ok (.iconst 1, 1) := by decide +kernel
theorem dX11_from_49 : decode cX11_from 49 = .ok (.iload_n 1, 1) := by decide +kernel
theorem dX11_from_50 : decode cX11_from 50 = .ok (.ishl, 1) := by decide +kernel
theorem dX11_from_51 : decode cX11_from 51 = .ok (.ior, 1) := by decide +kernel
theorem dX11_from_52 : decode cX11_from 52 = .ok (.ireturn, 1) := by decide +kernel
theorem dX11_rings_0 : decode cX11_rings 0 = .ok (.iconst 0, 1) := by decide +kernel
theorem dX11_rings_1 : decode cX11_rings 1 = .ok (.istore_n 1, 1) := by decide +kernel
theorem dX11_rings_2 : decode cX11_rings 2 = .ok (.iload_n 1, 1) := by decide +kernel
theorem dX11_rings_3 : decode cX11_rings 3 = .ok (.bipush 24, 2) := by decide +kernel
theorem dX11_rings_5 : decode cX11_rings 5 = .ok (.if_icmp .ge 35, 3) := by decide +kernel
theorem dX11_rings_8 : decode cX11_rings 8 = .ok (.aload_n 0, 1) := by decide +kernel
theorem dX11_rings_9 : decode cX11_rings 9 = .ok (.getfield 83, 3) := by decide +kernel
theorem dX11_rings_12 : decode cX11_rings 12 = .ok (.iload_n 1, 1) := by decide +kernel
theorem dX11_rings_13 : decode cX11_rings 13 = .ok (.aload_n 0, 1) := by decide +kernel
theorem dX11_rings_14 : decode cX11_rings 14 = .ok (.getfield 54, 3) := by decide +kernel
theorem dX11_rings_17 : decode cX11_rings 17 = .ok (.aload_n 0, 1) := by decide +kernel
theorem dX11_rings_18 : decode cX11_rings 18 = .ok (.getfield 10, 3) := by decide +kernel
theorem dX11_rings_21 : decode cX11_rings 21 = .ok (.aload_n 0, 1) := by decide +kernel
theorem dX11_rings_22 : decode cX11_rings 22 = .ok (.getfield 10, 3) := by decide +kernel
theorem dX11_rings_25 : decode cX11_rings 25 = .ok (.iload_n 1, 1) := by decide +kernel
theorem dX11_rings_26 : decode cX11_rings 26 = .ok (.invokevirtual 226, 3) := by decide +kernel
theorem dX11_rings_29 : decode cX11_rings 29 = .ok (.iconst 0, 1) := by decide +kernel
theorem dX11_rings_30 : decode cX11_rings 30 = .ok (.invokevirtual 253, 3) := by decide +kernel
theorem dX11_rings_33 : decode cX11_rings 33 = .ok (.iastore, 1) := by decide +kernel
theorem dX11_rings_34 : decode cX11_rings 34 = .ok (.iinc 1 1, 3) := by decide +kernel
theorem dX11_rings_37 : decode cX11_rings 37 = .ok (.goto (-35), 3) := by decide +kernel
theorem dX11_rings_40 : decode cX11_rings 40 = .ok (.aload_n 0, 1) := by decide +kernel
theorem dX11_rings_41 : decode cX11_rings 41 = .ok (.getfield 33, 3) := by decide +kernel
theorem dX11_rings_44 : decode cX11_rings 44 = .ok (.invokevirtual 217, 3) := by decide +kernel
theorem dX11_rings_47 : decode cX11_rings 47 = .ok (.iconst 0, 1) := by decide +kernel
theorem dX11_rings_48 : decode cX11_rings 48 = .ok (.istore_n 1, 1) := by decide +kernel
theorem dX11_rings_49 : decode cX11_rings 49 = .ok (.iconst 0, 1) := by decide +kernel
theorem dX11_rings_50 : decode cX11_rings 50 = .ok (.istore_n 2, 1) := by decide +kernel
theorem dX11_rings_51 : decode cX11_rings 51 = .ok (.iload_n 2, 1) := by decide +kernel
theorem dX11_rings_52 : decode cX11_rings 52 = .ok (.bipush 24, 2) := by decide +kernel
theorem dX11_rings_54 : decode cX11_rings 54 = .ok (.if_icmp .ge 50, 3) := by decide +kernel
theorem dX11_rings_57 : decode cX11_rings 57 = .ok (.aload_n 0, 1) := by decide +kernel
theorem dX11_rings_58 : decode cX11_rings 58 = .ok (.getfield 83, 3) := by decide +kernel
theorem dX11_rings_61 : decode cX11_rings 61 = .ok (.iload_n 2, 1) := by decide +kernel
theorem dX11_rings_62 : decode cX11_rings 62 = .ok (.iaload, 1) := by decide +kernel
theorem dX11_rings_63 : decode cX11_rings 63 = .ok (.iload_n 2, 1) := by decide +kernel
theorem dX11_rings_64 : decode cX11_rings 64 = .ok (.invokestatic 181, 3) := by decide +kernel
theorem dX11_rings_67 : decode cX11_rings 67 = .ok (.iconst 1, 1) := by decide +kernel
theorem dX11_rings_68 : decode cX11_rings 68 = .ok (.if_icmp .ne 30, 3) := by decide +kernel
theorem dX11_rings_71 : decode cX11_rings 71 = .ok (.iload_n 1, 1) := by decide +kernel
theorem dX11_rings_72 : decode cX11_rings 72 = .ok (.iload_n 2, 1) := by decide +kernel
theorem dX11_rings_73 : decode cX11_rings 73 = .ok (.invokestatic 181, 3) := by decide +kernel
theorem dX11_rings_76 : decode cX11_rings 76 = .ok (.ifCond .ne 22, 3) := by decide +kernel
theorem dX11_rings_79 : decode cX11_rings 79 = .ok (.aload_n 0, 1) := by decide +kernel
theorem dX11_rings_80 : decode cX11_rings 80 = .ok (.iload_n 2, 1) := by decide +kernel
theorem dX11_rings_81 : decode cX11_rings 81 = .ok (.invokevirtual 257, 3) := by decide +kernel
theorem dX11_rings_84 : decode cX11_rings 84 = .ok (.istore_n 3, 1) := by decide +kernel
theorem dX11_rings_85 : decode cX11_rings 85 = .ok (.iload_n 1, 1) := by decide +kernel
theorem dX11_rings_86 : decode cX11_rings 86 = .ok (.iload_n 3, 1) := by decide +kernel
theorem dX11_rings_87 : decode cX11_rings 87 = .ok (.ior, 1) := by decide +kernel
theorem dX11_rings_88 : decode cX11_rings 88 = .ok (.istore_n 1, 1) := by decide +kernel
theorem dX11_rings_89 : decode cX11_rings 89 = .ok (.aload_n 0, 1) := by decide +kernel
theorem dX11_rings_90 : decode cX11_rings 90 = .ok (.getfield 33, 3) := by decide +kernel
theorem dX11_rings_93 : decode cX11_rings 93 = .ok (.iload_n 3, 1) := by decide +kernel
theorem dX11_rings_94 : decode cX11_rings 94 = .ok (.i2l, 1) := by decide +kernel
theorem dX11_rings_95 : decode cX11_rings 95 = .ok (.invokevirtual 223, 3) := by decide +kernel
theorem dX11_rings_98 : decode cX11_rings 98 = .ok (.iinc 2 1, 3) := by decide +kernel
theorem dX11_rings_101 : decode cX11_rings 101 = .ok (.goto (-50), 3) := by decide +kernel
theorem dX11_rings_104 : decode cX11_rings 104 = .ok (.aload_n 0, 1) := by decide +kernel
theorem dX11_rings_105 : decode cX11_rings 105 = .ok (.getfield 33, 3) := by decide +kernel
theorem dX11_rings_108 : decode cX11_rings 108 = .ok (.getfield 252, 3) := by decide +kernel
theorem dX11_rings_111 : decode cX11_rings 111 = .ok (.ireturn, 1) := by decide +kernel
theorem dX11_ringOf_0 : decode cX11_ringOf 0 = .ok (.iconst 0, 1) := by decide +kernel
theorem dX11_ringOf_1 : decode cX11_ringOf 1 = .ok (.istore_n 2, 1) := by decide +kernel
theorem dX11_ringOf_2 : decode cX11_ringOf 2 = .ok (.iconst 0, 1) := by decide +kernel
theorem dX11_ringOf_3 : decode cX11_ringOf 3 = .ok (.istore_n 3, 1) := by decide +kernel
theorem dX11_ringOf_4 : decode cX11_ringOf 4 = .ok (.iload_n 3, 1) := by decide +kernel
theorem dX11_ringOf_5 : decode cX11_ringOf 5 = .ok (.bipush 24, 2) := by decide +kernel
theorem dX11_ringOf_7 : decode cX11_ringOf 7 = .ok (.if_icmp .ge 35, 3) := by decide +kernel
theorem dX11_ringOf_10 : decode cX11_ringOf 10 = .ok (.iload_n 2, 1) := by decide +kernel
theorem dX11_ringOf_11 : decode cX11_ringOf 11 = .ok (.aload_n 0, 1) := by decide +kernel
theorem dX11_ringOf_12 : decode cX11_ringOf 12 = .ok (.getfield 83, 3) := by decide +kernel
theorem dX11_ringOf_15 : decode cX11_ringOf 15 = .ok (.iload_n 1, 1) := by decide +kernel
theorem dX11_ringOf_16 : decode cX11_ringOf 16 = .ok (.iaload, 1) := by decide +kernel
theorem dX11_ringOf_17 : decode cX11_ringOf 17 = .ok (.iload_n 3, 1) := by decide +kernel
theorem dX11_ringOf_18 : decode cX11_ringOf 18 = .ok (.invokestatic 181, 3) := by decide +kernel
theorem dX11_ringOf_21 : decode cX11_ringOf 21 = .ok (.aload_n 0, 1) := by decide +kernel
theorem dX11_ringOf_22 : decode cX11_ringOf 22 = .ok (.getfield 83, 3) := by decide +kernel
theorem dX11_ringOf_25 : decode cX11_ringOf 25 = .ok (.iload_n 3, 1) := by decide +kernel
theorem dX11_ringOf_26 : decode cX11_ringOf 26 = .ok (.iaload, 1) := by decide +kernel
theorem dX11_ringOf_27 : decode cX11_ringOf 27 = .ok (.iload_n 1, 1) := by decide +kernel
theorem dX11_ringOf_28 : decode cX11_ringOf 28 = .ok (.invokestatic 181, 3) := by decide +kernel
theorem dX11_ringOf_31 : decode cX11_ringOf 31 = .ok (.iand, 1) := by decide +kernel
theorem dX11_ringOf_32 : decode cX11_ringOf 32 = .ok (.iload_n 3, 1) := by decide +kernel
theorem dX11_ringOf_33 : decode cX11_ringOf 33 = .ok (.ishl, 1) := by decide +kernel
theorem dX11_ringOf_34 : decode cX11_ringOf 34 = .ok (.ior, 1) := by decide +kernel
theorem dX11_ringOf_35 : decode cX11_ringOf 35 = .ok (.istore_n 2, 1) := by decide +kernel
theorem dX11_ringOf_36 : decode cX11_ringOf 36 = .ok (.iinc 3 1, 3) := by decide +kernel
theorem dX11_ringOf_39 : decode cX11_ringOf 39 = .ok (.goto (-35), 3) := by decide +kernel
theorem dX11_ringOf_42 : decode cX11_ringOf 42 = .ok (.iload_n 2, 1) := by decide +kernel
theorem dX11_ringOf_43 : decode cX11_ringOf 43 = .ok (.ireturn, 1) := by decide +kernel
theorem dX11_alone_0 : decode cX11_alone 0 = .ok (.aload_n 0, 1) := by decide +kernel
theorem dX11_alone_1 : decode cX11_alone 1 = .ok (.getfield 10, 3) := by decide +kernel
theorem dX11_alone_4 : decode cX11_alone 4 = .ok (.iload_n 1, 1) := by decide +kernel
theorem dX11_alone_5 : decode cX11_alone 5 = .ok (.invokevirtual 156, 3) := by decide +kernel
theorem dX11_alone_8 : decode cX11_alone 8 = .ok (.ifCond .ne 5, 3) := by decide +kernel
theorem dX11_alone_11 : decode cX11_alone 11 = .ok (.iconst (-1), 1) := by decide +kernel
theorem dX11_alone_12 : decode cX11_alone 12 = .ok (.ireturn, 1) := by decide +kernel
theorem dX11_alone_13 : decode cX11_alone 13 = .ok (.aload_n 0, 1) := by decide +kernel
theorem dX11_alone_14 : decode cX11_alone 14 = .ok (.getfield 54, 3) := by decide +kernel
theorem dX11_alone_17 : decode cX11_alone 17 = .ok (.aload_n 0, 1) := by decide +kernel
theorem dX11_alone_18 : decode cX11_alone 18 = .ok (.getfield 10, 3) := by decide +kernel
theorem dX11_alone_21 : decode cX11_alone 21 = .ok (.iload_n 1, 1) := by decide +kernel
theorem dX11_alone_22 : decode cX11_alone 22 = .ok (.invokevirtual 260, 3) := by decide +kernel
theorem dX11_alone_25 : decode cX11_alone 25 = .ok (.istore_n 2, 1) := by decide +kernel
theorem dX11_alone_26 : decode cX11_alone 26 = .ok (.iload_n 2, 1) := by decide +kernel
theorem dX11_alone_27 : decode cX11_alone 27 = .ok (.ifCond .ne 6, 3) := by decide +kernel
theorem dX11_alone_30 : decode cX11_alone 30 = .ok (.bipush (-2), 2) := by decide +kernel
theorem dX11_alone_32 : decode cX11_alone 32 = .ok (.ireturn, 1) := by decide +kernel
theorem dX11_alone_33 : decode cX11_alone 33 = .ok (.aload_n 0, 1) := by decide +kernel
theorem dX11_alone_34 : decode cX11_alone 34 = .ok (.getfield 33, 3) := by decide +kernel
theorem dX11_alone_37 : decode cX11_alone 37 = .ok (.aload_n 0, 1) := by decide +kernel
theorem dX11_alone_38 : decode cX11_alone 38 = .ok (.getfield 10, 3) := by decide +kernel
theorem dX11_alone_41 : decode cX11_alone 41 = .ok (.iload_n 2, 1) := by decide +kernel
theorem dX11_alone_42 : decode cX11_alone 42 = .ok (.invokevirtual 214, 3) := by decide +kernel
theorem dX11_alone_45 : decode cX11_alone 45 = .ok (.i2l, 1) := by decide +kernel
theorem dX11_alone_46 : decode cX11_alone 46 = .ok (.invokevirtual 114, 3) := by decide +kernel
theorem dX11_alone_49 : decode cX11_alone 49 = .ok (.iload_n 2, 1) := by decide +kernel
theorem dX11_alone_50 : decode cX11_alone 50 = .ok (.ireturn, 1) := by decide +kernel
theorem dX11_keepers_0 : decode cX11_keepers 0 = .ok (.aload_n 0, 1) := by decide +kernel
theorem dX11_keepers_1 : decode cX11_keepers 1 = .ok (.getfield 10, 3) := by decide +kernel
theorem dX11_keepers_4 : decode cX11_keepers 4 = .ok (.iload_n 1, 1) := by decide +kernel
theorem dX11_keepers_5 : decode cX11_keepers 5 = .ok (.invokevirtual 156, 3) := by decide +kernel
theorem dX11_keepers_8 : decode cX11_keepers 8 = .ok (.ifCond .ne 5, 3) := by decide +kernel
theorem dX11_keepers_11 : decode cX11_keepers 11 = .ok (.iconst (-1), 1) := by decide +kernel
theorem dX11_keepers_12 : decode cX11_keepers 12 = .ok (.ireturn, 1) := by decide +kernel
theorem dX11_keepers_13 : decode cX11_keepers 13 = .ok (.iconst 0, 1) := by decide +kernel
theorem dX11_keepers_14 : decode cX11_keepers 14 = .ok (.istore_n 2, 1) := by decide +kernel
theorem dX11_keepers_15 : decode cX11_keepers 15 = .ok (.iconst 0, 1) := by decide +kernel
theorem dX11_keepers_16 : decode cX11_keepers 16 = .ok (.istore_n 3, 1) := by decide +kernel
theorem dX11_keepers_17 : decode cX11_keepers 17 = .ok (.iload_n 3, 1) := by decide +kernel
theorem dX11_keepers_18 : decode cX11_keepers 18 = .ok (.bipush 6, 2) := by decide +kernel
theorem dX11_keepers_20 : decode cX11_keepers 20 = .ok (.if_icmp .ge 46, 3) := by decide +kernel
theorem dX11_keepers_23 : decode cX11_keepers 23 = .ok (.aload_n 0, 1) := by decide +kernel
theorem dX11_keepers_24 : decode cX11_keepers 24 = .ok (.getfield 10, 3) := by decide +kernel
theorem dX11_keepers_27 : decode cX11_keepers 27 = .ok (.iconst 1, 1) := by decide +kernel
theorem dX11_keepers_28 : decode cX11_keepers 28 = .ok (.iload_n 3, 1) := by decide +kernel
theorem dX11_keepers_29 : decode cX11_keepers 29 = .ok (.ishl, 1) := by decide +kernel
theorem dX11_keepers_30 : decode cX11_keepers 30 = .ok (.iconst (-1), 1) := by decide +kernel
theorem dX11_keepers_31 : decode cX11_keepers 31 = .ok (.ixor, 1) := by decide +kernel
theorem dX11_keepers_32 : decode cX11_keepers 32 = .ok (.invokevirtual 243, 3) := by decide +kernel
theorem dX11_keepers_35 : decode cX11_keepers 35 = .ok (.istore 4, 2) := by decide +kernel
theorem dX11_keepers_37 : decode cX11_keepers 37 = .ok (.iload_n 2, 1) := by decide +kernel
theorem dX11_keepers_38 : decode cX11_keepers 38 = .ok (.aload_n 0, 1) := by decide +kernel
theorem dX11_keepers_39 : decode cX11_keepers 39 = .ok (.getfield 54, 3) := by decide +kernel
theorem dX11_keepers_42 : decode cX11_keepers 42 = .ok (.aload_n 0, 1) := by decide +kernel
theorem dX11_keepers_43 : decode cX11_keepers 43 = .ok (.getfield 10, 3) := by decide +kernel
theorem dX11_keepers_46 : decode cX11_keepers 46 = .ok (.iload 4, 2) := by decide +kernel
theorem dX11_keepers_48 : decode cX11_keepers 48 = .ok (.iconst 0, 1) := by decide +kernel
theorem dX11_keepers_49 : decode cX11_keepers 49 = .ok (.invokevirtual 253, 3) := by decide +kernel
theorem dX11_keepers_52 : decode cX11_keepers 52 = .ok (.iload_n 1, 1) := by decide +kernel
theorem dX11_keepers_53 : decode cX11_keepers 53 = .ok (.invokestatic 181, 3) := by decide +kernel
theorem dX11_keepers_56 : decode cX11_keepers 56 = .ok (.iload_n 3, 1) := by decide +kernel
theorem dX11_keepers_57 : decode cX11_keepers 57 = .ok (.ishl, 1) := by decide +kernel
theorem dX11_keepers_58 : decode cX11_keepers 58 = .ok (.ior, 1) := by decide +kernel
theorem dX11_keepers_59 : decode cX11_keepers 59 = .ok (.istore_n 2, 1) := by decide +kernel
theorem dX11_keepers_60 : decode cX11_keepers 60 = .ok (.iinc 3 1, 3) := by decide +kernel
theorem dX11_keepers_63 : decode cX11_keepers 63 = .ok (.goto (-46), 3) := by decide +kernel
theorem dX11_keepers_66 : decode cX11_keepers 66 = .ok (.iload_n 2, 1) := by decide +kernel
theorem dX11_keepers_67 : decode cX11_keepers 67 = .ok (.ifCond .ne 6, 3) := by decide +kernel
theorem dX11_keepers_70 : decode cX11_keepers 70 = .ok (.bipush (-2), 2) := by decide +kernel
theorem dX11_keepers_72 : decode cX11_keepers 72 = .ok (.ireturn, 1) := by decide +kernel
theorem dX11_keepers_73 : decode cX11_keepers 73 = .ok (.aload_n 0, 1) := by decide +kernel
theorem dX11_keepers_74 : decode cX11_keepers 74 = .ok (.getfield 54, 3) := by decide +kernel
theorem dX11_keepers_77 : decode cX11_keepers 77 = .ok (.aload_n 0, 1) := by decide +kernel
theorem dX11_keepers_78 : decode cX11_keepers 78 = .ok (.getfield 10, 3) := by decide +kernel
theorem dX11_keepers_81 : decode cX11_keepers 81 = .ok (.aload_n 0, 1) := by decide +kernel
theorem dX11_keepers_82 : decode cX11_keepers 82 = .ok (.getfield 10, 3) := by decide +kernel
theorem dX11_keepers_85 : decode cX11_keepers 85 = .ok (.iload_n 2, 1) := by decide +kernel
theorem dX11_keepers_86 : decode cX11_keepers 86 = .ok (.invokevirtual 243, 3) := by decide +kernel
theorem dX11_keepers_89 : decode cX11_keepers 89 = .ok (.iconst 0, 1) := by decide +kernel
theorem dX11_keepers_90 : decode cX11_keepers 90 = .ok (.invokevirtual 253, 3) := by decide +kernel
theorem dX11_keepers_93 : decode cX11_keepers 93 = .ok (.istore_n 3, 1) := by decide +kernel
theorem dX11_keepers_94 : decode cX11_keepers 94 = .ok (.aload_n 0, 1) := by decide +kernel
theorem dX11_keepers_95 : decode cX11_keepers 95 = .ok (.getfield 33, 3) := by decide +kernel
theorem dX11_keepers_98 : decode cX11_keepers 98 = .ok (.aload_n 0, 1) := by decide +kernel
theorem dX11_keepers_99 : decode cX11_keepers 99 = .ok (.getfield 54, 3) := by decide +kernel
theorem dX11_keepers_102 : decode cX11_keepers 102 = .ok (.aload_n 0, 1) := by decide +kernel
theorem dX11_keepers_103 : decode cX11_keepers 103 = .ok (.getfield 10, 3) := by decide +kernel
theorem dX11_keepers_106 : decode cX11_keepers 106 = .ok (.invokevirtual 188, 3) := by decide +kernel
theorem dX11_keepers_109 : decode cX11_keepers 109 = .ok (.iload_n 3, 1) := by decide +kernel
theorem dX11_keepers_110 : decode cX11_keepers 110 = .ok (.iconst (-1), 1) := by decide +kernel
theorem dX11_keepers_111 : decode cX11_keepers 111 = .ok (.ixor, 1) := by decide +kernel
theorem dX11_keepers_112 : decode cX11_keepers 112 = .ok (.iand, 1) := by decide +kernel
theorem dX11_keepers_113 : decode cX11_keepers 113 = .ok (.invokestatic 264, 3) := by decide +kernel
theorem dX11_keepers_116 : decode cX11_keepers 116 = .ok (.i2l, 1) := by decide +kernel
theorem dX11_keepers_117 : decode cX11_keepers 117 = .ok (.invokevirtual 114, 3) := by decide +kernel
theorem dX11_keepers_120 : decode cX11_keepers 120 = .ok (.iload_n 2, 1) := by decide +kernel
theorem dX11_keepers_121 : decode cX11_keepers 121 = .ok (.ireturn, 1) := by decide +kernel
theorem dX11_cut_0 : decode cX11_cut 0 = .ok (.aload_n 0, 1) := by decide +kernel
theorem dX11_cut_1 : decode cX11_cut 1 = .ok (.getfield 10, 3) := by decide +kernel
theorem dX11_cut_4 : decode cX11_cut 4 = .ok (.iload_n 1, 1) := by decide +kernel
theorem dX11_cut_5 : decode cX11_cut 5 = .ok (.iload_n 2, 1) := by decide +kernel
theorem dX11_cut_6 : decode cX11_cut 6 = .ok (.invokevirtual 194, 3) := by decide +kernel
theorem dX11_cut_9 : decode cX11_cut 9 = .ok (.ifCond .ne 5, 3) := by decide +kernel
theorem dX11_cut_12 : decode cX11_cut 12 = .ok (.iconst (-1), 1) := by decide +kernel
theorem dX11_cut_13 : decode cX11_cut 13 = .ok (.ireturn, 1) := by decide +kernel
theorem dX11_cut_14 : decode cX11_cut 14 = .ok (.aload_n 0, 1) := by decide +kernel
theorem dX11_cut_15 : decode cX11_cut 15 = .ok (.getfield 10, 3) := by decide +kernel
theorem dX11_cut_18 : decode cX11_cut 18 = .ok (.iload_n 1, 1) := by decide +kernel
theorem dX11_cut_19 : decode cX11_cut 19 = .ok (.iload_n 2, 1) := by decide +kernel
theorem dX11_cut_20 : decode cX11_cut 20 = .ok (.invokevirtual 200, 3) := by decide +kernel
theorem dX11_cut_23 : decode cX11_cut 23 = .ok (.iconst (-1), 1) := by decide +kernel
theorem dX11_cut_24 : decode cX11_cut 24 = .ok (.if_icmp .ne 6, 3) := by decide +kernel
theorem dX11_cut_27 : decode cX11_cut 27 = .ok (.bipush (-2), 2) := by decide +kernel
theorem dX11_cut_29 : decode cX11_cut 29 = .ok (.ireturn, 1) := by decide +kernel
theorem dX11_cut_30 : decode cX11_cut 30 = .ok (.aload_n 0, 1) := by decide +kernel
theorem dX11_cut_31 : decode cX11_cut 31 = .ok (.getfield 16, 3) := by decide +kernel
theorem dX11_cut_34 : decode cX11_cut 34 = .ok (.aload_n 0, 1) := by decide +kernel
theorem dX11_cut_35 : decode cX11_cut 35 = .ok (.getfield 10, 3) := by decide +kernel
theorem dX11_cut_38 : decode cX11_cut 38 = .ok (.invokevirtual 269, 3) := by decide +kernel
theorem dX11_cut_41 : decode cX11_cut 41 = .ok (.aload_n 0, 1) := by decide +kernel
theorem dX11_cut_42 : decode cX11_cut 42 = .ok (.getfield 61, 3) := by decide +kernel
theorem dX11_cut_45 : decode cX11_cut 45 = .ok (.aload_n 0, 1) := by decide +kernel
theorem dX11_cut_46 : decode cX11_cut 46 = .ok (.getfield 16, 3) := by decide +kernel
theorem dX11_cut_49 : decode cX11_cut 49 = .ok (.iload_n 1, 1) := by decide +kernel
theorem dX11_cut_50 : decode cX11_cut 50 = .ok (.iload_n 2, 1) := by decide +kernel
theorem dX11_cut_51 : decode cX11_cut 51 = .ok (.iconst (-1), 1) := by decide +kernel
theorem dX11_cut_52 : decode cX11_cut 52 = .ok (.invokevirtual 272, 3) := by decide +kernel
theorem dX11_cut_55 : decode cX11_cut 55 = .ok (.aload_n 0, 1) := by decide +kernel
theorem dX11_cut_56 : decode cX11_cut 56 = .ok (.getfield 33, 3) := by decide +kernel
theorem dX11_cut_59 : decode cX11_cut 59 = .ok (.aload_n 0, 1) := by decide +kernel
theorem dX11_cut_60 : decode cX11_cut 60 = .ok (.getfield 16, 3) := by decide +kernel
theorem dX11_cut_63 : decode cX11_cut 63 = .ok (.getfield 149, 3) := by decide +kernel
theorem dX11_cut_66 : decode cX11_cut 66 = .ok (.getfield 153, 3) := by decide +kernel
theorem dX11_cut_69 : decode cX11_cut 69 = .ok (.i2l, 1) := by decide +kernel
theorem dX11_cut_70 : decode cX11_cut 70 = .ok (.invokevirtual 114, 3) := by decide +kernel
theorem dX11_cut_73 : decode cX11_cut 73 = .ok (.aload_n 0, 1) := by decide +kernel
theorem dX11_cut_74 : decode cX11_cut 74 = .ok (.getfield 10, 3) := by decide +kernel
theorem dX11_cut_77 : decode cX11_cut 77 = .ok (.getfield 208, 3) := by decide +kernel
theorem dX11_cut_80 : decode cX11_cut 80 = .ok (.aload_n 0, 1) := by decide +kernel
theorem dX11_cut_81 : decode cX11_cut 81 = .ok (.getfield 16, 3) := by decide +kernel
theorem dX11_cut_84 : decode cX11_cut 84 = .ok (.getfield 208, 3) := by decide +kernel
theorem dX11_cut_87 : decode cX11_cut 87 = .ok (.iconst (-1), 1) := by decide +kernel
theorem dX11_cut_88 : decode cX11_cut 88 = .ok (.ixor, 1) := by decide +kernel
theorem dX11_cut_89 : decode cX11_cut 89 = .ok (.iand, 1) := by decide +kernel
theorem dX11_cut_90 : decode cX11_cut 90 = .ok (.ireturn, 1) := by decide +kernel
theorem dX11_would_0 : decode cX11_would 0 = .ok (.aload_n 0, 1) := by decide +kernel
theorem dX11_would_1 : decode cX11_would 1 = .ok (.getfield 10, 3) := by decide +kernel
theorem dX11_would_4 : decode cX11_would 4 = .ok (.getfield 149, 3) := by decide +kernel
theorem dX11_would_7 : decode cX11_would 7 = .ok (.getfield 153, 3) := by decide +kernel
theorem dX11_would_10 : decode cX11_would 10 = .ok (.ifCond .ne 6, 3) := by decide +kernel
theorem dX11_would_13 : decode cX11_would 13 = .ok (.bipush (-2), 2) := by decide +kernel
theorem dX11_would_15 : decode cX11_would 15 = .ok (.ireturn, 1) := by decide +kernel
theorem dX11_would_16 : decode cX11_would 16 = .ok (.aload_n 0, 1) := by decide +kernel
theorem dX11_would_17 : decode cX11_would 17 = .ok (.getfield 16, 3) := by decide +kernel
theorem dX11_would_20 : decode cX11_would 20 = .ok (.aload_n 0, 1) := by decide +kernel
theorem dX11_would_21 : decode cX11_would 21 = .ok (.getfield 10, 3) := by decide +kernel
theorem dX11_would_24 : decode cX11_would 24 = .ok (.invokevirtual 269, 3) := by decide +kernel
theorem dX11_would_27 : decode cX11_would 27 = .ok (.aload_n 0, 1) := by decide +kernel
theorem dX11_would_28 : decode cX11_would 28 = .ok (.getfield 70, 3) := by decide +kernel
theorem dX11_would_31 : decode cX11_would 31 = .ok (.aload_n 0, 1) := by decide +kernel
theorem dX11_would_32 : decode cX11_would 32 = .ok (.getfield 16, 3) := by decide +kernel
theorem dX11_would_35 : decode cX11_would 35 = .ok (.invokevirtual 276, 3) := by decide +kernel
theorem dX11_would_38 : decode cX11_would 38 = .ok (.aload_n 0, 1) := by decide +kernel
theorem dX11_would_39 : decode cX11_would 39 = .ok (.getfield 16, 3) := by decide +kernel
theorem dX11_would_42 : decode cX11_would 42 = .ok (.getfield 125, 3) := by decide +kernel
theorem dX11_would_45 : decode cX11_would 45 = .ok (.getfield 134, 3) := by decide +kernel
theorem dX11_would_48 : decode cX11_would 48 = .ok (.iconst 3, 1) := by decide +kernel
theorem dX11_would_49 : decode cX11_would 49 = .ok (.iaload, 1) := by decide +kernel
theorem dX11_would_50 : decode cX11_would 50 = .ok (.aload_n 0, 1) := by decide +kernel
theorem dX11_would_51 : decode cX11_would 51 = .ok (.getfield 10, 3) := by decide +kernel
theorem dX11_would_54 : decode cX11_would 54 = .ok (.getfield 125, 3) := by decide +kernel
theorem dX11_would_57 : decode cX11_would 57 = .ok (.getfield 134, 3) := by decide +kernel
theorem dX11_would_60 : decode cX11_would 60 = .ok (.iconst 3, 1) := by decide +kernel
theorem dX11_would_61 : decode cX11_would 61 = .ok (.iaload, 1) := by decide +kernel
theorem dX11_would_62 : decode cX11_would 62 = .ok (.isub, 1) := by decide +kernel
theorem dX11_would_63 : decode cX11_would 63 = .ok (.istore_n 1, 1) := by decide +kernel
theorem dX11_would_64 : decode cX11_would 64 = .ok (.aload_n 0, 1) := by decide +kernel
theorem dX11_would_65 : decode cX11_would 65 = .ok (.getfield 33, 3) := by decide +kernel
theorem dX11_would_68 : decode cX11_would 68 = .ok (.iload_n 1, 1) := by decide +kernel
theorem dX11_would_69 : decode cX11_would 69 = .ok (.i2l, 1) := by decide +kernel
theorem dX11_would_70 : decode cX11_would 70 = .ok (.aload_n 0, 1) := by decide +kernel
theorem dX11_would_71 : decode cX11_would 71 = .ok (.getfield 70, 3) := by decide +kernel
theorem dX11_would_74 : decode cX11_would 74 = .ok (.getfield 137, 3) := by decide +kernel
theorem dX11_would_77 : decode cX11_would 77 = .ok (.i2l, 1) := by decide +kernel
theorem dX11_would_78 : decode cX11_would 78 = .ok (.aload_n 0, 1) := by decide +kernel
theorem dX11_would_79 : decode cX11_would 79 = .ok (.getfield 16, 3) := by decide +kernel
theorem dX11_would_82 : decode cX11_would 82 = .ok (.getfield 149, 3) := by decide +kernel
theorem dX11_would_85 : decode cX11_would 85 = .ok (.getfield 153, 3) := by decide +kernel
theorem dX11_would_88 : decode cX11_would 88 = .ok (.i2l, 1) := by decide +kernel
theorem dX11_would_89 : decode cX11_would 89 = .ok (.invokevirtual 279, 3) := by decide +kernel
theorem dX11_would_92 : decode cX11_would 92 = .ok (.aload_n 0, 1) := by decide +kernel
theorem dX11_would_93 : decode cX11_would 93 = .ok (.getfield 10, 3) := by decide +kernel
theorem dX11_would_96 : decode cX11_would 96 = .ok (.getfield 208, 3) := by decide +kernel
theorem dX11_would_99 : decode cX11_would 99 = .ok (.aload_n 0, 1) := by decide +kernel
theorem dX11_would_100 : decode cX11_would 100 = .ok (.getfield 16, 3) := by decide +kernel
theorem dX11_would_103 : decode cX11_would 103 = .ok (.getfield 208, 3) := by decide +kernel
theorem dX11_would_106 : decode cX11_would 106 = .ok (.iconst (-1), 1) := by decide +kernel
theorem dX11_would_107 : decode cX11_would 107 = .ok (.ixor, 1) := by decide +kernel
theorem dX11_would_108 : decode cX11_would 108 = .ok (.iand, 1) := by decide +kernel
theorem dX11_would_109 : decode cX11_would 109 = .ok (.ireturn, 1) := by decide +kernel
theorem dX11_settles_0 : decode cX11_settles 0 = .ok (.aload_n 0, 1) := by decide +kernel
theorem dX11_settles_1 : decode cX11_settles 1 = .ok (.getfield 16, 3) := by decide +kernel
theorem dX11_settles_4 : decode cX11_settles 4 = .ok (.aload_n 0, 1) := by decide +kernel
theorem dX11_settles_5 : decode cX11_settles 5 = .ok (.getfield 10, 3) := by decide +kernel
theorem dX11_settles_8 : decode cX11_settles 8 = .ok (.invokevirtual 269, 3) := by decide +kernel
theorem dX11_settles_11 : decode cX11_settles 11 = .ok (.iconst 0, 1) := by decide +kernel
theorem dX11_settles_12 : decode cX11_settles 12 = .ok (.istore_n 1, 1) := by decide +kernel
theorem dX11_settles_13 : decode cX11_settles 13 = .ok (.iload_n 1, 1) := by decide +kernel
theorem dX11_settles_14 : decode cX11_settles 14 = .ok (.bipush 30, 2) := by decide +kernel
theorem dX11_settles_16 : decode cX11_settles 16 = .ok (.if_icmp .ge 33, 3) := by decide +kernel
theorem dX11_settles_19 : decode cX11_settles 19 = .ok (.aload_n 0, 1) := by decide +kernel
theorem dX11_settles_20 : decode cX11_settles 20 = .ok (.getfield 16, 3) := by decide +kernel
theorem dX11_settles_23 : decode cX11_settles 23 = .ok (.getfield 149, 3) := by decide +kernel
theorem dX11_settles_26 : decode cX11_settles 26 = .ok (.getfield 153, 3) := by decide +kernel
theorem dX11_settles_29 : decode cX11_settles 29 = .ok (.ifCond .le 20, 3) := by decide +kernel
theorem dX11_settles_32 : decode cX11_settles 32 = .ok (.aload_n 0, 1) := by decide +kernel
theorem dX11_settles_33 : decode cX11_settles 33 = .ok (.getfield 70, 3) := by decide +kernel
theorem dX11_settles_36 : decode cX11_settles 36 = .ok (.aload_n 0, 1) := by decide +kernel
theorem dX11_settles_37 : decode cX11_settles 37 = .ok (.getfield 16, 3) := by decide +kernel
theorem dX11_settles_40 : decode cX11_settles 40 = .ok (.invokevirtual 276, 3) := by decide +kernel
theorem dX11_settles_43 : decode cX11_settles 43 = .ok (.iinc 1 1, 3) := by decide +kernel
theorem dX11_settles_46 : decode cX11_settles 46 = .ok (.goto (-33), 3) := by decide +kernel
theorem dX11_settles_49 : decode cX11_settles 49 = .ok (.aload_n 0, 1) := by decide +kernel
theorem dX11_settles_50 : decode cX11_settles 50 = .ok (.getfield 16, 3) := by decide +kernel
theorem dX11_settles_53 : decode cX11_settles 53 = .ok (.getfield 149, 3) := by decide +kernel
theorem dX11_settles_56 : decode cX11_settles 56 = .ok (.getfield 153, 3) := by decide +kernel
theorem dX11_settles_59 : decode cX11_settles 59 = .ok (.ifCond .le 6, 3) := by decide +kernel
theorem dX11_settles_62 : decode cX11_settles 62 = .ok (.bipush (-2), 2) := by decide +kernel
theorem dX11_settles_64 : decode cX11_settles 64 = .ok (.ireturn, 1) := by decide +kernel
theorem dX11_settles_65 : decode cX11_settles 65 = .ok (.aload_n 0, 1) := by decide +kernel
theorem dX11_settles_66 : decode cX11_settles 66 = .ok (.getfield 33, 3) := by decide +kernel
theorem dX11_settles_69 : decode cX11_settles 69 = .ok (.aload_n 0, 1) := by decide +kernel
theorem dX11_settles_70 : decode cX11_settles 70 = .ok (.getfield 16, 3) := by decide +kernel
theorem dX11_settles_73 : decode cX11_settles 73 = .ok (.invokevirtual 146, 3) := by decide +kernel
theorem dX11_settles_76 : decode cX11_settles 76 = .ok (.i2l, 1) := by decide +kernel
theorem dX11_settles_77 : decode cX11_settles 77 = .ok (.aload_n 0, 1) := by decide +kernel
theorem dX11_settles_78 : decode cX11_settles 78 = .ok (.getfield 16, 3) := by decide +kernel
theorem dX11_settles_81 : decode cX11_settles 81 = .ok (.invokevirtual 146, 3) := by decide +kernel
theorem dX11_settles_84 : decode cX11_settles 84 = .ok (.aload_n 0, 1) := by decide +kernel
theorem dX11_settles_85 : decode cX11_settles 85 = .ok (.getfield 54, 3) := by decide +kernel
theorem dX11_settles_88 : decode cX11_settles 88 = .ok (.aload_n 0, 1) := by decide +kernel
theorem dX11_settles_89 : decode cX11_settles 89 = .ok (.getfield 16, 3) := by decide +kernel
theorem dX11_settles_92 : decode cX11_settles 92 = .ok (.invokevirtual 188, 3) := by decide +kernel
theorem dX11_settles_95 : decode cX11_settles 95 = .ok (.invokestatic 264, 3) := by decide +kernel
theorem dX11_settles_98 : decode cX11_settles 98 = .ok (.isub, 1) := by decide +kernel
theorem dX11_settles_99 : decode cX11_settles 99 = .ok (.i2l, 1) := by decide +kernel
theorem dX11_settles_100 : decode cX11_settles 100 = .ok (.invokevirtual 140, 3) := by decide +kernel
theorem dX11_settles_103 : decode cX11_settles 103 = .ok (.iload_n 1, 1) := by decide +kernel
theorem dX11_settles_104 : decode cX11_settles 104 = .ok (.ireturn, 1) := by decide +kernel
theorem dX11_ranks_0 : decode cX11_ranks 0 = .ok (.iload_n 1, 1) := by decide +kernel
theorem dX11_ranks_1 : decode cX11_ranks 1 = .ok (.ifCond .lt 8, 3) := by decide +kernel
theorem dX11_ranks_4 : decode cX11_ranks 4 = .ok (.iload_n 1, 1) := by decide +kernel
theorem dX11_ranks_5 : decode cX11_ranks 5 = .ok (.iconst 2, 1) := by decide +kernel
theorem dX11_ranks_6 : decode cX11_ranks 6 = .ok (.if_icmp .le 5, 3) := by decide +kernel
theorem dX11_ranks_9 : decode cX11_ranks 9 = .ok (.iconst (-1), 1) := by decide +kernel
theorem dX11_ranks_10 : decode cX11_ranks 10 = .ok (.ireturn, 1) := by decide +kernel
theorem dX11_ranks_11 : decode cX11_ranks 11 = .ok (.iconst 0, 1) := by decide +kernel
theorem dX11_ranks_12 : decode cX11_ranks 12 = .ok (.istore_n 2, 1) := by decide +kernel
theorem dX11_ranks_13 : decode cX11_ranks 13 = .ok (.iload_n 2, 1) := by decide +kernel
theorem dX11_ranks_14 : decode cX11_ranks 14 = .ok (.bipush 24, 2) := by decide +kernel
theorem dX11_ranks_16 : decode cX11_ranks 16 = .ok (.if_icmp .ge 36, 3) := by decide +kernel
theorem dX11_ranks_19 : decode cX11_ranks 19 = .ok (.aload_n 0, 1) := by decide +kernel
theorem dX11_ranks_20 : decode cX11_ranks 20 = .ok (.getfield 83, 3) := by decide +kernel
theorem dX11_ranks_23 : decode cX11_ranks 23 = .ok (.iload_n 2, 1) := by decide +kernel
theorem dX11_ranks_24 : decode cX11_ranks 24 = .ok (.aload_n 0, 1) := by decide +kernel
theorem dX11_ranks_25 : decode cX11_ranks 25 = .ok (.getfield 10, 3) := by decide +kernel
theorem dX11_ranks_28 : decode cX11_ranks 28 = .ok (.iload_n 2, 1) := by decide +kernel
theorem dX11_ranks_29 : decode cX11_ranks 29 = .ok (.invokevirtual 156, 3) := by decide +kernel
theorem dX11_ranks_32 : decode cX11_ranks 32 = .ok (.ifCond .eq 12, 3) := by decide +kernel
theorem dX11_ranks_35 : decode cX11_ranks 35 = .ok (.aload_n 0, 1) := by decide +kernel
theorem dX11_ranks_36 : decode cX11_ranks 36 = .ok (.iload_n 2, 1) := by decide +kernel
theorem dX11_ranks_37 : decode cX11_ranks 37 = .ok (.iload_n 1, 1) := by decide +kernel
theorem dX11_ranks_38 : decode cX11_ranks 38 = .ok (.invokevirtual 282, 3) := by decide +kernel
theorem dX11_ranks_41 : decode cX11_ranks 41 = .ok (.goto 4, 3) := by decide +kernel
theorem dX11_ranks_44 : decode cX11_ranks 44 = .ok (.iconst (-1), 1) := by decide +kernel
theorem dX11_ranks_45 : decode cX11_ranks 45 = .ok (.iastore, 1) := by decide +kernel
theorem dX11_ranks_46 : decode cX11_ranks 46 = .ok (.iinc 2 1, 3) := by decide +kernel
theorem dX11_ranks_49 : decode cX11_ranks 49 = .ok (.goto (-36), 3) := by decide +kernel
theorem dX11_ranks_52 : decode cX11_ranks 52 = .ok (.aload_n 0, 1) := by decide +kernel
theorem dX11_ranks_53 : decode cX11_ranks 53 = .ok (.getfield 33, 3) := by decide +kernel
theorem dX11_ranks_56 : decode cX11_ranks 56 = .ok (.invokevirtual 217, 3) := by decide +kernel
theorem dX11_ranks_59 : decode cX11_ranks 59 = .ok (.aload_n 0, 1) := by decide +kernel
theorem dX11_ranks_60 : decode cX11_ranks 60 = .ok (.getfield 10, 3) := by decide +kernel
theorem dX11_ranks_63 : decode cX11_ranks 63 = .ok (.getfield 208, 3) := by decide +kernel
theorem dX11_ranks_66 : decode cX11_ranks 66 = .ok (.istore_n 2, 1) := by decide +kernel
theorem dX11_ranks_67 : decode cX11_ranks 67 = .ok (.aload_n 0, 1) := by decide +kernel
theorem dX11_ranks_68 : decode cX11_ranks 68 = .ok (.getfield 10, 3) := by decide +kernel
theorem dX11_ranks_71 : decode cX11_ranks 71 = .ok (.invokevirtual 146, 3) := by decide +kernel
theorem dX11_ranks_74 : decode cX11_ranks 74 = .ok (.istore_n 3, 1) := by decide +kernel
theorem dX11_ranks_75 : decode cX11_ranks 75 = .ok (.iload_n 3, 1) := by decide +kernel
theorem dX11_ranks_76 : decode cX11_ranks 76 = .ok (.ifCond .le 35, 3) := by decide +kernel
theorem dX11_ranks_79 : decode cX11_ranks 79 = .ok (.aload_n 0, 1) := by decide +kernel
theorem dX11_ranks_80 : decode cX11_ranks 80 = .ok (.iload_n 2, 1) := by decide +kernel
theorem dX11_ranks_81 : decode cX11_ranks 81 = .ok (.invokevirtual 285, 3) := by decide +kernel
theorem dX11_ranks_84 : decode cX11_ranks 84 = .ok (.istore 4, 2) := by decide +kernel
theorem dX11_ranks_86 : decode cX11_ranks 86 = .ok (.iload_n 2, 1) := by decide +kernel
theorem dX11_ranks_87 : decode cX11_ranks 87 = .ok (.iconst 1, 1) := by decide +kernel
theorem dX11_ranks_88 : decode cX11_ranks 88 = .ok (.iload 4, 2) := by decide +kernel
theorem dX11_ranks_90 : decode cX11_ranks 90 = .ok (.ishl, 1) := by decide +kernel
theorem dX11_ranks_91 : decode cX11_ranks 91 = .ok (.iconst (-1), 1) := by decide +kernel
theorem dX11_ranks_92 : decode cX11_ranks 92 = .ok (.ixor, 1) := by decide +kernel
theorem dX11_ranks_93 : decode cX11_ranks 93 = .ok (.iand, 1) := by decide +kernel
theorem dX11_ranks_94 : decode cX11_ranks 94 = .ok (.istore_n 2, 1) := by decide +kernel
theorem dX11_ranks_95 : decode cX11_ranks 95 = .ok (.aload_n 0, 1) := by decide +kernel
theorem dX11_ranks_96 : decode cX11_ranks 96 = .ok (.getfield 33, 3) := by decide +kernel
theorem dX11_ranks_99 : decode cX11_ranks 99 = .ok (.iload 4, 2) := by decide +kernel
theorem dX11_ranks_101 : decode cX11_ranks 101 = .ok (.i2l, 1) := by decide +kernel
theorem dX11_ranks_102 : decode cX11_ranks 102 = .ok (.invokevirtual 223, 3) := by decide +kernel
theorem dX11_ranks_105 : decode cX11_ranks 105 = .ok (.iinc 3 (-1), 3) := by decide +kernel
theorem dX11_ranks_108 : decode cX11_ranks 108 = .ok (.goto (-33), 3) := by decide +kernel
theorem dX11_ranks_111 : decode cX11_ranks 111 = .ok (.aload_n 0, 1) := by decide +kernel
theorem dX11_ranks_112 : decode cX11_ranks 112 = .ok (.getfield 33, 3) := by decide +kernel
theorem dX11_ranks_115 : decode cX11_ranks 115 = .ok (.getfield 252, 3) := by decide +kernel
theorem dX11_ranks_118 : decode cX11_ranks 118 = .ok (.ireturn, 1) := by decide +kernel
theorem dX11_rankKey_0 : decode cX11_rankKey 0 = .ok (.iload_n 2, 1) := by decide +kernel
theorem dX11_rankKey_1 : decode cX11_rankKey 1 = .ok (.lookupswitch 47 #[(0, 27), (1, 37)], 27) := by decide +kernel
theorem dX11_rankKey_28 : decode cX11_rankKey 28 = .ok (.aload_n 0, 1) := by decide +kernel
theorem dX11_rankKey_29 : decode cX11_rankKey 29 = .ok (.getfield 10, 3) := by decide +kernel
theorem dX11_rankKey_32 : decode cX11_rankKey 32 = .ok (.getfield 166, 3) := by decide +kernel
theorem dX11_rankKey_35 : decode cX11_rankKey 35 = .ok (.iload_n 1, 1) := by decide +kernel
theorem dX11_rankKey_36 : decode cX11_rankKey 36 = .ok (.iaload, 1) := by decide +kernel
theorem dX11_rankKey_37 : decode cX11_rankKey 37 = .ok (.ireturn, 1) := by decide +kernel
theorem dX11_rankKey_38 : decode cX11_rankKey 38 = .ok (.aload_n 0, 1) := by decide +kernel
theorem dX11_rankKey_39 : decode cX11_rankKey 39 = .ok (.getfield 10, 3) := by decide +kernel
theorem dX11_rankKey_42 : decode cX11_rankKey 42 = .ok (.getfield 172, 3) := by decide +kernel
theorem dX11_rankKey_45 : decode cX11_rankKey 45 = .ok (.iload_n 1, 1) := by decide +kernel
theorem dX11_rankKey_46 : decode cX11_rankKey 46 = .ok (.iaload, 1) := by decide +kernel
theorem dX11_rankKey_47 : decode cX11_rankKey 47 = .ok (.ireturn, 1) := by decide +kernel
theorem dX11_rankKey_48 : decode cX11_rankKey 48 = .ok (.aload_n 0, 1) := by decide +kernel
theorem dX11_rankKey_49 : decode cX11_rankKey 49 = .ok (.getfield 10, 3) := by decide +kernel
theorem dX11_rankKey_52 : decode cX11_rankKey 52 = .ok (.aload_n 0, 1) := by decide +kernel
theorem dX11_rankKey_53 : decode cX11_rankKey 53 = .ok (.getfield 54, 3) := by decide +kernel
theorem dX11_rankKey_56 : decode cX11_rankKey 56 = .ok (.aload_n 0, 1) := by decide +kernel
theorem dX11_rankKey_57 : decode cX11_rankKey 57 = .ok (.getfield 10, 3) := by decide +kernel
theorem dX11_rankKey_60 : decode cX11_rankKey 60 = .ok (.iload_n 1, 1) := by decide +kernel
theorem dX11_rankKey_61 : decode cX11_rankKey 61 = .ok (.invokevirtual 260, 3) := by decide +kernel
theorem dX11_rankKey_64 : decode cX11_rankKey 64 = .ok (.invokevirtual 214, 3) := by decide +kernel
theorem dX11_rankKey_67 : decode cX11_rankKey 67 = .ok (.ireturn, 1) := by decide +kernel
theorem dX11_greatest_0 : decode cX11_greatest 0 = .ok (.iconst 0, 1) := by decide +kernel
theorem dX11_greatest_1 : decode cX11_greatest 1 = .ok (.istore_n 2, 1) := by decide +kernel
theorem dX11_greatest_2 : decode cX11_greatest 2 = .ok (.iconst 1, 1) := by decide +kernel
theorem dX11_greatest_3 : decode cX11_greatest 3 = .ok (.istore_n 3, 1) := by decide +kernel
theorem dX11_greatest_4 : decode cX11_greatest 4 = .ok (.iload_n 3, 1) := by decide +kernel
theorem dX11_greatest_5 : decode cX11_greatest 5 = .ok (.bipush 24, 2) := by decide +kernel
theorem dX11_greatest_7 : decode cX11_greatest 7 = .ok (.if_icmp .ge 43, 3) := by decide +kernel
theorem dX11_greatest_10 : decode cX11_greatest 10 = .ok (.iload_n 1, 1) := by decide +kernel
theorem dX11_greatest_11 : decode cX11_greatest 11 = .ok (.iload_n 3, 1) := by decide +kernel
theorem dX11_greatest_12 : decode cX11_greatest 12 = .ok (.invokestatic 181, 3) := by decide +kernel
theorem dX11_greatest_15 : decode cX11_greatest 15 = .ok (.iconst 1, 1) := by decide +kernel
theorem dX11_greatest_16 : decode cX11_greatest 16 = .ok (.if_icmp .ne 28, 3) := by decide +kernel
theorem dX11_greatest_19 : decode cX11_greatest 19 = .ok (.iload_n 1, 1) := by decide +kernel
theorem dX11_greatest_20 : decode cX11_greatest 20 = .ok (.iload_n 2, 1) := by decide +kernel
theorem dX11_greatest_21 : decode cX11_greatest 21 = .ok (.invokestatic 181, 3) := by decide +kernel
theorem dX11_greatest_24 : decode cX11_greatest 24 = .ok (.ifCond .eq 18, 3) := by decide +kernel
theorem dX11_greatest_27 : decode cX11_greatest 27 = .ok (.aload_n 0, 1) := by decide +kernel
theorem dX11_greatest_28 : decode cX11_greatest 28 = .ok (.getfield 83, 3) := by decide +kernel
theorem dX11_greatest_31 : decode cX11_greatest 31 = .ok (.iload_n 3, 1) := by decide +kernel
theorem dX11_greatest_32 : decode cX11_greatest 32 = .ok (.iaload, 1) := by decide +kernel
theorem dX11_greatest_33 : decode cX11_greatest 33 = .ok (.aload_n 0, 1) := by decide +kernel
theorem dX11_greatest_34 : decode cX11_greatest 34 = .ok (.getfield 83, 3) := by decide +kernel
theorem dX11_greatest_37 : decode cX11_greatest 37 = .ok (.iload_n 2, 1) := by decide +kernel
theorem dX11_greatest_38 : decode cX11_greatest 38 = .ok (.iaload, 1) := by decide +kernel
theorem dX11_greatest_39 : decode cX11_greatest 39 = .ok (.if_icmp .le 5, 3) := by decide +kernel
theorem dX11_greatest_42 : decode cX11_greatest 42 = .ok (.iload_n 3, 1) := by decide +kernel
theorem dX11_greatest_43 : decode cX11_greatest 43 = .ok (.istore_n 2, 1) := by decide +kernel
theorem dX11_greatest_44 : decode cX11_greatest 44 = .ok (.iinc 3 1, 3) := by decide +kernel
theorem dX11_greatest_47 : decode cX11_greatest 47 = .ok (.goto (-43), 3) := by decide +kernel
theorem dX11_greatest_50 : decode cX11_greatest 50 = .ok (.iload_n 2, 1) := by decide +kernel
theorem dX11_greatest_51 : decode cX11_greatest 51 = .ok (.ireturn, 1) := by decide +kernel
theorem dX11_log_0 : decode cX11_log 0 = .ok (.aload_n 0, 1) := by decide +kernel
theorem dX11_log_1 : decode cX11_log 1 = .ok (.getfield 10, 3) := by decide +kernel
theorem dX11_log_4 : decode cX11_log 4 = .ok (.getfield 125, 3) := by decide +kernel
theorem dX11_log_7 : decode cX11_log 7 = .ok (.iload_n 1, 1) := by decide +kernel
theorem dX11_log_8 : decode cX11_log 8 = .ok (.invokevirtual 288, 3) := by decide +kernel
theorem dX11_log_11 : decode cX11_log 11 = .ok (.ifCond .eq 12, 3) := by decide +kernel
theorem dX11_log_14 : decode cX11_log 14 = .ok (.iload_n 2, 1) := by decide +kernel
theorem dX11_log_15 : decode cX11_log 15 = .ok (.ifCond .lt 8, 3) := by decide +kernel
theorem dX11_log_18 : decode cX11_log 18 = .ok (.iload_n 2, 1) := by decide +kernel
theorem dX11_log_19 : decode cX11_log 19 = .ok (.iconst 1, 1) := by decide +kernel
theorem dX11_log_20 : decode cX11_log 20 = .ok (.if_icmp .le 14, 3) := by decide +kernel
theorem dX11_log_23 : decode cX11_log 23 = .ok (.new 159, 3) := by decide +kernel
theorem dX11_log_26 : decode cX11_log 26 = .ok (.dup, 1) := by decide +kernel
theorem dX11_log_27 : decode cX11_log 27 = .ok (.ldc_w 289, 3) := by decide +kernel
theorem dX11_log_30 : decode cX11_log 30 = .ok (.invokespecial 163, 3) := by decide +kernel
theorem dX11_log_33 : decode cX11_log 33 = .ok (.athrow, 1) := by decide +kernel
theorem dX11_log_34 : decode cX11_log 34 = .ok (.iload_n 2, 1) := by decide +kernel
theorem dX11_log_35 : decode cX11_log 35 = .ok (.ifCond .ne 17, 3) := by decide +kernel
theorem dX11_log_38 : decode cX11_log 38 = .ok (.aload_n 0, 1) := by decide +kernel
theorem dX11_log_39 : decode cX11_log 39 = .ok (.getfield 10, 3) := by decide +kernel
theorem dX11_log_42 : decode cX11_log 42 = .ok (.getfield 125, 3) := by decide +kernel
theorem dX11_log_45 : decode cX11_log 45 = .ok (.iload_n 1, 1) := by decide +kernel
theorem dX11_log_46 : decode cX11_log 46 = .ok (.invokevirtual 291, 3) := by decide +kernel
theorem dX11_log_49 : decode cX11_log 49 = .ok (.goto 14, 3) := by decide +kernel
theorem dX11_log_52 : decode cX11_log 52 = .ok (.aload_n 0, 1) := by decide +kernel
theorem dX11_log_53 : decode cX11_log 53 = .ok (.getfield 10, 3) := by decide +kernel
theorem dX11_log_56 : decode cX11_log 56 = .ok (.getfield 125, 3) := by decide +kernel
theorem dX11_log_59 : decode cX11_log 59 = .ok (.iload_n 1, 1) := by decide +kernel
theorem dX11_log_60 : decode cX11_log 60 = .ok (.invokevirtual 294, 3) := by decide +kernel
theorem dX11_log_63 : decode cX11_log 63 = .ok (.ireturn, 1) := by decide +kernel
theorem dX11_logged_0 : decode cX11_logged 0 = .ok (.iload_n 1, 1) := by decide +kernel
theorem dX11_logged_1 : decode cX11_logged 1 = .ok (.ifCond .lt 9, 3) := by decide +kernel
theorem dX11_logged_4 : decode cX11_logged 4 = .ok (.iload_n 1, 1) := by decide +kernel
theorem dX11_logged_5 : decode cX11_logged 5 = .ok (.bipush 6, 2) := by decide +kernel
theorem dX11_logged_7 : decode cX11_logged 7 = .ok (.if_icmp .lt 5, 3) := by decide +kernel
theorem dX11_logged_10 : decode cX11_logged 10 = .ok (.iconst (-1), 1) := by decide +kernel
theorem dX11_logged_11 : decode cX11_logged 11 = .ok (.ireturn, 1) := by decide +kernel
theorem dX11_logged_12 : decode cX11_logged 12 = .ok (.aload_n 0, 1) := by decide +kernel
theorem dX11_logged_13 : decode cX11_logged 13 = .ok (.getfield 33, 3) := by decide +kernel
theorem dX11_logged_16 : decode cX11_logged 16 = .ok (.aload_n 0, 1) := by decide +kernel
theorem dX11_logged_17 : decode cX11_logged 17 = .ok (.getfield 10, 3) := by decide +kernel
theorem dX11_logged_20 : decode cX11_logged 20 = .ok (.getfield 125, 3) := by decide +kernel
theorem dX11_logged_23 : decode cX11_logged 23 = .ok (.getfield 297, 3) := by decide +kernel
theorem dX11_logged_26 : decode cX11_logged 26 = .ok (.i2l, 1) := by decide +kernel
theorem dX11_logged_27 : decode cX11_logged 27 = .ok (.invokevirtual 114, 3) := by decide +kernel
theorem dX11_logged_30 : decode cX11_logged 30 = .ok (.aload_n 0, 1) := by decide +kernel
theorem dX11_logged_31 : decode cX11_logged 31 = .ok (.getfield 10, 3) := by decide +kernel
theorem dX11_logged_34 : decode cX11_logged 34 = .ok (.getfield 125, 3) := by decide +kernel
theorem dX11_logged_37 : decode cX11_logged 37 = .ok (.getfield 134, 3) := by decide +kernel
theorem dX11_logged_40 : decode cX11_logged 40 = .ok (.iload_n 1, 1) := by decide +kernel
theorem dX11_logged_41 : decode cX11_logged 41 = .ok (.iaload, 1) := by decide +kernel
theorem dX11_logged_42 : decode cX11_logged 42 = .ok (.ireturn, 1) := by decide +kernel
theorem dX11_day_0 : decode cX11_day 0 = .ok (.aload_n 0, 1) := by decide +kernel
theorem dX11_day_1 : decode cX11_day 1 = .ok (.getfield 40, 3) := by decide +kernel
theorem dX11_day_4 : decode cX11_day 4 = .ok (.invokevirtual 300, 3) := by decide +kernel
theorem dX11_day_7 : decode cX11_day 7 = .ok (.istore_n 1, 1) := by decide +kernel
theorem dX11_day_8 : decode cX11_day 8 = .ok (.iload_n 1, 1) := by decide +kernel
theorem dX11_day_9 : decode cX11_day 9 = .ok (.iconst (-1), 1) := by decide +kernel
theorem dX11_day_10 : decode cX11_day 10 = .ok (.if_icmp .eq 15, 3) := by decide +kernel
theorem dX11_day_13 : decode cX11_day 13 = .ok (.aload_n 0, 1) := by decide +kernel
theorem dX11_day_14 : decode cX11_day 14 = .ok (.getfield 40, 3) := by decide +kernel
theorem dX11_day_17 : decode cX11_day 17 = .ok (.iconst 0, 1) := by decide +kernel
theorem dX11_day_18 : decode cX11_day 18 = .ok (.putfield 91, 3) := by decide +kernel
theorem dX11_day_21 : decode cX11_day 21 = .ok (.iconst (-1), 1) := by decide +kernel
theorem dX11_day_22 : decode cX11_day 22 = .ok (.iload_n 1, 1) := by decide +kernel
theorem dX11_day_23 : decode cX11_day 23 = .ok (.isub, 1) := by decide +kernel
theorem dX11_day_24 : decode cX11_day 24 = .ok (.ireturn, 1) := by decide +kernel
theorem dX11_day_25 : decode cX11_day 25 = .ok (.aload_n 0, 1) := by decide +kernel
theorem dX11_day_26 : decode cX11_day 26 = .ok (.getfield 26, 3) := by decide +kernel
theorem dX11_day_29 : decode cX11_day 29 = .ok (.aload_n 0, 1) := by decide +kernel
theorem dX11_day_30 : decode cX11_day 30 = .ok (.getfield 10, 3) := by decide +kernel
theorem dX11_day_33 : decode cX11_day 33 = .ok (.invokevirtual 103, 3) := by decide +kernel
theorem dX11_day_36 : decode cX11_day 36 = .ok (.aload_n 0, 1) := by decide +kernel
theorem dX11_day_37 : decode cX11_day 37 = .ok (.getfield 40, 3) := by decide +kernel
theorem dX11_day_40 : decode cX11_day 40 = .ok (.invokevirtual 303, 3) := by decide +kernel
theorem dX11_day_43 : decode cX11_day 43 = .ok (.iconst 0, 1) := by decide +kernel
theorem dX11_day_44 : decode cX11_day 44 = .ok (.istore_n 2, 1) := by decide +kernel
theorem dX11_day_45 : decode cX11_day 45 = .ok (.iconst 0, 1) := by decide +kernel
theorem dX11_day_46 : decode cX11_day 46 = .ok (.istore_n 3, 1) := by decide +kernel
theorem dX11_day_47 : decode cX11_day 47 = .ok (.iconst 0, 1) := by decide +kernel
theorem dX11_day_48 : decode cX11_day 48 = .ok (.istore 4, 2) := by decide +kernel
theorem dX11_day_50 : decode cX11_day 50 = .ok (.iload 4, 2) := by decide +kernel
theorem dX11_day_52 : decode cX11_day 52 = .ok (.bipush 80, 2) := by decide +kernel
theorem dX11_day_54 : decode cX11_day 54 = .ok (.if_icmp .ge 60, 3) := by decide +kernel
theorem dX11_day_57 : decode cX11_day 57 = .ok (.iload_n 3, 1) := by decide +kernel
theorem dX11_day_58 : decode cX11_day 58 = .ok (.ifCond .ne 56, 3) := by decide +kernel
theorem dX11_day_61 : decode cX11_day 61 = .ok (.aload_n 0, 1) := by decide +kernel
theorem dX11_day_62 : decode cX11_day 62 = .ok (.getfield 40, 3) := by decide +kernel
theorem dX11_day_65 : decode cX11_day 65 = .ok (.invokevirtual 306, 3) := by decide +kernel
theorem dX11_day_68 : decode cX11_day 68 = .ok (.ifCond .eq 46, 3) := by decide +kernel
theorem dX11_day_71 : decode cX11_day 71 = .ok (.aload_n 0, 1) := by decide +kernel
theorem dX11_day_72 : decode cX11_day 72 = .ok (.getfield 40, 3) := by decide +kernel
theorem dX11_day_75 : decode cX11_day 75 = .ok (.aload_n 0, 1) := by decide +kernel
theorem dX11_day_76 : decode cX11_day 76 = .ok (.getfield 47, 3) := by decide +kernel
theorem dX11_day_79 : decode cX11_day 79 = .ok (.invokevirtual 310, 3) := by decide +kernel
theorem dX11_day_82 : decode cX11_day 82 = .ok (.aload_n 0, 1) := by decide +kernel
theorem dX11_day_83 : decode cX11_day 83 = .ok (.getfield 79, 3) := by decide +kernel
theorem dX11_day_86 : decode cX11_day 86 = .ok (.aload_n 0, 1) := by decide +kernel
theorem dX11_day_87 : decode cX11_day 87 = .ok (.getfield 10, 3) := by decide +kernel
theorem dX11_day_90 : decode cX11_day 90 = .ok (.aload_n 0, 1) := by decide +kernel
theorem dX11_day_91 : decode cX11_day 91 = .ok (.getfield 47, 3) := by decide +kernel
theorem dX11_day_94 : decode cX11_day 94 = .ok (.invokevirtual 107, 3) := by decide +kernel
theorem dX11_day_97 : decode cX11_day 97 = .ok (.ifCond .ge 8, 3) := by decide +kernel
theorem dX11_day_100 : decode cX11_day 100 = .ok (.iconst 1, 1) := by decide +kernel
theorem dX11_day_101 : decode cX11_day 101 = .ok (.istore_n 3, 1) := by decide +kernel
theorem dX11_day_102 : decode cX11_day 102 = .ok (.goto 6, 3) := by decide +kernel
theorem dX11_day_105 : decode cX11_day 105 = .ok (.iinc 2 1, 3) := by decide +kernel
theorem dX11_day_108 : decode cX11_day 108 = .ok (.iinc 4 1, 3) := by decide +kernel
theorem dX11_day_111 : decode cX11_day 111 = .ok (.goto (-61), 3) := by decide +kernel
theorem dX11_day_114 : decode cX11_day 114 = .ok (.aload_n 0, 1) := by decide +kernel
theorem dX11_day_115 : decode cX11_day 115 = .ok (.getfield 40, 3) := by decide +kernel
theorem dX11_day_118 : decode cX11_day 118 = .ok (.iconst 0, 1) := by decide +kernel
theorem dX11_day_119 : decode cX11_day 119 = .ok (.putfield 91, 3) := by decide +kernel
theorem dX11_day_122 : decode cX11_day 122 = .ok (.iload_n 2, 1) := by decide +kernel
theorem dX11_day_123 : decode cX11_day 123 = .ok (.ifCond .le 10, 3) := by decide +kernel
theorem dX11_day_126 : decode cX11_day 126 = .ok (.aload_n 0, 1) := by decide +kernel
theorem dX11_day_127 : decode cX11_day 127 = .ok (.getfield 26, 3) := by decide +kernel
theorem dX11_day_130 : decode cX11_day 130 = .ok (.invokevirtual 111, 3) := by decide +kernel
theorem dX11_day_133 : decode cX11_day 133 = .ok (.aload_n 0, 1) := by decide +kernel
theorem dX11_day_134 : decode cX11_day 134 = .ok (.getfield 33, 3) := by decide +kernel
theorem dX11_day_137 : decode cX11_day 137 = .ok (.iload_n 3, 1) := by decide +kernel
theorem dX11_day_138 : decode cX11_day 138 = .ok (.i2l, 1) := by decide +kernel
theorem dX11_day_139 : decode cX11_day 139 = .ok (.aload_n 0, 1) := by decide +kernel
theorem dX11_day_140 : decode cX11_day 140 = .ok (.getfield 10, 3) := by decide +kernel
theorem dX11_day_143 : decode cX11_day 143 = .ok (.invokevirtual 146, 3) := by decide +kernel
theorem dX11_day_146 : decode cX11_day 146 = .ok (.i2l, 1) := by decide +kernel
theorem dX11_day_147 : decode cX11_day 147 = .ok (.invokevirtual 140, 3) := by decide +kernel
theorem dX11_day_150 : decode cX11_day 150 = .ok (.iload_n 2, 1) := by decide +kernel
theorem dX11_day_151 : decode cX11_day 151 = .ok (.ireturn, 1) := by decide +kernel
theorem dX11_undo_0 : decode cX11_undo 0 = .ok (.aload_n 0, 1) := by decide +kernel
theorem dX11_undo_1 : decode cX11_undo 1 = .ok (.getfield 26, 3) := by decide +kernel
theorem dX11_undo_4 : decode cX11_undo 4 = .ok (.getfield 314, 3) := by decide +kernel
theorem dX11_undo_7 : decode cX11_undo 7 = .ok (.ifCond .ne 5, 3) := by decide +kernel
theorem dX11_undo_10 : decode cX11_undo 10 = .ok (.iconst (-1), 1) := by decide +kernel
theorem dX11_undo_11 : decode cX11_undo 11 = .ok (.ireturn, 1) := by decide +kernel
theorem dX11_undo_12 : decode cX11_undo 12 = .ok (.aload_n 0, 1) := by decide +kernel
theorem dX11_undo_13 : decode cX11_undo 13 = .ok (.getfield 26, 3) := by decide +kernel
theorem dX11_undo_16 : decode cX11_undo 16 = .ok (.aload_n 0, 1) := by decide +kernel
theorem dX11_undo_17 : decode cX11_undo 17 = .ok (.getfield 10, 3) := by decide +kernel
theorem dX11_undo_20 : decode cX11_undo 20 = .ok (.invokevirtual 315, 3) := by decide +kernel
theorem dX11_undo_23 : decode cX11_undo 23 = .ok (.aload_n 0, 1) := by decide +kernel
theorem dX11_undo_24 : decode cX11_undo 24 = .ok (.getfield 26, 3) := by decide +kernel
theorem dX11_undo_27 : decode cX11_undo 27 = .ok (.getfield 314, 3) := by decide +kernel
theorem dX11_undo_30 : decode cX11_undo 30 = .ok (.ireturn, 1) := by decide +kernel
theorem dX11_years_0 : decode cX11_years 0 = .ok (.iload_n 2, 1) := by decide +kernel
theorem dX11_years_1 : decode cX11_years 1 = .ok (.iconst 1, 1) := by decide +kernel
theorem dX11_years_2 : decode cX11_years 2 = .ok (.if_icmp .lt 9, 3) := by decide +kernel
theorem dX11_years_5 : decode cX11_years 5 = .ok (.iload_n 2, 1) := by decide +kernel
theorem dX11_years_6 : decode cX11_years 6 = .ok (.bipush 40, 2) := by decide +kernel
theorem dX11_years_8 : decode cX11_years 8 = .ok (.if_icmp .le 5, 3) := by decide +kernel
theorem dX11_years_11 : decode cX11_years 11 = .ok (.iconst (-1), 1) := by decide +kernel
theorem dX11_years_12 : decode cX11_years 12 = .ok (.ireturn, 1) := by decide +kernel
theorem dX11_years_13 : decode cX11_years 13 = .ok (.aload_n 0, 1) := by decide +kernel
theorem dX11_years_14 : decode cX11_years 14 = .ok (.getfield 16, 3) := by decide +kernel
theorem dX11_years_17 : decode cX11_years 17 = .ok (.aload_n 0, 1) := by decide +kernel
theorem dX11_years_18 : decode cX11_years 18 = .ok (.getfield 10, 3) := by decide +kernel
theorem dX11_years_21 : decode cX11_years 21 = .ok (.invokevirtual 269, 3) := by decide +kernel
theorem dX11_years_24 : decode cX11_years 24 = .ok (.aload_n 0, 1) := by decide +kernel
theorem dX11_years_25 : decode cX11_years 25 = .ok (.iload_n 1, 1) := by decide +kernel
theorem dX11_years_26 : decode cX11_years 26 = .ok (.putfield 318, 3) := by decide +kernel
theorem dX11_years_29 : decode cX11_years 29 = .ok (.iconst 0, 1) := by decide +kernel
theorem dX11_years_30 : decode cX11_years 30 = .ok (.istore_n 3, 1) := by decide +kernel
theorem dX11_years_31 : decode cX11_years 31 = .ok (.iload_n 3, 1) := by decide +kernel
theorem dX11_years_32 : decode cX11_years 32 = .ok (.iload_n 2, 1) := by decide +kernel
theorem dX11_years_33 : decode cX11_years 33 = .ok (.if_icmp .ge 29, 3) := by decide +kernel
theorem dX11_years_36 : decode cX11_years 36 = .ok (.aload_n 0, 1) := by decide +kernel
theorem dX11_years_37 : decode cX11_years 37 = .ok (.invokevirtual 321, 3) := by decide +kernel
theorem dX11_years_40 : decode cX11_years 40 = .ok (.aload_n 0, 1) := by decide +kernel
theorem dX11_years_41 : decode cX11_years 41 = .ok (.getfield 79, 3) := by decide +kernel
theorem dX11_years_44 : decode cX11_years 44 = .ok (.aload_n 0, 1) := by decide +kernel
theorem dX11_years_45 : decode cX11_years 45 = .ok (.getfield 16, 3) := by decide +kernel
theorem dX11_years_48 : decode cX11_years 48 = .ok (.aload_n 0, 1) := by decide +kernel
theorem dX11_years_49 : decode cX11_years 49 = .ok (.getfield 47, 3) := by decide +kernel
theorem dX11_years_52 : decode cX11_years 52 = .ok (.invokevirtual 107, 3) := by decide +kernel
theorem dX11_years_55 : decode cX11_years 55 = .ok (.pop, 1) := by decide +kernel
theorem dX11_years_56 : decode cX11_years 56 = .ok (.iinc 3 1, 3) := by decide +kernel
theorem dX11_years_59 : decode cX11_years 59 = .ok (.goto (-28), 3) := by decide +kernel
theorem dX11_years_62 : decode cX11_years 62 = .ok (.aload_n 0, 1) := by decide +kernel
theorem dX11_years_63 : decode cX11_years 63 = .ok (.getfield 33, 3) := by decide +kernel
theorem dX11_years_66 : decode cX11_years 66 = .ok (.aload_n 0, 1) := by decide +kernel
theorem dX11_years_67 : decode cX11_years 67 = .ok (.getfield 16, 3) := by decide +kernel
theorem dX11_years_70 : decode cX11_years 70 = .ok (.getfield 125, 3) := by decide +kernel
theorem dX11_years_73 : decode cX11_years 73 = .ok (.getfield 297, 3) := by decide +kernel
theorem dX11_years_76 : decode cX11_years 76 = .ok (.aload_n 0, 1) := by decide +kernel
theorem dX11_years_77 : decode cX11_years 77 = .ok (.getfield 10, 3) := by decide +kernel
theorem dX11_years_80 : decode cX11_years 80 = .ok (.getfield 125, 3) := by decide +kernel
theorem dX11_years_83 : decode cX11_years 83 = .ok (.getfield 297, 3) := by decide +kernel
theorem dX11_years_86 : decode cX11_years 86 = .ok (.isub, 1) := by decide +kernel
theorem dX11_years_87 : decode cX11_years 87 = .ok (.i2l, 1) := by decide +kernel
theorem dX11_years_88 : decode cX11_years 88 = .ok (.aload_n 0, 1) := by decide +kernel
theorem dX11_years_89 : decode cX11_years 89 = .ok (.getfield 16, 3) := by decide +kernel
theorem dX11_years_92 : decode cX11_years 92 = .ok (.getfield 149, 3) := by decide +kernel
theorem dX11_years_95 : decode cX11_years 95 = .ok (.getfield 153, 3) := by decide +kernel
theorem dX11_years_98 : decode cX11_years 98 = .ok (.i2l, 1) := by decide +kernel
theorem dX11_years_99 : decode cX11_years 99 = .ok (.invokevirtual 140, 3) := by decide +kernel
theorem dX11_years_102 : decode cX11_years 102 = .ok (.aload_n 0, 1) := by decide +kernel
theorem dX11_years_103 : decode cX11_years 103 = .ok (.getfield 16, 3) := by decide +kernel
theorem dX11_years_106 : decode cX11_years 106 = .ok (.getfield 208, 3) := by decide +kernel
theorem dX11_years_109 : decode cX11_years 109 = .ok (.ireturn, 1) := by decide +kernel
theorem dX11_drawsAct_0 : decode cX11_drawsAct 0 = .ok (.aload_n 0, 1) := by decide +kernel
theorem dX11_drawsAct_1 : decode cX11_drawsAct 1 = .ok (.iconst 4, 1) := by decide +kernel
theorem dX11_drawsAct_2 : decode cX11_drawsAct 2 = .ok (.invokevirtual 324, 3) := by decide +kernel
theorem dX11_drawsAct_5 : decode cX11_drawsAct 5 = .ok (.lookupswitch 87 #[(0, 27), (3, 61)], 27) := by decide +kernel
theorem dX11_drawsAct_32 : decode cX11_drawsAct 32 = .ok (.aload_n 0, 1) := by decide +kernel
theorem dX11_drawsAct_33 : decode cX11_drawsAct 33 = .ok (.iconst 5, 1) := by decide +kernel
theorem dX11_drawsAct_34 : decode cX11_drawsAct 34 = .ok (.invokevirtual 324, 3) := by decide +kernel
theorem dX11_drawsAct_37 : decode cX11_drawsAct 37 = .ok (.istore_n 1, 1) := by decide +kernel
theorem dX11_drawsAct_38 : decode cX11_drawsAct 38 = .ok (.aload_n 0, 1) := by decide +kernel
theorem dX11_drawsAct_39 : decode cX11_drawsAct 39 = .ok (.bipush 8, 2) := by decide +kernel
theorem dX11_drawsAct_41 : decode cX11_drawsAct 41 = .ok (.invokevirtual 324, 3) := by decide +kernel
theorem dX11_drawsAct_44 : decode cX11_drawsAct 44 = .ok (.istore_n 2, 1) := by decide +kernel
theorem dX11_drawsAct_45 : decode cX11_drawsAct 45 = .ok (.aload_n 0, 1) := by decide +kernel
theorem dX11_drawsAct_46 : decode cX11_drawsAct 46 = .ok (.getfield 47, 3) := by decide +kernel
theorem dX11_drawsAct_49 : decode cX11_drawsAct 49 = .ok (.bipush 110, 2) := by decide +kernel
theorem dX11_drawsAct_51 : decode cX11_drawsAct 51 = .ok (.iload_n 1, 1) := by decide +kernel
theorem dX11_drawsAct_52 : decode cX11_drawsAct 52 = .ok (.iconst 1, 1) := by decide +kernel
theorem dX11_drawsAct_53 : decode cX11_drawsAct 53 = .ok (.iload_n 2, 1) := by decide +kernel
theorem dX11_drawsAct_54 : decode cX11_drawsAct 54 = .ok (.aload_n 0, 1) := by decide +kernel
theorem dX11_drawsAct_55 : decode cX11_drawsAct 55 = .ok (.bipush 6, 2) := by decide +kernel
theorem dX11_drawsAct_57 : decode cX11_drawsAct 57 = .ok (.invokevirtual 324, 3) := by decide +kernel
theorem dX11_drawsAct_60 : decode cX11_drawsAct 60 = .ok (.invokevirtual 99, 3) := by decide +kernel
theorem dX11_drawsAct_63 : decode cX11_drawsAct 63 = .ok (.goto 61, 3) := by decide +kernel
theorem dX11_drawsAct_66 : decode cX11_drawsAct 66 = .ok (.aload_n 0, 1) := by decide +kernel
theorem dX11_drawsAct_67 : decode cX11_drawsAct 67 = .ok (.bipush 6, 2) := by decide +kernel
theorem dX11_drawsAct_69 : decode cX11_drawsAct 69 = .ok (.invokevirtual 324, 3) := by decide +kernel
theorem dX11_drawsAct_72 : decode cX11_drawsAct 72 = .ok (.istore_n 1, 1) := by decide +kernel
theorem dX11_drawsAct_73 : decode cX11_drawsAct 73 = .ok (.aload_n 0, 1) := by decide +kernel
theorem dX11_drawsAct_74 : decode cX11_drawsAct 74 = .ok (.getfield 47, 3) := by decide +kernel
theorem dX11_drawsAct_77 : decode cX11_drawsAct 77 = .ok (.bipush 114, 2) := by decide +kernel
theorem dX11_drawsAct_79 : decode cX11_drawsAct 79 = .ok (.iload_n 1, 1) := by decide +kernel
theorem dX11_drawsAct_80 : decode cX11_drawsAct 80 = .ok (.aload_n 0, 1) := by decide +kernel
theorem dX11_drawsAct_81 : decode cX11_drawsAct 81 = .ok (.invokevirtual 327, 3) := by decide +kernel
theorem dX11_drawsAct_84 : decode cX11_drawsAct 84 = .ok (.iconst 0, 1) := by decide +kernel
theorem dX11_drawsAct_85 : decode cX11_drawsAct 85 = .ok (.iconst 0, 1) := by decide +kernel
theorem dX11_drawsAct_86 : decode cX11_drawsAct 86 = .ok (.invokevirtual 99, 3) := by decide +kernel
theorem dX11_drawsAct_89 : decode cX11_drawsAct 89 = .ok (.goto 35, 3) := by decide +kernel
theorem dX11_drawsAct_92 : decode cX11_drawsAct 92 = .ok (.aload_n 0, 1) := by decide +kernel
theorem dX11_drawsAct_93 : decode cX11_drawsAct 93 = .ok (.bipush 24, 2) := by decide +kernel
theorem dX11_drawsAct_95 : decode cX11_drawsAct 95 = .ok (.invokevirtual 324, 3) := by decide +kernel
theorem dX11_drawsAct_98 : decode cX11_drawsAct 98 = .ok (.istore_n 1, 1) := by decide +kernel
theorem dX11_drawsAct_99 : decode cX11_drawsAct 99 = .ok (.aload_n 0, 1) := by decide +kernel
theorem dX11_drawsAct_100 : decode cX11_drawsAct 100 = .ok (.iconst 4, 1) := by decide +kernel
theorem dX11_drawsAct_101 : decode cX11_drawsAct 101 = .ok (.invokevirtual 324, 3) := by decide +kernel
theorem dX11_drawsAct_104 : decode cX11_drawsAct 104 = .ok (.istore_n 2, 1) := by decide +kernel
theorem dX11_drawsAct_105 : decode cX11_drawsAct 105 = .ok (.aload_n 0, 1) := by decide +kernel
theorem dX11_drawsAct_106 : decode cX11_drawsAct 106 = .ok (.getfield 47, 3) := by decide +kernel
theorem dX11_drawsAct_109 : decode cX11_drawsAct 109 = .ok (.bipush 115, 2) := by decide +kernel
theorem dX11_drawsAct_111 : decode cX11_drawsAct 111 = .ok (.iload_n 1, 1) := by decide +kernel
theorem dX11_drawsAct_112 : decode cX11_drawsAct 112 = .ok (.iload_n 2, 1) := by decide +kernel
theorem dX11_drawsAct_113 : decode cX11_drawsAct 113 = .ok (.aload_n 0, 1) := by decide +kernel
theorem dX11_drawsAct_114 : decode cX11_drawsAct 114 = .ok (.invokevirtual 327, 3) := by decide +kernel
theorem dX11_drawsAct_117 : decode cX11_drawsAct 117 = .ok (.iconst 0, 1) := by decide +kernel
theorem dX11_drawsAct_118 : decode cX11_drawsAct 118 = .ok (.invokevirtual 99, 3) := by decide +kernel
theorem dX11_drawsAct_121 : decode cX11_drawsAct 121 = .ok (.goto 3, 3) := by decide +kernel
theorem dX11_drawsAct_124 : decode cX11_drawsAct 124 = .ok (.return_, 1) := by decide +kernel
theorem dX11_drawsTo_0 : decode cX11_drawsTo 0 = .ok (.aload_n 0, 1) := by decide +kernel
theorem dX11_drawsTo_1 : decode cX11_drawsTo 1 = .ok (.bipush 25, 2) := by decide +kernel
theorem dX11_drawsTo_3 : decode cX11_drawsTo 3 = .ok (.invokevirtual 324, 3) := by decide +kernel
theorem dX11_drawsTo_6 : decode cX11_drawsTo 6 = .ok (.istore_n 1, 1) := by decide +kernel
theorem dX11_drawsTo_7 : decode cX11_drawsTo 7 = .ok (.iload_n 1, 1) := by decide +kernel
theorem dX11_drawsTo_8 : decode cX11_drawsTo 8 = .ok (.bipush 24, 2) := by decide +kernel
theorem dX11_drawsTo_10 : decode cX11_drawsTo 10 = .ok (.if_icmp .ne 7, 3) := by decide +kernel
theorem dX11_drawsTo_13 : decode cX11_drawsTo 13 = .ok (.iconst (-1), 1) := by decide +kernel
theorem dX11_drawsTo_14 : decode cX11_drawsTo 14 = .ok (.goto 4, 3) := by decide +kernel
theorem dX11_drawsTo_17 : decode cX11_drawsTo 17 = .ok (.iload_n 1, 1) := by decide +kernel
theorem dX11_drawsTo_18 : decode cX11_drawsTo 18 = .ok (.ireturn, 1) := by decide +kernel
theorem dX11_draws_0 : decode cX11_draws 0 = .ok (.aload_n 0, 1) := by decide +kernel
theorem dX11_draws_1 : decode cX11_draws 1 = .ok (.aload_n 0, 1) := by decide +kernel
theorem dX11_draws_2 : decode cX11_draws 2 = .ok (.getfield 318, 3) := by decide +kernel
theorem dX11_draws_5 : decode cX11_draws 5 = .ok (.ldc_w 330, 3) := by decide +kernel
theorem dX11_draws_8 : decode cX11_draws 8 = .ok (.imul, 1) := by decide +kernel
theorem dX11_draws_9 : decode cX11_draws 9 = .ok (.sipush 12345, 3) := by decide +kernel
theorem dX11_draws_12 : decode cX11_draws 12 = .ok (.iadd, 1) := by decide +kernel
theorem dX11_draws_13 : decode cX11_draws 13 = .ok (.putfield 318, 3) := by decide +kernel
theorem dX11_draws_16 : decode cX11_draws 16 = .ok (.iload_n 1, 1) := by decide +kernel
theorem dX11_draws_17 : decode cX11_draws 17 = .ok (.ifCond .le 15, 3) := by decide +kernel
theorem dX11_draws_20 : decode cX11_draws 20 = .ok (.aload_n 0, 1) := by decide +kernel
theorem dX11_draws_21 : decode cX11_draws 21 = .ok (.getfield 318, 3) := by decide +kernel
theorem dX11_draws_24 : decode cX11_draws 24 = .ok (.bipush 16, 2) := by decide +kernel
theorem dX11_draws_26 : decode cX11_draws 26 = .ok (.iushr, 1) := by decide +kernel
theorem dX11_draws_27 : decode cX11_draws 27 = .ok (.iload_n 1, 1) := by decide +kernel
theorem dX11_draws_28 : decode cX11_draws 28 = .ok (.irem, 1) := by decide +kernel
theorem dX11_draws_29 : decode cX11_draws 29 = .ok (.goto 4, 3) := by decide +kernel
theorem dX11_draws_32 : decode cX11_draws 32 = .ok (.iconst 0, 1) := by decide +kernel
theorem dX11_draws_33 : decode cX11_draws 33 = .ok (.ireturn, 1) := by decide +kernel
theorem dX11_keep_0 : decode cX11_keep 0 = .ok (.iload_n 1, 1) := by decide +kernel
theorem dX11_keep_1 : decode cX11_keep 1 = .ok (.ifCond .lt 8, 3) := by decide +kernel
theorem dX11_keep_4 : decode cX11_keep 4 = .ok (.iload_n 1, 1) := by decide +kernel
theorem dX11_keep_5 : decode cX11_keep 5 = .ok (.iconst 2, 1) := by decide +kernel
theorem dX11_keep_6 : decode cX11_keep 6 = .ok (.if_icmp .lt 5, 3) := by decide +kernel
theorem dX11_keep_9 : decode cX11_keep 9 = .ok (.iconst 0, 1) := by decide +kernel
theorem dX11_keep_10 : decode cX11_keep 10 = .ok (.ireturn, 1) := by decide +kernel
theorem dX11_keep_11 : decode cX11_keep 11 = .ok (.aload_n 0, 1) := by decide +kernel
theorem dX11_keep_12 : decode cX11_keep 12 = .ok (.getfield 19, 3) := by decide +kernel
theorem dX11_keep_15 : decode cX11_keep 15 = .ok (.iload_n 1, 1) := by decide +kernel
theorem dX11_keep_16 : decode cX11_keep 16 = .ok (.aaload, 1) := by decide +kernel
theorem dX11_keep_17 : decode cX11_keep 17 = .ok (.aload_n 0, 1) := by decide +kernel
theorem dX11_keep_18 : decode cX11_keep 18 = .ok (.getfield 10, 3) := by decide +kernel
theorem dX11_keep_21 : decode cX11_keep 21 = .ok (.invokevirtual 269, 3) := by decide +kernel
theorem dX11_keep_24 : decode cX11_keep 24 = .ok (.aload_n 0, 1) := by decide +kernel
theorem dX11_keep_25 : decode cX11_keep 25 = .ok (.dup, 1) := by decide +kernel
theorem dX11_keep_26 : decode cX11_keep 26 = .ok (.getfield 331, 3) := by decide +kernel
theorem dX11_keep_29 : decode cX11_keep 29 = .ok (.iconst 1, 1) := by decide +kernel
theorem dX11_keep_30 : decode cX11_keep 30 = .ok (.iload_n 1, 1) := by decide +kernel
theorem dX11_keep_31 : decode cX11_keep 31 = .ok (.ishl, 1) := by decide +kernel
theorem dX11_keep_32 : decode cX11_keep 32 = .ok (.ior, 1) := by decide +kernel
theorem dX11_keep_33 : decode cX11_keep 33 = .ok (.putfield 331, 3) := by decide +kernel
theorem dX11_keep_36 : decode cX11_keep 36 = .ok (.iconst 1, 1) := by decide +kernel
theorem dX11_keep_37 : decode cX11_keep 37 = .ok (.ireturn, 1) := by decide +kernel
theorem dX11_again_0 : decode cX11_again 0 = .ok (.iload_n 1, 1) := by decide +kernel
theorem dX11_again_1 : decode cX11_again 1 = .ok (.ifCond .lt 19, 3) := by decide +kernel
theorem dX11_again_4 : decode cX11_again 4 = .ok (.iload_n 1, 1) := by decide +kernel
theorem dX11_again_5 : decode cX11_again 5 = .ok (.iconst 2, 1) := by decide +kernel
theorem dX11_again_6 : decode cX11_again 6 = .ok (.if_icmp .ge 14, 3) := by decide +kernel
theorem dX11_again_9 : decode cX11_again 9 = .ok (.aload_n 0, 1) := by decide +kernel
theorem dX11_again_10 : decode cX11_again 10 = .ok (.getfield 331, 3) := by decide +kernel
theorem dX11_again_13 : decode cX11_again 13 = .ok (.iload_n 1, 1) := by decide +kernel
theorem dX11_again_14 : decode cX11_again 14 = .ok (.invokestatic 181, 3) := by decide +kernel
theorem dX11_again_17 : decode cX11_again 17 = .ok (.ifCond .ne 5, 3) := by decide +kernel
theorem dX11_again_20 : decode cX11_again 20 = .ok (.iconst 0, 1) := by decide +kernel
theorem dX11_again_21 : decode cX11_again 21 = .ok (.ireturn, 1) := by decide +kernel
theorem dX11_again_22 : decode cX11_again 22 = .ok (.aload_n 0, 1) := by decide +kernel
theorem dX11_again_23 : decode cX11_again 23 = .ok (.getfield 10, 3) := by decide +kernel
theorem dX11_again_26 : decode cX11_again 26 = .ok (.aload_n 0, 1) := by decide +kernel
theorem dX11_again_27 : decode cX11_again 27 = .ok (.getfield 19, 3) := by decide +kernel
theorem dX11_again_30 : decode cX11_again 30 = .ok (.iload_n 1, 1) := by decide +kernel
theorem dX11_again_31 : decode cX11_again 31 = .ok (.aaload, 1) := by decide +kernel
theorem dX11_again_32 : decode cX11_again 32 = .ok (.invokevirtual 269, 3) := by decide +kernel
theorem dX11_again_35 : decode cX11_again 35 = .ok (.aload_n 0, 1) := by decide +kernel
theorem dX11_again_36 : decode cX11_again 36 = .ok (.getfield 26, 3) := by decide +kernel
theorem dX11_again_39 : decode cX11_again 39 = .ok (.iconst 0, 1) := by decide +kernel
theorem dX11_again_40 : decode cX11_again 40 = .ok (.putfield 314, 3) := by decide +kernel
theorem dX11_again_43 : decode cX11_again 43 = .ok (.iconst 1, 1) := by decide +kernel
theorem dX11_again_44 : decode cX11_again 44 = .ok (.ireturn, 1) := by decide +kernel
theorem dX11_count_0 : decode cX11_count 0 = .ok (.iload_n 1, 1) := by decide +kernel
theorem dX11_count_1 : decode cX11_count 1 = .ok (.tableswitch 117 0 7 #[47, 55, 66, 74, 82, 93, 101, 109], 47) := by decide +kernel
theorem dX11_count_48 : decode cX11_count 48 = .ok (.aload_n 0, 1) := by decide +kernel
theorem dX11_count_49 : decode cX11_count 49 = .ok (.getfield 10, 3) := by decide +kernel
theorem dX11_count_52 : decode cX11_count 52 = .ok (.invokevirtual 146, 3) := by decide +kernel
theorem dX11_count_55 : decode cX11_count 55 = .ok (.ireturn, 1) := by decide +kernel
theorem dX11_count_56 : decode cX11_count 56 = .ok (.aload_n 0, 1) := by decide +kernel
theorem dX11_count_57 : decode cX11_count 57 = .ok (.getfield 10, 3) := by decide +kernel
theorem dX11_count_60 : decode cX11_count 60 = .ok (.getfield 149, 3) := by decide +kernel
theorem dX11_count_63 : decode cX11_count 63 = .ok (.getfield 153, 3) := by decide +kernel
theorem dX11_count_66 : decode cX11_count 66 = .ok (.ireturn, 1) := by decide +kernel
theorem dX11_count_67 : decode cX11_count 67 = .ok (.aload_n 0, 1) := by decide +kernel
theorem dX11_count_68 : decode cX11_count 68 = .ok (.getfield 10, 3) := by decide +kernel
theorem dX11_count_71 : decode cX11_count 71 = .ok (.getfield 143, 3) := by decide +kernel
theorem dX11_count_74 : decode cX11_count 74 = .ok (.ireturn, 1) := by decide +kernel
theorem dX11_count_75 : decode cX11_count 75 = .ok (.aload_n 0, 1) := by decide +kernel
theorem dX11_count_76 : decode cX11_count 76 = .ok (.getfield 10, 3) := by decide +kernel
theorem dX11_count_79 : decode cX11_count 79 = .ok (.invokevirtual 334, 3) := by decide +kernel
theorem dX11_count_82 : decode cX11_count 82 = .ok (.ireturn, 1) := by decide +kernel
theorem dX11_count_83 : decode cX11_count 83 = .ok (.aload_n 0, 1) := by decide +kernel
theorem dX11_count_84 : decode cX11_count 84 = .ok (.getfield 10, 3) := by decide +kernel
theorem dX11_count_87 : decode cX11_count 87 = .ok (.getfield 125, 3) := by decide +kernel
theorem dX11_count_90 : decode cX11_count 90 = .ok (.getfield 297, 3) := by decide +kernel
theorem dX11_count_93 : decode cX11_count 93 = .ok (.ireturn, 1) := by decide +kernel
theorem dX11_count_94 : decode cX11_count 94 = .ok (.aload_n 0, 1) := by decide +kernel
theorem dX11_count_95 : decode cX11_count 95 = .ok (.getfield 26, 3) := by decide +kernel
theorem dX11_count_98 : decode cX11_count 98 = .ok (.getfield 314, 3) := by decide +kernel
theorem dX11_count_101 : decode cX11_count 101 = .ok (.ireturn, 1) := by decide +kernel
theorem dX11_count_102 : decode cX11_count 102 = .ok (.aload_n 0, 1) := by decide +kernel
theorem dX11_count_103 : decode cX11_count 103 = .ok (.getfield 33, 3) := by decide +kernel
theorem dX11_count_106 : decode cX11_count 106 = .ok (.getfield 252, 3) := by decide +kernel
theorem dX11_count_109 : decode cX11_count 109 = .ok (.ireturn, 1) := by decide +kernel
theorem dX11_count_110 : decode cX11_count 110 = .ok (.aload_n 0, 1) := by decide +kernel
theorem dX11_count_111 : decode cX11_count 111 = .ok (.getfield 40, 3) := by decide +kernel
theorem dX11_count_114 : decode cX11_count 114 = .ok (.getfield 91, 3) := by decide +kernel
theorem dX11_count_117 : decode cX11_count 117 = .ok (.ireturn, 1) := by decide +kernel
theorem dX11_count_118 : decode cX11_count 118 = .ok (.iconst (-1), 1) := by decide +kernel
theorem dX11_count_119 : decode cX11_count 119 = .ok (.ireturn, 1) := by decide +kernel
theorem dX11_row_0 : decode cX11_row 0 = .ok (.iload_n 1, 1) := by decide +kernel
theorem dX11_row_1 : decode cX11_row 1 = .ok (.ifCond .lt 14, 3) := by decide +kernel
theorem dX11_row_4 : decode cX11_row 4 = .ok (.iload_n 1, 1) := by decide +kernel
theorem dX11_row_5 : decode cX11_row 5 = .ok (.aload_n 0, 1) := by decide +kernel
theorem dX11_row_6 : decode cX11_row 6 = .ok (.getfield 33, 3) := by decide +kernel
theorem dX11_row_9 : decode cX11_row 9 = .ok (.getfield 252, 3) := by decide +kernel
theorem dX11_row_12 : decode cX11_row 12 = .ok (.if_icmp .lt 14, 3) := by decide +kernel
theorem dX11_row_15 : decode cX11_row 15 = .ok (.new 159, 3) := by decide +kernel
theorem dX11_row_18 : decode cX11_row 18 = .ok (.dup, 1) := by decide +kernel
theorem dX11_row_19 : decode cX11_row 19 = .ok (.ldc_w 337, 3) := by decide +kernel
theorem dX11_row_22 : decode cX11_row 22 = .ok (.invokespecial 163, 3) := by decide +kernel
theorem dX11_row_25 : decode cX11_row 25 = .ok (.athrow, 1) := by decide +kernel
theorem dX11_row_26 : decode cX11_row 26 = .ok (.aload_n 0, 1) := by decide +kernel
theorem dX11_row_27 : decode cX11_row 27 = .ok (.getfield 33, 3) := by decide +kernel
theorem dX11_row_30 : decode cX11_row 30 = .ok (.getfield 339, 3) := by decide +kernel
theorem dX11_row_33 : decode cX11_row 33 = .ok (.iload_n 1, 1) := by decide +kernel
theorem dX11_row_34 : decode cX11_row 34 = .ok (.laload, 1) := by decide +kernel
theorem dX11_row_35 : decode cX11_row 35 = .ok (.lreturn, 1) := by decide +kernel
theorem dX11_bit_0 : decode cX11_bit 0 = .ok (.iload_n 0, 1) := by decide +kernel
theorem dX11_bit_1 : decode cX11_bit 1 = .ok (.iload_n 1, 1) := by decide +kernel
theorem dX11_bit_2 : decode cX11_bit 2 = .ok (.iushr, 1) := by decide +kernel
theorem dX11_bit_3 : decode cX11_bit 3 = .ok (.iconst 1, 1) := by decide +kernel
theorem dX11_bit_4 : decode cX11_bit 4 = .ok (.iand, 1) := by decide +kernel
theorem dX11_bit_5 : decode cX11_bit 5 = .ok (.ireturn, 1) := by decide +kernel
theorem dX12_thrown_0 : decode cX12_thrown 0 = .ok (.aload_n 0, 1) := by decide +kernel
theorem dX12_thrown_1 : decode cX12_thrown 1 = .ok (.getfield 1, 3) := by decide +kernel
theorem dX12_thrown_4 : decode cX12_thrown 4 = .ok (.ireturn, 1) := by decide +kernel
theorem dX12_in_0 : decode cX12_in 0 = .ok (.lload_n 0, 1) := by decide +kernel
theorem dX12_in_1 : decode cX12_in 1 = .ok (.lload_n 2, 1) := by decide +kernel
theorem dX12_in_2 : decode cX12_in 2 = .ok (.lcmp, 1) := by decide +kernel
theorem dX12_in_3 : decode cX12_in 3 = .ok (.ifCond .lt 14, 3) := by decide +kernel
theorem dX12_in_6 : decode cX12_in 6 = .ok (.lload_n 0, 1) := by decide +kernel
theorem dX12_in_7 : decode cX12_in 7 = .ok (.lload 4, 2) := by decide +kernel
theorem dX12_in_9 : decode cX12_in 9 = .ok (.lcmp, 1) := by decide +kernel
theorem dX12_in_10 : decode cX12_in 10 = .ok (.ifCond .gt 7, 3) := by decide +kernel
theorem dX12_in_13 : decode cX12_in 13 = .ok (.iconst 1, 1) := by decide +kernel
theorem dX12_in_14 : decode cX12_in 14 = .ok (.goto 4, 3) := by decide +kernel
theorem dX12_in_17 : decode cX12_in 17 = .ok (.iconst 0, 1) := by decide +kernel
theorem dX12_in_18 : decode cX12_in 18 = .ok (.ireturn, 1) := by decide +kernel
theorem dX12_flag_0 : decode cX12_flag 0 = .ok (.iload_n 0, 1) := by decide +kernel
theorem dX12_flag_1 : decode cX12_flag 1 = .ok (.ifCond .eq 7, 3) := by decide +kernel
theorem dX12_flag_4 : decode cX12_flag 4 = .ok (.iconst 1, 1) := by decide +kernel
theorem dX12_flag_5 : decode cX12_flag 5 = .ok (.goto 4, 3) := by decide +kernel
theorem dX12_flag_8 : decode cX12_flag 8 = .ok (.iconst 0, 1) := by decide +kernel
theorem dX12_flag_9 : decode cX12_flag 9 = .ok (.ireturn, 1) := by decide +kernel
theorem dX12_has_0 : decode cX12_has 0 = .ok (.iload_n 0, 1) := by decide +kernel
theorem dX12_has_1 : decode cX12_has 1 = .ok (.iload_n 1, 1) := by decide +kernel
theorem dX12_has_2 : decode cX12_has 2 = .ok (.ishr, 1) := by decide +kernel
theorem dX12_has_3 : decode cX12_has 3 = .ok (.iconst 1, 1) := by decide +kernel
theorem dX12_has_4 : decode cX12_has 4 = .ok (.iand, 1) := by decide +kernel
theorem dX12_has_5 : decode cX12_has 5 = .ok (.iconst 1, 1) := by decide +kernel
theorem dX12_has_6 : decode cX12_has 6 = .ok (.if_icmp .ne 7, 3) := by decide +kernel
theorem dX12_has_9 : decode cX12_has 9 = .ok (.iconst 1, 1) := by decide +kernel
theorem dX12_has_10 : decode cX12_has 10 = .ok (.goto 4, 3) := by decide +kernel
theorem dX12_has_13 : decode cX12_has 13 = .ok (.iconst 0, 1) := by decide +kernel
theorem dX12_has_14 : decode cX12_has 14 = .ok (.ireturn, 1) := by decide +kernel
theorem dX12_sizeOf_0 : decode cX12_sizeOf 0 = .ok (.iconst 0, 1) := by decide +kernel
theorem dX12_sizeOf_1 : decode cX12_sizeOf 1 = .ok (.istore_n 1, 1) := by decide +kernel
theorem dX12_sizeOf_2 : decode cX12_sizeOf 2 = .ok (.iload_n 0, 1) := by decide +kernel
theorem dX12_sizeOf_3 : decode cX12_sizeOf 3 = .ok (.istore_n 2, 1) := by decide +kernel
theorem dX12_sizeOf_4 : decode cX12_sizeOf 4 = .ok (.iload_n 2, 1) := by decide +kernel
theorem dX12_sizeOf_5 : decode cX12_sizeOf 5 = .ok (.ifCond .eq 15, 3) := by decide +kernel
theorem dX12_sizeOf_8 : decode cX12_sizeOf 8 = .ok (.iinc 1 1, 3) := by decide +kernel
theorem dX12_sizeOf_11 : decode cX12_sizeOf 11 = .ok (.iload_n 2, 1) := by decide +kernel
theorem dX12_sizeOf_12 : decode cX12_sizeOf 12 = .ok (.iload_n 2, 1) := by decide +kernel
theorem dX12_sizeOf_13 : decode cX12_sizeOf 13 = .ok (.iconst 1, 1) := by decide +kernel
theorem dX12_sizeOf_14 : decode cX12_sizeOf 14 = .ok (.isub, 1) := by decide +kernel
theorem dX12_sizeOf_15 : decode cX12_sizeOf 15 = .ok (.iand, 1) := by decide +kernel
theorem dX12_sizeOf_16 : decode cX12_sizeOf 16 = .ok (.istore_n 2, 1) := by decide +kernel
theorem dX12_sizeOf_17 : decode cX12_sizeOf 17 = .ok (.goto (-13), 3) := by decide +kernel
theorem dX12_sizeOf_20 : decode cX12_sizeOf 20 = .ok (.iload_n 1, 1) := by decide +kernel
theorem dX12_sizeOf_21 : decode cX12_sizeOf 21 = .ok (.ireturn, 1) := by decide +kernel
theorem dX12_enters_0 : decode cX12_enters 0 = .ok (.aload_n 0, 1) := by decide +kernel
theorem dX12_enters_1 : decode cX12_enters 1 = .ok (.getfield 7, 3) := by decide +kernel
theorem dX12_enters_4 : decode cX12_enters 4 = .ok (.aload_n 0, 1) := by decide +kernel
theorem dX12_enters_5 : decode cX12_enters 5 = .ok (.getfield 11, 3) := by decide +kernel
theorem dX12_enters_8 : decode cX12_enters 8 = .ok (.lload_n 1, 1) := by decide +kernel
theorem dX12_enters_9 : decode cX12_enters 9 = .ok (.lastore, 1) := by decide +kernel
theorem dX12_enters_10 : decode cX12_enters 10 = .ok (.aload_n 0, 1) := by decide +kernel
theorem dX12_enters_11 : decode cX12_enters 11 = .ok (.dup, 1) := by decide +kernel
theorem dX12_enters_12 : decode cX12_enters 12 = .ok (.getfield 11, 3) := by decide +kernel
theorem dX12_enters_15 : decode cX12_enters 15 = .ok (.iconst 1, 1) := by decide +kernel
theorem dX12_enters_16 : decode cX12_enters 16 = .ok (.iadd, 1) := by decide +kernel
theorem dX12_enters_17 : decode cX12_enters 17 = .ok (.putfield 11, 3) := by decide +kernel
theorem dX12_enters_20 : decode cX12_enters 20 = .ok (.return_, 1) := by decide +kernel
theorem dX12_sign_0 : decode cX12_sign 0 = .ok (.aload_n 0, 1) := by decide +kernel
theorem dX12_sign_1 : decode cX12_sign 1 = .ok (.iconst 0, 1) := by decide +kernel
theorem dX12_sign_2 : decode cX12_sign 2 = .ok (.putfield 1, 3) := by decide +kernel
theorem dX12_sign_5 : decode cX12_sign 5 = .ok (.aload_n 0, 1) := by decide +kernel
theorem dX12_sign_6 : decode cX12_sign 6 = .ok (.getfield 14, 3) := by decide +kernel
theorem dX12_sign_9 : decode cX12_sign 9 = .ok (.bipush 76, 2) := by decide +kernel
theorem dX12_sign_11 : decode cX12_sign 11 = .ok (.if_icmp .le 5, 3) := by decide +kernel
theorem dX12_sign_14 : decode cX12_sign 14 = .ok (.iconst (-1), 1) := by decide +kernel
theorem dX12_sign_15 : decode cX12_sign 15 = .ok (.ireturn, 1) := by decide +kernel
theorem dX12_sign_16 : decode cX12_sign 16 = .ok (.iconst 0, 1) := by decide +kernel
theorem dX12_sign_17 : decode cX12_sign 17 = .ok (.istore_n 2, 1) := by decide +kernel
theorem dX12_sign_18 : decode cX12_sign 18 = .ok (.iload_n 2, 1) := by decide +kernel
theorem dX12_sign_19 : decode cX12_sign 19 = .ok (.iconst 4, 1) := by decide +kernel
theorem dX12_sign_20 : decode cX12_sign 20 = .ok (.if_icmp .ge 33, 3) := by decide +kernel
theorem dX12_sign_23 : decode cX12_sign 23 = .ok (.aload_n 0, 1) := by decide +kernel
theorem dX12_sign_24 : decode cX12_sign 24 = .ok (.getfield 17, 3) := by decide +kernel
theorem dX12_sign_27 : decode cX12_sign 27 = .ok (.aload_n 0, 1) := by decide +kernel
theorem dX12_sign_28 : decode cX12_sign 28 = .ok (.getfield 14, 3) := by decide +kernel
theorem dX12_sign_31 : decode cX12_sign 31 = .ok (.iload_n 2, 1) := by decide +kernel
theorem dX12_sign_32 : decode cX12_sign 32 = .ok (.iadd, 1) := by decide +kernel
theorem dX12_sign_33 : decode cX12_sign 33 = .ok (.iload_n 1, 1) := by decide +kernel
theorem dX12_sign_34 : decode cX12_sign 34 = .ok (.bipush 24, 2) := by decide +kernel
theorem dX12_sign_36 : decode cX12_sign 36 = .ok (.bipush 8, 2) := by decide +kernel
theorem dX12_sign_38 : decode cX12_sign 38 = .ok (.iload_n 2, 1) := by decide +kernel
theorem dX12_sign_39 : decode cX12_sign 39 = .ok (.imul, 1) := by decide +kernel
theorem dX12_sign_40 : decode cX12_sign 40 = .ok (.isub, 1) := by decide +kernel
theorem dX12_sign_41 : decode cX12_sign 41 = .ok (.ishr, 1) := by decide +kernel
theorem dX12_sign_42 : decode cX12_sign 42 = .ok (.sipush 255, 3) := by decide +kernel
theorem dX12_sign_45 : decode cX12_sign 45 = .ok (.iand, 1) := by decide +kernel
theorem dX12_sign_46 : decode cX12_sign 46 = .ok (.iastore, 1) := by decide +kernel
theorem dX12_sign_47 : decode cX12_sign 47 = .ok (.iinc 2 1, 3) := by decide +kernel
theorem dX12_sign_50 : decode cX12_sign 50 = .ok (.goto (-32), 3) := by decide +kernel
theorem dX12_sign_53 : decode cX12_sign 53 = .ok (.aload_n 0, 1) := by decide +kernel
theorem dX12_sign_54 : decode cX12_sign 54 = .ok (.dup, 1) := by decide +kernel
theorem dX12_sign_55 : decode cX12_sign 55 = .ok (.getfield 14, 3) := by decide +kernel
theorem dX12_sign_58 : decode cX12_sign 58 = .ok (.iconst 4, 1) := by decide +kernel
theorem dX12_sign_59 : decode cX12_sign 59 = .ok (.iadd, 1) := by decide +kernel
theorem dX12_sign_60 : decode cX12_sign 60 = .ok (.putfield 14, 3) := by decide +kernel
theorem dX12_sign_63 : decode cX12_sign 63 = .ok (.aload_n 0, 1) := by decide +kernel
theorem dX12_sign_64 : decode cX12_sign 64 = .ok (.getfield 14, 3) := by decide +kernel
theorem dX12_sign_67 : decode cX12_sign 67 = .ok (.ireturn, 1) := by decide +kernel
theorem dX12_end_0 : decode cX12_end 0 = .ok (.aload_n 0, 1) := by decide +kernel
theorem dX12_end_1 : decode cX12_end 1 = .ok (.iconst 0, 1) := by decide +kernel
theorem dX12_end_2 : decode cX12_end 2 = .ok (.putfield 1, 3) := by decide +kernel
theorem dX12_end_5 : decode cX12_end 5 = .ok (.iload_n 1, 1) := by decide +kernel
theorem dX12_end_6 : decode cX12_end 6 = .ok (.i2l, 1) := by decide +kernel
theorem dX12_end_7 : decode cX12_end 7 = .ok (.lconst 0, 1) := by decide +kernel
theorem dX12_end_8 : decode cX12_end 8 = .ok (.aload_n 0, 1) := by decide +kernel
theorem dX12_end_9 : decode cX12_end 9 = .ok (.getfield 14, 3) := by decide +kernel
theorem dX12_end_12 : decode cX12_end 12 = .ok (.i2l, 1) := by decide +kernel
theorem dX12_end_13 : decode cX12_end 13 = .ok (.invokestatic 21, 3) := by decide +kernel
theorem dX12_end_16 : decode cX12_end 16 = .ok (.ifCond .ne 5, 3) := by decide +kernel
theorem dX12_end_19 : decode cX12_end 19 = .ok (.iconst 0, 1) := by decide +kernel
theorem dX12_end_20 : decode cX12_end 20 = .ok (.ireturn, 1) := by decide +kernel
theorem dX12_end_21 : decode cX12_end 21 = .ok (.aload_n 0, 1) := by decide +kernel
theorem dX12_end_22 : decode cX12_end 22 = .ok (.iload_n 1, 1) := by decide +kernel
theorem dX12_end_23 : decode cX12_end 23 = .ok (.putfield 14, 3) := by decide +kernel
theorem dX12_end_26 : decode cX12_end 26 = .ok (.iconst 1, 1) := by decide +kernel
theorem dX12_end_27 : decode cX12_end 27 = .ok (.ireturn, 1) := by decide +kernel
theorem dX12_takesOf_0 : decode cX12_takesOf 0 = .ok (.iconst 0, 1) := by decide +kernel
theorem dX12_takesOf_1 : decode cX12_takesOf 1 = .ok (.istore_n 2, 1) := by decide +kernel
theorem dX12_takesOf_2 : decode cX12_takesOf 2 = .ok (.iload_n 2, 1) := by decide +kernel
theorem dX12_takesOf_3 : decode cX12_takesOf 3 = .ok (.aload_n 1, 1) := by decide +kernel
theorem dX12_takesOf_4 : decode cX12_takesOf 4 = .ok (.invokevirtual 25, 3) := by decide +kernel
theorem dX12_takesOf_7 : decode cX12_takesOf 7 = .ok (.if_icmp .ge 49, 3) := by decide +kernel
theorem dX12_takesOf_10 : decode cX12_takesOf 10 = .ok (.aload_n 0, 1) := by decide +kernel
theorem dX12_takesOf_11 : decode cX12_takesOf 11 = .ok (.getfield 31, 3) := by decide +kernel
theorem dX12_takesOf_14 : decode cX12_takesOf 14 = .ok (.aload_n 0, 1) := by decide +kernel
theorem dX12_takesOf_15 : decode cX12_takesOf 15 = .ok (.getfield 34, 3) := by decide +kernel
theorem dX12_takesOf_18 : decode cX12_takesOf 18 = .ok (.if_icmp .ge 38, 3) := by decide +kernel
theorem dX12_takesOf_21 : decode cX12_takesOf 21 = .ok (.aload_n 1, 1) := by decide +kernel
theorem dX12_takesOf_22 : decode cX12_takesOf 22 = .ok (.iload_n 2, 1) := by decide +kernel
theorem dX12_takesOf_23 : decode cX12_takesOf 23 = .ok (.invokevirtual 37, 3) := by decide +kernel
theorem dX12_takesOf_26 : decode cX12_takesOf 26 = .ok (.aload_n 0, 1) := by decide +kernel
theorem dX12_takesOf_27 : decode cX12_takesOf 27 = .ok (.getfield 17, 3) := by decide +kernel
theorem dX12_takesOf_30 : decode cX12_takesOf 30 = .ok (.aload_n 0, 1) := by decide +kernel
theorem dX12_takesOf_31 : decode cX12_takesOf 31 = .ok (.getfield 31, 3) := by decide +kernel
theorem dX12_takesOf_34 : decode cX12_takesOf 34 = .ok (.iaload, 1) := by decide +kernel
theorem dX12_takesOf_35 : decode cX12_takesOf 35 = .ok (.if_icmp .ne 15, 3) := by decide +kernel
theorem dX12_takesOf_38 : decode cX12_takesOf 38 = .ok (.aload_n 0, 1) := by decide +kernel
theorem dX12_takesOf_39 : decode cX12_takesOf 39 = .ok (.dup, 1) := by decide +kernel
theorem dX12_takesOf_40 : decode cX12_takesOf 40 = .ok (.getfield 31, 3) := by decide +kernel
theorem dX12_takesOf_43 : decode cX12_takesOf 43 = .ok (.iconst 1, 1) := by decide +kernel
theorem dX12_takesOf_44 : decode cX12_takesOf 44 = .ok (.iadd, 1) := by decide +kernel
theorem dX12_takesOf_45 : decode cX12_takesOf 45 = .ok (.putfield 31, 3) := by decide +kernel
theorem dX12_takesOf_48 : decode cX12_takesOf 48 = .ok (.iload_n 2, 1) := by decide +kernel
theorem dX12_takesOf_49 : decode cX12_takesOf 49 = .ok (.ireturn, 1) := by decide +kernel
theorem dX12_takesOf_50 : decode cX12_takesOf 50 = .ok (.iinc 2 1, 3) := by decide +kernel
theorem dX12_takesOf_53 : decode cX12_takesOf 53 = .ok (.goto (-51), 3) := by decide +kernel
theorem dX12_takesOf_56 : decode cX12_takesOf 56 = .ok (.iconst (-1), 1) := by decide +kernel
theorem dX12_takesOf_57 : decode cX12_takesOf 57 = .ok (.ireturn, 1) := by decide +kernel
theorem dX12_digits_0 : decode cX12_digits 0 = .ok (.iconst 0, 1) := by decide +kernel
theorem dX12_digits_1 : decode cX12_digits 1 = .ok (.istore_n 2, 1) := by decide +kernel
theorem dX12_digits_2 : decode cX12_digits 2 = .ok (.iconst 0, 1) := by decide +kernel
theorem dX12_digits_3 : decode cX12_digits 3 = .ok (.istore_n 3, 1) := by decide +kernel
theorem dX12_digits_4 : decode cX12_digits 4 = .ok (.iload_n 3, 1) := by decide +kernel
theorem dX12_digits_5 : decode cX12_digits 5 = .ok (.iload_n 1, 1) := by decide +kernel
theorem dX12_digits_6 : decode cX12_digits 6 = .ok (.if_icmp .ge 38, 3) := by decide +kernel
theorem dX12_digits_9 : decode cX12_digits 9 = .ok (.iload_n 2, 1) := by decide +kernel
theorem dX12_digits_10 : decode cX12_digits 10 = .ok (.ifCond .lt 34, 3) := by decide +kernel
theorem dX12_digits_13 : decode cX12_digits 13 = .ok (.aload_n 0, 1) := by decide +kernel
theorem dX12_digits_14 : decode cX12_digits 14 = .ok (.ldc 41, 2) := by decide +kernel
theorem dX12_digits_16 : decode cX12_digits 16 = .ok (.invokevirtual 43, 3) := by decide +kernel
theorem dX12_digits_19 : decode cX12_digits 19 = .ok (.istore 4, 2) := by decide +kernel
theorem dX12_digits_21 : decode cX12_digits 21 = .ok (.iload 4, 2) := by decide +kernel
theorem dX12_digits_23 : decode cX12_digits 23 = .ok (.ifCond .ge 7, 3) := by decide +kernel
theorem dX12_digits_26 : decode cX12_digits 26 = .ok (.iconst (-1), 1) := by decide +kernel
theorem dX12_digits_27 : decode cX12_digits 27 = .ok (.goto 10, 3) := by decide +kernel
theorem dX12_digits_30 : decode cX12_digits 30 = .ok (.bipush 10, 2) := by decide +kernel
theorem dX12_digits_32 : decode cX12_digits 32 = .ok (.iload_n 2, 1) := by decide +kernel
theorem dX12_digits_33 : decode cX12_digits 33 = .ok (.imul, 1) := by decide +kernel
theorem dX12_digits_34 : decode cX12_digits 34 = .ok (.iload 4, 2) := by decide +kernel
theorem dX12_digits_36 : decode cX12_digits 36 = .ok (.iadd, 1) := by decide +kernel
theorem dX12_digits_37 : decode cX12_digits 37 = .ok (.istore_n 2, 1) := by decide +kernel
theorem dX12_digits_38 : decode cX12_digits 38 = .ok (.iinc 3 1, 3) := by decide +kernel
theorem dX12_digits_41 : decode cX12_digits 41 = .ok (.goto (-37), 3) := by decide +kernel
theorem dX12_digits_44 : decode cX12_digits 44 = .ok (.iload_n 2, 1) := by decide +kernel
theorem dX12_digits_45 : decode cX12_digits 45 = .ok (.ireturn, 1) := by decide +kernel
theorem dX12_init_0 : decode cX12_init 0 = .ok (.aload_n 0, 1) := by decide +kernel
theorem dX12_init_1 : decode cX12_init 1 = .ok (.invokespecial 47, 3) := by decide +kernel
theorem dX12_init_4 : decode cX12_init 4 = .ok (.aload_n 0, 1) := by decide +kernel
theorem dX12_init_5 : decode cX12_init 5 = .ok (.bipush 32, 2) := by decide +kernel
theorem dX12_init_7 : decode cX12_init 7 = .ok (.newarray .long, 2) := by decide +kernel
theorem dX12_init_9 : decode cX12_init 9 = .ok (.putfield 7, 3) := by decide +kernel
theorem dX12_init_12 : decode cX12_init 12 = .ok (.aload_n 0, 1) := by decide +kernel
theorem dX12_init_13 : decode cX12_init 13 = .ok (.bipush 80, 2) := by decide +kernel
theorem dX12_init_15 : decode cX12_init 15 = .ok (.newarray .int, 2) := by decide +kernel
theorem dX12_init_17 : decode cX12_init 17 = .ok (.putfield 17, 3) := by decide +kernel
theorem dX12_init_20 : decode cX12_init 20 = .ok (.aload_n 0, 1) := by decide +kernel
theorem dX12_init_21 : decode cX12_init 21 = .ok (.sipush 5551, 3) := by decide +kernel
theorem dX12_init_24 : decode cX12_init 24 = .ok (.newarray .int, 2) := by decide +kernel
theorem dX12_init_26 : decode cX12_init 26 = .ok (.putfield 53, 3) := by decide +kernel
theorem dX12_init_29 : decode cX12_init 29 = .ok (.aload_n 0, 1) := by decide +kernel
theorem dX12_init_30 : decode cX12_init 30 = .ok (.bipush 24, 2) := by decide +kernel
theorem dX12_init_32 : decode cX12_init 32 = .ok (.newarray .int, 2) := by decide +kernel
theorem dX12_init_34 : decode cX12_init 34 = .ok (.putfield 56, 3) := by decide +kernel
theorem dX12_init_37 : decode cX12_init 37 = .ok (.aload_n 0, 1) := by decide +kernel
theorem dX12_init_38 : decode cX12_init 38 = .ok (.bipush 24, 2) := by decide +kernel
theorem dX12_init_40 : decode cX12_init 40 = .ok (.newarray .int, 2) := by decide +kernel
theorem dX12_init_42 : decode cX12_init 42 = .ok (.putfield 59, 3) := by decide +kernel
theorem dX12_init_45 : decode cX12_init 45 = .ok (.aload_n 0, 1) := by decide +kernel
theorem dX12_init_46 : decode cX12_init 46 = .ok (.bipush 24, 2) := by decide +kernel
theorem dX12_init_48 : decode cX12_init 48 = .ok (.newarray .int, 2) := by decide +kernel
theorem dX12_init_50 : decode cX12_init 50 = .ok (.putfield 62, 3) := by decide +kernel
theorem dX12_init_53 : decode cX12_init 53 = .ok (.aload_n 0, 1) := by decide +kernel
theorem dX12_init_54 : decode cX12_init 54 = .ok (.bipush 80, 2) := by decide +kernel
theorem dX12_init_56 : decode cX12_init 56 = .ok (.newarray .int, 2) := by decide +kernel
theorem dX12_init_58 : decode cX12_init 58 = .ok (.putfield 65, 3) := by decide +kernel
theorem dX12_init_61 : decode cX12_init 61 = .ok (.aload_n 0, 1) := by decide +kernel
theorem dX12_init_62 : decode cX12_init 62 = .ok (.bipush 80, 2) := by decide +kernel
theorem dX12_init_64 : decode cX12_init 64 = .ok (.newarray .int, 2) := by decide +kernel
theorem dX12_init_66 : decode cX12_init 66 = .ok (.putfield 68, 3) := by decide +kernel
theorem dX12_init_69 : decode cX12_init 69 = .ok (.aload_n 0, 1) := by decide +kernel
theorem dX12_init_70 : decode cX12_init 70 = .ok (.bipush 80, 2) := by decide +kernel
theorem dX12_init_72 : decode cX12_init 72 = .ok (.newarray .int, 2) := by decide +kernel
theorem dX12_init_74 : decode cX12_init 74 = .ok (.putfield 71, 3) := by decide +kernel
theorem dX12_init_77 : decode cX12_init 77 = .ok (.aload_n 0, 1) := by decide +kernel
theorem dX12_init_78 : decode cX12_init 78 = .ok (.bipush 80, 2) := by decide +kernel
theorem dX12_init_80 : decode cX12_init 80 = .ok (.newarray .int, 2) := by decide +kernel
theorem dX12_init_82 : decode cX12_init 82 = .ok (.putfield 74, 3) := by decide +kernel
theorem dX12_init_85 : decode cX12_init 85 = .ok (.aload_n 0, 1) := by decide +kernel
theorem dX12_init_86 : decode cX12_init 86 = .ok (.iconst 2, 1) := by decide +kernel
theorem dX12_init_87 : decode cX12_init 87 = .ok (.newarray .boolean, 2) := by decide +kernel
theorem dX12_init_89 : decode cX12_init 89 = .ok (.putfield 77, 3) := by decide +kernel
theorem dX12_init_92 : decode cX12_init 92 = .ok (.aload_n 0, 1) := by decide +kernel
theorem dX12_init_93 : decode cX12_init 93 = .ok (.getfield 53, 3) := by decide +kernel
theorem dX12_init_96 : decode cX12_init 96 = .ok (.iconst 0, 1) := by decide +kernel
theorem dX12_init_97 : decode cX12_init 97 = .ok (.bipush 24, 2) := by decide +kernel
theorem dX12_init_99 : decode cX12_init 99 = .ok (.iastore, 1) := by decide +kernel
theorem dX12_init_100 : decode cX12_init 100 = .ok (.iconst 0, 1) := by decide +kernel
theorem dX12_init_101 : decode cX12_init 101 = .ok (.istore_n 1, 1) := by decide +kernel
theorem dX12_init_102 : decode cX12_init 102 = .ok (.iload_n 1, 1) := by decide +kernel
theorem dX12_init_103 : decode cX12_init 103 = .ok (.bipush 10, 2) := by decide +kernel
theorem dX12_init_105 : decode cX12_init 105 = .ok (.if_icmp .ge 19, 3) := by decide +kernel
theorem dX12_init_108 : decode cX12_init 108 = .ok (.aload_n 0, 1) := by decide +kernel
theorem dX12_init_109 : decode cX12_init 109 = .ok (.getfield 53, 3) := by decide +kernel
theorem dX12_init_112 : decode cX12_init 112 = .ok (.bipush 33, 2) := by decide +kernel
theorem dX12_init_114 : decode cX12_init 114 = .ok (.iload_n 1, 1) := by decide +kernel
theorem dX12_init_115 : decode cX12_init 115 = .ok (.iadd, 1) := by decide +kernel
theorem dX12_init_116 : decode cX12_init 116 = .ok (.iconst (-1), 1) := by decide +kernel
theorem dX12_init_117 : decode cX12_init 117 = .ok (.iastore, 1) := by decide +kernel
theorem dX12_init_118 : decode cX12_init 118 = .ok (.iinc 1 1, 3) := by decide +kernel
theorem dX12_init_121 : decode cX12_init 121 = .ok (.goto (-19), 3) := by decide +kernel
theorem dX12_init_124 : decode cX12_init 124 = .ok (.return_, 1) := by decide +kernel
theorem dX12_copies_0 : decode cX12_copies 0 = .ok (.iconst 0, 1) := by decide +kernel
theorem dX12_copies_1 : decode cX12_copies 1 = .ok (.istore_n 3, 1) := by decide +kernel
theorem dX12_copies_2 : decode cX12_copies 2 = .ok (.iload_n 3, 1) := by decide +kernel
theorem dX12_copies_3 : decode cX12_copies 3 = .ok (.sipush 427, 3) := by decide +kernel
theorem dX12_copies_6 : decode cX12_copies 6 = .ok (.if_icmp .ge 33, 3) := by decide +kernel
theorem dX12_copies_9 : decode cX12_copies 9 = .ok (.aload_n 0, 1) := by decide +kernel
theorem dX12_copies_10 : decode cX12_copies 10 = .ok (.getfield 53, 3) := by decide +kernel
theorem dX12_copies_13 : decode cX12_copies 13 = .ok (.iload_n 2, 1) := by decide +kernel
theorem dX12_copies_14 : decode cX12_copies 14 = .ok (.sipush 427, 3) := by decide +kernel
theorem dX12_copies_17 : decode cX12_copies 17 = .ok (.imul, 1) := by decide +kernel
theorem dX12_copies_18 : decode cX12_copies 18 = .ok (.iload_n 3, 1) := by decide +kernel
theorem dX12_copies_19 : decode cX12_copies 19 = .ok (.iadd, 1) := by decide +kernel
theorem dX12_copies_20 : decode cX12_copies 20 = .ok (.aload_n 0, 1) := by decide +kernel
theorem dX12_copies_21 : decode cX12_copies 21 = .ok (.getfield 53, 3) := by decide +kernel
theorem dX12_copies_24 : decode cX12_copies 24 = .ok (.iload_n 1, 1) := by decide +kernel
theorem dX12_copies_25 : decode cX12_copies 25 = .ok (.sipush 427, 3) := by decide +kernel
theorem dX12_copies_28 : decode cX12_copies 28 = .ok (.imul, 1) := by decide +kernel
theorem dX12_copies_29 : decode cX12_copies 29 = .ok (.iload_n 3, 1) := by decide +kernel
theorem dX12_copies_30 : decode cX12_copies 30 = .ok (.iadd, 1) := by decide +kernel
theorem dX12_copies_31 : decode cX12_copies 31 = .ok (.iaload, 1) := by decide +kernel
theorem dX12_copies_32 : decode cX12_copies 32 = .ok (.iastore, 1) := by decide +kernel
theorem dX12_copies_33 : decode cX12_copies 33 = .ok (.iinc 3 1, 3) := by decide +kernel
theorem dX12_copies_36 : decode cX12_copies 36 = .ok (.goto (-34), 3) := by decide +kernel
theorem dX12_copies_39 : decode cX12_copies 39 = .ok (.return_, 1) := by decide +kernel
theorem dX12_tries_0 : decode cX12_tries 0 = .ok (.aload_n 0, 1) := by decide +kernel
theorem dX12_tries_1 : decode cX12_tries 1 = .ok (.iconst 0, 1) := by decide +kernel
theorem dX12_tries_2 : decode cX12_tries 2 = .ok (.iconst 4, 1) := by decide +kernel
theorem dX12_tries_3 : decode cX12_tries 3 = .ok (.invokevirtual 81, 3) := by decide +kernel
theorem dX12_tries_6 : decode cX12_tries 6 = .ok (.aload_n 0, 1) := by decide +kernel
theorem dX12_tries_7 : decode cX12_tries 7 = .ok (.sipush 1708, 3) := by decide +kernel
theorem dX12_tries_10 : decode cX12_tries 10 = .ok (.putfield 85, 3) := by decide +kernel
theorem dX12_tries_13 : decode cX12_tries 13 = .ok (.return_, 1) := by decide +kernel
theorem dX12_isBack_0 : decode cX12_isBack 0 = .ok (.aload_n 0, 1) := by decide +kernel
theorem dX12_isBack_1 : decode cX12_isBack 1 = .ok (.iconst 0, 1) := by decide +kernel
theorem dX12_isBack_2 : decode cX12_isBack 2 = .ok (.putfield 85, 3) := by decide +kernel
theorem dX12_isBack_5 : decode cX12_isBack 5 = .ok (.return_, 1) := by decide +kernel
theorem dX12_lays_0 : decode cX12_lays 0 = .ok (.aload_n 0, 1) := by decide +kernel
theorem dX12_lays_1 : decode cX12_lays 1 = .ok (.getfield 88, 3) := by decide +kernel
theorem dX12_lays_4 : decode cX12_lays 4 = .ok (.bipush 8, 2) := by decide +kernel
theorem dX12_lays_6 : decode cX12_lays 6 = .ok (.if_icmp .ne 41, 3) := by decide +kernel
theorem dX12_lays_9 : decode cX12_lays 9 = .ok (.iconst 0, 1) := by decide +kernel
theorem dX12_lays_10 : decode cX12_lays 10 = .ok (.istore_n 1, 1) := by decide +kernel
theorem dX12_lays_11 : decode cX12_lays 11 = .ok (.iload_n 1, 1) := by decide +kernel
theorem dX12_lays_12 : decode cX12_lays 12 = .ok (.iconst 1, 1) := by decide +kernel
theorem dX12_lays_13 : decode cX12_lays 13 = .ok (.iadd, 1) := by decide +kernel
theorem dX12_lays_14 : decode cX12_lays 14 = .ok (.bipush 8, 2) := by decide +kernel
theorem dX12_lays_16 : decode cX12_lays 16 = .ok (.if_icmp .ge 21, 3) := by decide +kernel
theorem dX12_lays_19 : decode cX12_lays 19 = .ok (.aload_n 0, 1) := by decide +kernel
theorem dX12_lays_20 : decode cX12_lays 20 = .ok (.iconst 5, 1) := by decide +kernel
theorem dX12_lays_21 : decode cX12_lays 21 = .ok (.iload_n 1, 1) := by decide +kernel
theorem dX12_lays_22 : decode cX12_lays 22 = .ok (.iadd, 1) := by decide +kernel
theorem dX12_lays_23 : decode cX12_lays 23 = .ok (.iconst 1, 1) := by decide +kernel
theorem dX12_lays_24 : decode cX12_lays 24 = .ok (.iadd, 1) := by decide +kernel
theorem dX12_lays_25 : decode cX12_lays 25 = .ok (.iconst 5, 1) := by decide +kernel
theorem dX12_lays_26 : decode cX12_lays 26 = .ok (.iload_n 1, 1) := by decide +kernel
theorem dX12_lays_27 : decode cX12_lays 27 = .ok (.iadd, 1) := by decide +kernel
theorem dX12_lays_28 : decode cX12_lays 28 = .ok (.invokevirtual 81, 3) := by decide +kernel
theorem dX12_lays_31 : decode cX12_lays 31 = .ok (.iinc 1 1, 3) := by decide +kernel
theorem dX12_lays_34 : decode cX12_lays 34 = .ok (.goto (-23), 3) := by decide +kernel
theorem dX12_lays_37 : decode cX12_lays 37 = .ok (.aload_n 0, 1) := by decide +kernel
theorem dX12_lays_38 : decode cX12_lays 38 = .ok (.dup, 1) := by decide +kernel
theorem dX12_lays_39 : decode cX12_lays 39 = .ok (.getfield 88, 3) := by decide +kernel
theorem dX12_lays_42 : decode cX12_lays 42 = .ok (.iconst 1, 1) := by decide +kernel
theorem dX12_lays_43 : decode cX12_lays 43 = .ok (.isub, 1) := by decide +kernel
theorem dX12_lays_44 : decode cX12_lays 44 = .ok (.putfield 88, 3) := by decide +kernel
theorem dX12_lays_47 : decode cX12_lays 47 = .ok (.aload_n 0, 1) := by decide +kernel
theorem dX12_lays_48 : decode cX12_lays 48 = .ok (.iconst 3, 1) := by decide +kernel
theorem dX12_lays_49 : decode cX12_lays 49 = .ok (.iconst 5, 1) := by decide +kernel
theorem dX12_lays_50 : decode cX12_lays 50 = .ok (.aload_n 0, 1) := by decide +kernel
theorem dX12_lays_51 : decode cX12_lays 51 = .ok (.getfield 88, 3) := by decide +kernel
theorem dX12_lays_54 : decode cX12_lays 54 = .ok (.iadd, 1) := by decide +kernel
theorem dX12_lays_55 : decode cX12_lays 55 = .ok (.invokevirtual 81, 3) := by decide +kernel
theorem dX12_lays_58 : decode cX12_lays 58 = .ok (.aload_n 0, 1) := by decide +kernel
theorem dX12_lays_59 : decode cX12_lays 59 = .ok (.dup, 1) := by decide +kernel
theorem dX12_lays_60 : decode cX12_lays 60 = .ok (.getfield 88, 3) := by decide +kernel
theorem dX12_lays_63 : decode cX12_lays 63 = .ok (.iconst 1, 1) := by decide +kernel
theorem dX12_lays_64 : decode cX12_lays 64 = .ok (.iadd, 1) := by decide +kernel
theorem dX12_lays_65 : decode cX12_lays 65 = .ok (.putfield 88, 3) := by decide +kernel
theorem dX12_lays_68 : decode cX12_lays 68 = .ok (.return_, 1) := by decide +kernel
theorem dX12_undo_0 : decode cX12_undo 0 = .ok (.aload_n 0, 1) := by decide +kernel
theorem dX12_undo_1 : decode cX12_undo 1 = .ok (.iconst 0, 1) := by decide +kernel
theorem dX12_undo_2 : decode cX12_undo 2 = .ok (.putfield 1, 3) := by decide +kernel
theorem dX12_undo_5 : decode cX12_undo 5 = .ok (.aload_n 0, 1) := by decide +kernel
theorem dX12_undo_6 : decode cX12_undo 6 = .ok (.getfield 88, 3) := by decide +kernel
theorem dX12_undo_9 : decode cX12_undo 9 = .ok (.ifCond .ne 5, 3) := by decide +kernel
theorem dX12_undo_12 : decode cX12_undo 12 = .ok (.iconst (-1), 1) := by decide +kernel
theorem dX12_undo_13 : decode cX12_undo 13 = .ok (.ireturn, 1) := by decide +kernel
theorem dX12_undo_14 : decode cX12_undo 14 = .ok (.aload_n 0, 1) := by decide +kernel
theorem dX12_undo_15 : decode cX12_undo 15 = .ok (.dup, 1) := by decide +kernel
theorem dX12_undo_16 : decode cX12_undo 16 = .ok (.getfield 88, 3) := by decide +kernel
theorem dX12_undo_19 : decode cX12_undo 19 = .ok (.iconst 1, 1) := by decide +kernel
theorem dX12_undo_20 : decode cX12_undo 20 = .ok (.isub, 1) := by decide +kernel
theorem dX12_undo_21 : decode cX12_undo 21 = .ok (.putfield 88, 3) := by decide +kernel
theorem dX12_undo_24 : decode cX12_undo 24 = .ok (.aload_n 0, 1) := by decide +kernel
theorem dX12_undo_25 : decode cX12_undo 25 = .ok (.iconst 5, 1) := by decide +kernel
theorem dX12_undo_26 : decode cX12_undo 26 = .ok (.aload_n 0, 1) := by decide +kernel
theorem dX12_undo_27 : decode cX12_undo 27 = .ok (.getfield 88, 3) := by decide +kernel
theorem dX12_undo_30 : decode cX12_undo 30 = .ok (.iadd, 1) := by decide +kernel
theorem dX12_undo_31 : decode cX12_undo 31 = .ok (.iconst 0, 1) := by decide +kernel
theorem dX12_undo_32 : decode cX12_undo 32 = .ok (.invokevirtual 81, 3) := by decide +kernel
theorem dX12_undo_35 : decode cX12_undo 35 = .ok (.aload_n 0, 1) := by decide +kernel
theorem dX12_undo_36 : decode cX12_undo 36 = .ok (.getfield 88, 3) := by decide +kernel
theorem dX12_undo_39 : decode cX12_undo 39 = .ok (.ireturn, 1) := by decide +kernel
theorem dX12_of_0 : decode cX12_of 0 = .ok (.aload_n 0, 1) := by decide +kernel
theorem dX12_of_1 : decode cX12_of 1 = .ok (.getfield 53, 3) := by decide +kernel
theorem dX12_of_4 : decode cX12_of 4 = .ok (.aload_n 0, 1) := by decide +kernel
theorem dX12_of_5 : decode cX12_of 5 = .ok (.getfield 85, 3) := by decide +kernel
theorem dX12_of_8 : decode cX12_of 8 = .ok (.sipush 163, 3) := by decide +kernel
theorem dX12_of_11 : decode cX12_of 11 = .ok (.iadd, 1) := by decide +kernel
theorem dX12_of_12 : decode cX12_of 12 = .ok (.bipush 11, 2) := by decide +kernel
theorem dX12_of_14 : decode cX12_of 14 = .ok (.iload_n 1, 1) := by decide +kernel
theorem dX12_of_15 : decode cX12_of 15 = .ok (.imul, 1) := by decide +kernel
theorem dX12_of_16 : decode cX12_of 16 = .ok (.iadd, 1) := by decide +kernel
theorem dX12_of_17 : decode cX12_of 17 = .ok (.iload_n 2, 1) := by decide +kernel
theorem dX12_of_18 : decode cX12_of 18 = .ok (.iadd, 1) := by decide +kernel
theorem dX12_of_19 : decode cX12_of 19 = .ok (.iaload, 1) := by decide +kernel
theorem dX12_of_20 : decode cX12_of 20 = .ok (.ireturn, 1) := by decide +kernel
theorem dX12_puts_0 : decode cX12_puts 0 = .ok (.aload_n 0, 1) := by decide +kernel
theorem dX12_puts_1 : decode cX12_puts 1 = .ok (.getfield 53, 3) := by decide +kernel
theorem dX12_puts_4 : decode cX12_puts 4 = .ok (.aload_n 0, 1) := by decide +kernel
theorem dX12_puts_5 : decode cX12_puts 5 = .ok (.getfield 85, 3) := by decide +kernel
theorem dX12_puts_8 : decode cX12_puts 8 = .ok (.sipush 163, 3) := by decide +kernel
theorem dX12_puts_11 : decode cX12_puts 11 = .ok (.iadd, 1) := by decide +kernel
theorem dX12_puts_12 : decode cX12_puts 12 = .ok (.bipush 11, 2) := by decide +kernel
theorem dX12_puts_14 : decode cX12_puts 14 = .ok (.iload_n 1, 1) := by decide +kernel
theorem dX12_puts_15 : decode cX12_puts 15 = .ok (.imul, 1) := by decide +kernel
theorem dX12_puts_16 : decode cX12_puts 16 = .ok (.iadd, 1) := by decide +kernel
theorem dX12_puts_17 : decode cX12_puts 17 = .ok (.iload_n 2, 1) := by decide +kernel
theorem dX12_puts_18 : decode cX12_puts 18 = .ok (.iadd, 1) := by decide +kernel
theorem dX12_puts_19 : decode cX12_puts 19 = .ok (.iload_n 3, 1) := by decide +kernel
theorem dX12_puts_20 : decode cX12_puts 20 = .ok (.iastore, 1) := by decide +kernel
theorem dX12_puts_21 : decode cX12_puts 21 = .ok (.return_, 1) := by decide +kernel
theorem dX12_fieldOf_0 : decode cX12_fieldOf 0 = .ok (.aload_n 0, 1) := by decide +kernel
theorem dX12_fieldOf_1 : decode cX12_fieldOf 1 = .ok (.iload_n 1, 1) := by decide +kernel
theorem dX12_fieldOf_2 : decode cX12_fieldOf 2 = .ok (.bipush 7, 2) := by decide +kernel
theorem dX12_fieldOf_4 : decode cX12_fieldOf 4 = .ok (.iload_n 2, 1) := by decide +kernel
theorem dX12_fieldOf_5 : decode cX12_fieldOf 5 = .ok (.iadd, 1) := by decide +kernel
theorem dX12_fieldOf_6 : decode cX12_fieldOf 6 = .ok (.invokevirtual 91, 3) := by decide +kernel
theorem dX12_fieldOf_9 : decode cX12_fieldOf 9 = .ok (.ireturn, 1) := by decide +kernel
theorem dX12_isThere_0 : decode cX12_isThere 0 = .ok (.iload_n 1, 1) := by decide +kernel
theorem dX12_isThere_1 : decode cX12_isThere 1 = .ok (.i2l, 1) := by decide +kernel
theorem dX12_isThere_2 : decode cX12_isThere 2 = .ok (.lconst 0, 1) := by decide +kernel
theorem dX12_isThere_3 : decode cX12_isThere 3 = .ok (.ldc2_w 95, 3) := by decide +kernel
theorem dX12_isThere_6 : decode cX12_isThere 6 = .ok (.invokestatic 21, 3) := by decide +kernel
theorem dX12_isThere_9 : decode cX12_isThere 9 = .ok (.ifCond .eq 17, 3) := by decide +kernel
theorem dX12_isThere_12 : decode cX12_isThere 12 = .ok (.aload_n 0, 1) := by decide +kernel
theorem dX12_isThere_13 : decode cX12_isThere 13 = .ok (.iload_n 1, 1) := by decide +kernel
theorem dX12_isThere_14 : decode cX12_isThere 14 = .ok (.iconst 0, 1) := by decide +kernel
theorem dX12_isThere_15 : decode cX12_isThere 15 = .ok (.invokevirtual 91, 3) := by decide +kernel
theorem dX12_isThere_18 : decode cX12_isThere 18 = .ok (.iconst 1, 1) := by decide +kernel
theorem dX12_isThere_19 : decode cX12_isThere 19 = .ok (.if_icmp .ne 7, 3) := by decide +kernel
theorem dX12_isThere_22 : decode cX12_isThere 22 = .ok (.iconst 1, 1) := by decide +kernel
theorem dX12_isThere_23 : decode cX12_isThere 23 = .ok (.goto 4, 3) := by decide +kernel
theorem dX12_isThere_26 : decode cX12_isThere 26 = .ok (.iconst 0, 1) := by decide +kernel
theorem dX12_isThere_27 : decode cX12_isThere 27 = .ok (.ireturn, 1) := by decide +kernel
theorem dX12_rootOf_0 : decode cX12_rootOf 0 = .ok (.aload_n 0, 1) := by decide +kernel
theorem dX12_rootOf_1 : decode cX12_rootOf 1 = .ok (.getfield 53, 3) := by decide +kernel
theorem dX12_rootOf_4 : decode cX12_rootOf 4 = .ok (.aload_n 0, 1) := by decide +kernel
theorem dX12_rootOf_5 : decode cX12_rootOf 5 = .ok (.getfield 85, 3) := by decide +kernel
theorem dX12_rootOf_8 : decode cX12_rootOf 8 = .ok (.bipush 33, 2) := by decide +kernel
theorem dX12_rootOf_10 : decode cX12_rootOf 10 = .ok (.iadd, 1) := by decide +kernel
theorem dX12_rootOf_11 : decode cX12_rootOf 11 = .ok (.iload_n 1, 1) := by decide +kernel
theorem dX12_rootOf_12 : decode cX12_rootOf 12 = .ok (.iadd, 1) := by decide +kernel
theorem dX12_rootOf_13 : decode cX12_rootOf 13 = .ok (.iaload, 1) := by decide +kernel
theorem dX12_rootOf_14 : decode cX12_rootOf 14 = .ok (.ireturn, 1) := by decide +kernel
theorem dX12_weakOf_0 : decode cX12_weakOf 0 = .ok (.aload_n 0, 1) := by decide +kernel
theorem dX12_weakOf_1 : decode cX12_weakOf 1 = .ok (.getfield 53, 3) := by decide +kernel
theorem dX12_weakOf_4 : decode cX12_weakOf 4 = .ok (.aload_n 0, 1) := by decide +kernel
theorem dX12_weakOf_5 : decode cX12_weakOf 5 = .ok (.getfield 85, 3) := by decide +kernel
theorem dX12_weakOf_8 : decode cX12_weakOf 8 = .ok (.bipush 39, 2) := by decide +kernel
theorem dX12_weakOf_10 : decode cX12_weakOf 10 = .ok (.iadd, 1) := by decide +kernel
theorem dX12_weakOf_11 : decode cX12_weakOf 11 = .ok (.iload_n 1, 1) := by decide +kernel
theorem dX12_weakOf_12 : decode cX12_weakOf 12 = .ok (.iadd, 1) := by decide +kernel
theorem dX12_weakOf_13 : decode cX12_weakOf 13 = .ok (.iaload, 1) := by decide +kernel
theorem dX12_weakOf_14 : decode cX12_weakOf 14 = .ok (.ireturn, 1) := by decide +kernel
theorem dX12_logs_0 : decode cX12_logs 0 = .ok (.aload_n 0, 1) := by decide +kernel
theorem dX12_logs_1 : decode cX12_logs 1 = .ok (.getfield 85, 3) := by decide +kernel
theorem dX12_logs_4 : decode cX12_logs 4 = .ok (.bipush 43, 2) := by decide +kernel
theorem dX12_logs_6 : decode cX12_logs 6 = .ok (.iadd, 1) := by decide +kernel
theorem dX12_logs_7 : decode cX12_logs 7 = .ok (.iconst 2, 1) := by decide +kernel
theorem dX12_logs_8 : decode cX12_logs 8 = .ok (.aload_n 0, 1) := by decide +kernel
theorem dX12_logs_9 : decode cX12_logs 9 = .ok (.getfield 53, 3) := by decide +kernel
theorem dX12_logs_12 : decode cX12_logs 12 = .ok (.aload_n 0, 1) := by decide +kernel
theorem dX12_logs_13 : decode cX12_logs 13 = .ok (.getfield 85, 3) := by decide +kernel
theorem dX12_logs_16 : decode cX12_logs 16 = .ok (.iconst 2, 1) := by decide +kernel
theorem dX12_logs_17 : decode cX12_logs 17 = .ok (.iadd, 1) := by decide +kernel
theorem dX12_logs_18 : decode cX12_logs 18 = .ok (.iaload, 1) := by decide +kernel
theorem dX12_logs_19 : decode cX12_logs 19 = .ok (.bipush 60, 2) := by decide +kernel
theorem dX12_logs_21 : decode cX12_logs 21 = .ok (.irem, 1) := by decide +kernel
theorem dX12_logs_22 : decode cX12_logs 22 = .ok (.imul, 1) := by decide +kernel
theorem dX12_logs_23 : decode cX12_logs 23 = .ok (.iadd, 1) := by decide +kernel
theorem dX12_logs_24 : decode cX12_logs 24 = .ok (.istore_n 3, 1) := by decide +kernel
theorem dX12_logs_25 : decode cX12_logs 25 = .ok (.aload_n 0, 1) := by decide +kernel
theorem dX12_logs_26 : decode cX12_logs 26 = .ok (.getfield 53, 3) := by decide +kernel
theorem dX12_logs_29 : decode cX12_logs 29 = .ok (.iload_n 3, 1) := by decide +kernel
theorem dX12_logs_30 : decode cX12_logs 30 = .ok (.iload_n 1, 1) := by decide +kernel
theorem dX12_logs_31 : decode cX12_logs 31 = .ok (.iastore, 1) := by decide +kernel
theorem dX12_logs_32 : decode cX12_logs 32 = .ok (.aload_n 0, 1) := by decide +kernel
theorem dX12_logs_33 : decode cX12_logs 33 = .ok (.getfield 53, 3) := by decide +kernel
theorem dX12_logs_36 : decode cX12_logs 36 = .ok (.iload_n 3, 1) := by decide +kernel
theorem dX12_logs_37 : decode cX12_logs 37 = .ok (.iconst 1, 1) := by decide +kernel
theorem dX12_logs_38 : decode cX12_logs 38 = .ok (.iadd, 1) := by decide +kernel
theorem dX12_logs_39 : decode cX12_logs 39 = .ok (.iload_n 2, 1) := by decide +kernel
theorem dX12_logs_40 : decode cX12_logs 40 = .ok (.iastore, 1) := by decide +kernel
theorem dX12_logs_41 : decode cX12_logs 41 = .ok (.aload_n 0, 1) := by decide +kernel
theorem dX12_logs_42 : decode cX12_logs 42 = .ok (.getfield 53, 3) := by decide +kernel
theorem dX12_logs_45 : decode cX12_logs 45 = .ok (.aload_n 0, 1) := by decide +kernel
theorem dX12_logs_46 : decode cX12_logs 46 = .ok (.getfield 85, 3) := by decide +kernel
theorem dX12_logs_49 : decode cX12_logs 49 = .ok (.iconst 2, 1) := by decide +kernel
theorem dX12_logs_50 : decode cX12_logs 50 = .ok (.iadd, 1) := by decide +kernel
theorem dX12_logs_51 : decode cX12_logs 51 = .ok (.dup2, 1) := by decide +kernel
theorem dX12_logs_52 : decode cX12_logs 52 = .ok (.iaload, 1) := by decide +kernel
theorem dX12_logs_53 : decode cX12_logs 53 = .ok (.iconst 1, 1) := by decide +kernel
theorem dX12_logs_54 : decode cX12_logs 54 = .ok (.iadd, 1) := by decide +kernel
theorem dX12_logs_55 : decode cX12_logs 55 = .ok (.iastore, 1) := by decide +kernel
theorem dX12_logs_56 : decode cX12_logs 56 = .ok (.aload_n 0, 1) := by decide +kernel
theorem dX12_logs_57 : decode cX12_logs 57 = .ok (.getfield 53, 3) := by decide +kernel
theorem dX12_logs_60 : decode cX12_logs 60 = .ok (.aload_n 0, 1) := by decide +kernel
theorem dX12_logs_61 : decode cX12_logs 61 = .ok (.getfield 85, 3) := by decide +kernel
theorem dX12_logs_64 : decode cX12_logs 64 = .ok (.iconst 3, 1) := by decide +kernel
theorem dX12_logs_65 : decode cX12_logs 65 = .ok (.iadd, 1) := by decide +kernel
theorem dX12_logs_66 : decode cX12_logs 66 = .ok (.iload_n 1, 1) := by decide +kernel
theorem dX12_logs_67 : decode cX12_logs 67 = .ok (.iadd, 1) := by decide +kernel
theorem dX12_logs_68 : decode cX12_logs 68 = .ok (.dup2, 1) := by decide +kernel
theorem dX12_logs_69 : decode cX12_logs 69 = .ok (.iaload, 1) := by decide +kernel
theorem dX12_logs_70 : decode cX12_logs 70 = .ok (.iconst 1, 1) := by decide +kernel
theorem dX12_logs_71 : decode cX12_logs 71 = .ok (.iadd, 1) := by decide +kernel
theorem dX12_logs_72 : decode cX12_logs 72 = .ok (.iastore, 1) := by decide +kernel
theorem dX12_logs_73 : decode cX12_logs 73 = .ok (.return_, 1) := by decide +kernel
theorem dX12_listed_0 : decode cX12_listed 0 = .ok (.aload_n 0, 1) := by decide +kernel
theorem dX12_listed_1 : decode cX12_listed 1 = .ok (.getfield 53, 3) := by decide +kernel
theorem dX12_listed_4 : decode cX12_listed 4 = .ok (.aload_n 0, 1) := by decide +kernel
theorem dX12_listed_5 : decode cX12_listed 5 = .ok (.getfield 85, 3) := by decide +kernel
theorem dX12_listed_8 : decode cX12_listed 8 = .ok (.iconst 1, 1) := by decide +kernel
theorem dX12_listed_9 : decode cX12_listed 9 = .ok (.iadd, 1) := by decide +kernel
theorem dX12_listed_10 : decode cX12_listed 10 = .ok (.iaload, 1) := by decide +kernel
theorem dX12_listed_11 : decode cX12_listed 11 = .ok (.ireturn, 1) := by decide +kernel
theorem dX12_onList_0 : decode cX12_onList 0 = .ok (.aload_n 0, 1) := by decide +kernel
theorem dX12_onList_1 : decode cX12_onList 1 = .ok (.getfield 53, 3) := by decide +kernel
theorem dX12_onList_4 : decode cX12_onList 4 = .ok (.aload_n 0, 1) := by decide +kernel
theorem dX12_onList_5 : decode cX12_onList 5 = .ok (.getfield 85, 3) := by decide +kernel
theorem dX12_onList_8 : decode cX12_onList 8 = .ok (.bipush 9, 2) := by decide +kernel
theorem dX12_onList_10 : decode cX12_onList 10 = .ok (.iadd, 1) := by decide +kernel
theorem dX12_onList_11 : decode cX12_onList 11 = .ok (.iload_n 1, 1) := by decide +kernel
theorem dX12_onList_12 : decode cX12_onList 12 = .ok (.iadd, 1) := by decide +kernel
theorem dX12_onList_13 : decode cX12_onList 13 = .ok (.iaload, 1) := by decide +kernel
theorem dX12_onList_14 : decode cX12_onList 14 = .ok (.ireturn, 1) := by decide +kernel
theorem dX12_placeOnList_0 : decode cX12_placeOnList 0 = .ok (.iconst 0, 1) := by decide +kernel
theorem dX12_placeOnList_1 : decode cX12_placeOnList 1 = .ok (.istore_n 2, 1) := by decide +kernel
theorem dX12_placeOnList_2 : decode cX12_placeOnList 2 = .ok (.iload_n 2, 1) := by decide +kernel
theorem dX12_placeOnList_3 : decode cX12_placeOnList 3 = .ok (.aload_n 0, 1) := by decide +kernel
theorem dX12_placeOnList_4 : decode cX12_placeOnList 4 = .ok (.invokevirtual 97, 3) := by decide +kernel
theorem dX12_placeOnList_7 : decode cX12_placeOnList 7 = .ok (.if_icmp .ge 20, 3) := by decide +kernel
theorem dX12_placeOnList_10 : decode cX12_placeOnList 10 = .ok (.aload_n 0, 1) := by decide +kernel
theorem dX12_placeOnList_11 : decode cX12_placeOnList 11 = .ok (.iload_n 2, 1) := by decide +kernel
theorem dX12_placeOnList_12 : decode cX12_placeOnList 12 = .ok (.invokevirtual 100, 3) := by decide +kernel
theorem dX12_placeOnList_15 : decode cX12_placeOnList 15 = .ok (.iload_n 1, 1) := by decide +kernel
theorem dX12_placeOnList_16 : decode cX12_placeOnList 16 = .ok (.if_icmp .ne 5, 3) := by decide +kernel
theorem dX12_placeOnList_19 : decode cX12_placeOnList 19 = .ok (.iload_n 2, 1) := by decide +kernel
theorem dX12_placeOnList_20 : decode cX12_placeOnList 20 = .ok (.ireturn, 1) := by decide +kernel
theorem dX12_placeOnList_21 : decode cX12_placeOnList 21 = .ok (.iinc 2 1, 3) := by decide +kernel
theorem dX12_placeOnList_24 : decode cX12_placeOnList 24 = .ok (.goto (-22), 3) := by decide +kernel
theorem dX12_placeOnList_27 : decode cX12_placeOnList 27 = .ok (.iconst (-1), 1) := by decide +kernel
theorem dX12_placeOnList_28 : decode cX12_placeOnList 28 = .ok (.ireturn, 1) := by decide +kernel
theorem dX12_goesOffList_0 : decode cX12_goesOffList 0 = .ok (.aload_n 0, 1) := by decide +kernel
theorem dX12_goesOffList_1 : decode cX12_goesOffList 1 = .ok (.aload_n 0, 1) := by decide +kernel
theorem dX12_goesOffList_2 : decode cX12_goesOffList 2 = .ok (.iload_n 1, 1) := by decide +kernel
theorem dX12_goesOffList_3 : decode cX12_goesOffList 3 = .ok (.invokevirtual 100, 3) := by decide +kernel
theorem dX12_goesOffList_6 : decode cX12_goesOffList 6 = .ok (.bipush 6, 2) := by decide +kernel
theorem dX12_goesOffList_8 : decode cX12_goesOffList 8 = .ok (.iconst 0, 1) := by decide +kernel
theorem dX12_goesOffList_9 : decode cX12_goesOffList 9 = .ok (.invokevirtual 104, 3) := by decide +kernel
theorem dX12_goesOffList_12 : decode cX12_goesOffList 12 = .ok (.aload_n 0, 1) := by decide +kernel
theorem dX12_goesOffList_13 : decode cX12_goesOffList 13 = .ok (.getfield 53, 3) := by decide +kernel
theorem dX12_goesOffList_16 : decode cX12_goesOffList 16 = .ok (.aload_n 0, 1) := by decide +kernel
theorem dX12_goesOffList_17 : decode cX12_goesOffList 17 = .ok (.getfield 85, 3) := by decide +kernel
theorem dX12_goesOffList_20 : decode cX12_goesOffList 20 = .ok (.iconst 1, 1) := by decide +kernel
theorem dX12_goesOffList_21 : decode cX12_goesOffList 21 = .ok (.iadd, 1) := by decide +kernel
theorem dX12_goesOffList_22 : decode cX12_goesOffList 22 = .ok (.dup2, 1) := by decide +kernel
theorem dX12_goesOffList_23 : decode cX12_goesOffList 23 = .ok (.iaload, 1) := by decide +kernel
theorem dX12_goesOffList_24 : decode cX12_goesOffList 24 = .ok (.iconst 1, 1) := by decide +kernel
theorem dX12_goesOffList_25 : decode cX12_goesOffList 25 = .ok (.isub, 1) := by decide +kernel
theorem dX12_goesOffList_26 : decode cX12_goesOffList 26 = .ok (.iastore, 1) := by decide +kernel
theorem dX12_goesOffList_27 : decode cX12_goesOffList 27 = .ok (.iload_n 1, 1) := by decide +kernel
theorem dX12_goesOffList_28 : decode cX12_goesOffList 28 = .ok (.istore_n 2, 1) := by decide +kernel
theorem dX12_goesOffList_29 : decode cX12_goesOffList 29 = .ok (.iload_n 2, 1) := by decide +kernel
theorem dX12_goesOffList_30 : decode cX12_goesOffList 30 = .ok (.aload_n 0, 1) := by decide +kernel
theorem dX12_goesOffList_31 : decode cX12_goesOffList 31 = .ok (.invokevirtual 97, 3) := by decide +kernel
theorem dX12_goesOffList_34 : decode cX12_goesOffList 34 = .ok (.if_icmp .ge 39, 3) := by decide +kernel
theorem dX12_goesOffList_37 : decode cX12_goesOffList 37 = .ok (.aload_n 0, 1) := by decide +kernel
theorem dX12_goesOffList_38 : decode cX12_goesOffList 38 = .ok (.getfield 53, 3) := by decide +kernel
theorem dX12_goesOffList_41 : decode cX12_goesOffList 41 = .ok (.aload_n 0, 1) := by decide +kernel
theorem dX12_goesOffList_42 : decode cX12_goesOffList 42 = .ok (.getfield 85, 3) := by decide +kernel
theorem dX12_goesOffList_45 : decode cX12_goesOffList 45 = .ok (.bipush 9, 2) := by decide +kernel
theorem dX12_goesOffList_47 : decode cX12_goesOffList 47 = .ok (.iadd, 1) := by decide +kernel
theorem dX12_goesOffList_48 : decode cX12_goesOffList 48 = .ok (.iload_n 2, 1) := by decide +kernel
theorem dX12_goesOffList_49 : decode cX12_goesOffList 49 = .ok (.iadd, 1) := by decide +kernel
theorem dX12_goesOffList_50 : decode cX12_goesOffList 50 = .ok (.aload_n 0, 1) := by decide +kernel
theorem dX12_goesOffList_51 : decode cX12_goesOffList 51 = .ok (.getfield 53, 3) := by decide +kernel
theorem dX12_goesOffList_54 : decode cX12_goesOffList 54 = .ok (.aload_n 0, 1) := by decide +kernel
theorem dX12_goesOffList_55 : decode cX12_goesOffList 55 = .ok (.getfield 85, 3) := by decide +kernel
theorem dX12_goesOffList_58 : decode cX12_goesOffList 58 = .ok (.bipush 9, 2) := by decide +kernel
theorem dX12_goesOffList_60 : decode cX12_goesOffList 60 = .ok (.iadd, 1) := by decide +kernel
theorem dX12_goesOffList_61 : decode cX12_goesOffList 61 = .ok (.iload_n 2, 1) := by decide +kernel
theorem dX12_goesOffList_62 : decode cX12_goesOffList 62 = .ok (.iadd, 1) := by decide +kernel
theorem dX12_goesOffList_63 : decode cX12_goesOffList 63 = .ok (.iconst 1, 1) := by decide +kernel
theorem dX12_goesOffList_64 : decode cX12_goesOffList 64 = .ok (.iadd, 1) := by decide +kernel
theorem dX12_goesOffList_65 : decode cX12_goesOffList 65 = .ok (.iaload, 1) := by decide +kernel
theorem dX12_goesOffList_66 : decode cX12_goesOffList 66 = .ok (.iastore, 1) := by decide +kernel
theorem dX12_goesOffList_67 : decode cX12_goesOffList 67 = .ok (.iinc 2 1, 3) := by decide +kernel
theorem dX12_goesOffList_70 : decode cX12_goesOffList 70 = .ok (.goto (-41), 3) := by decide +kernel
theorem dX12_goesOffList_73 : decode cX12_goesOffList 73 = .ok (.return_, 1) := by decide +kernel
theorem dX12_isSuspect_0 : decode cX12_isSuspect 0 = .ok (.aload_n 0, 1) := by decide +kernel
theorem dX12_isSuspect_1 : decode cX12_isSuspect 1 = .ok (.iload_n 1, 1) := by decide +kernel
theorem dX12_isSuspect_2 : decode cX12_isSuspect 2 = .ok (.bipush 6, 2) := by decide +kernel
theorem dX12_isSuspect_4 : decode cX12_isSuspect 4 = .ok (.iconst 1, 1) := by decide +kernel
theorem dX12_isSuspect_5 : decode cX12_isSuspect 5 = .ok (.invokevirtual 104, 3) := by decide +kernel
theorem dX12_isSuspect_8 : decode cX12_isSuspect 8 = .ok (.aload_n 0, 1) := by decide +kernel
theorem dX12_isSuspect_9 : decode cX12_isSuspect 9 = .ok (.iload_n 1, 1) := by decide +kernel
theorem dX12_isSuspect_10 : decode cX12_isSuspect 10 = .ok (.invokevirtual 108, 3) := by decide +kernel
theorem dX12_isSuspect_13 : decode cX12_isSuspect 13 = .ok (.ifCond .ge 36, 3) := by decide +kernel
theorem dX12_isSuspect_16 : decode cX12_isSuspect 16 = .ok (.aload_n 0, 1) := by decide +kernel
theorem dX12_isSuspect_17 : decode cX12_isSuspect 17 = .ok (.getfield 53, 3) := by decide +kernel
theorem dX12_isSuspect_20 : decode cX12_isSuspect 20 = .ok (.aload_n 0, 1) := by decide +kernel
theorem dX12_isSuspect_21 : decode cX12_isSuspect 21 = .ok (.getfield 85, 3) := by decide +kernel
theorem dX12_isSuspect_24 : decode cX12_isSuspect 24 = .ok (.bipush 9, 2) := by decide +kernel
theorem dX12_isSuspect_26 : decode cX12_isSuspect 26 = .ok (.iadd, 1) := by decide +kernel
theorem dX12_isSuspect_27 : decode cX12_isSuspect 27 = .ok (.aload_n 0, 1) := by decide +kernel
theorem dX12_isSuspect_28 : decode cX12_isSuspect 28 = .ok (.invokevirtual 97, 3) := by decide +kernel
theorem dX12_isSuspect_31 : decode cX12_isSuspect 31 = .ok (.iadd, 1) := by decide +kernel
theorem dX12_isSuspect_32 : decode cX12_isSuspect 32 = .ok (.iload_n 1, 1) := by decide +kernel
theorem dX12_isSuspect_33 : decode cX12_isSuspect 33 = .ok (.iastore, 1) := by decide +kernel
theorem dX12_isSuspect_34 : decode cX12_isSuspect 34 = .ok (.aload_n 0, 1) := by decide +kernel
theorem dX12_isSuspect_35 : decode cX12_isSuspect 35 = .ok (.getfield 53, 3) := by decide +kernel
theorem dX12_isSuspect_38 : decode cX12_isSuspect 38 = .ok (.aload_n 0, 1) := by decide +kernel
theorem dX12_isSuspect_39 : decode cX12_isSuspect 39 = .ok (.getfield 85, 3) := by decide +kernel
theorem dX12_isSuspect_42 : decode cX12_isSuspect 42 = .ok (.iconst 1, 1) := by decide +kernel
theorem dX12_isSuspect_43 : decode cX12_isSuspect 43 = .ok (.iadd, 1) := by decide +kernel
theorem dX12_isSuspect_44 : decode cX12_isSuspect 44 = .ok (.dup2, 1) := by decide +kernel
theorem dX12_isSuspect_45 : decode cX12_isSuspect 45 = .ok (.iaload, 1) := by decide +kernel
theorem dX12_isSuspect_46 : decode cX12_isSuspect 46 = .ok (.iconst 1, 1) := by decide +kernel
theorem dX12_isSuspect_47 : decode cX12_isSuspect 47 = .ok (.iadd, 1) := by decide +kernel
theorem dX12_isSuspect_48 : decode cX12_isSuspect 48 = .ok (.iastore, 1) := by decide +kernel
theorem dX12_isSuspect_49 : decode cX12_isSuspect 49 = .ok (.return_, 1) := by decide +kernel
theorem dX12_countsUp_0 : decode cX12_countsUp 0 = .ok (.aload_n 0, 1) := by decide +kernel
theorem dX12_countsUp_1 : decode cX12_countsUp 1 = .ok (.iload_n 1, 1) := by decide +kernel
theorem dX12_countsUp_2 : decode cX12_countsUp 2 = .ok (.iconst 5, 1) := by decide +kernel
theorem dX12_countsUp_3 : decode cX12_countsUp 3 = .ok (.aload_n 0, 1) := by decide +kernel
theorem dX12_countsUp_4 : decode cX12_countsUp 4 = .ok (.iload_n 1, 1) := by decide +kernel
theorem dX12_countsUp_5 : decode cX12_countsUp 5 = .ok (.iconst 5, 1) := by decide +kernel
theorem dX12_countsUp_6 : decode cX12_countsUp 6 = .ok (.invokevirtual 91, 3) := by decide +kernel
theorem dX12_countsUp_9 : decode cX12_countsUp 9 = .ok (.iconst 1, 1) := by decide +kernel
theorem dX12_countsUp_10 : decode cX12_countsUp 10 = .ok (.iadd, 1) := by decide +kernel
theorem dX12_countsUp_11 : decode cX12_countsUp 11 = .ok (.invokevirtual 104, 3) := by decide +kernel
theorem dX12_countsUp_14 : decode cX12_countsUp 14 = .ok (.aload_n 0, 1) := by decide +kernel
theorem dX12_countsUp_15 : decode cX12_countsUp 15 = .ok (.iload_n 1, 1) := by decide +kernel
theorem dX12_countsUp_16 : decode cX12_countsUp 16 = .ok (.bipush 6, 2) := by decide +kernel
theorem dX12_countsUp_18 : decode cX12_countsUp 18 = .ok (.iconst 0, 1) := by decide +kernel
theorem dX12_countsUp_19 : decode cX12_countsUp 19 = .ok (.invokevirtual 104, 3) := by decide +kernel
theorem dX12_countsUp_22 : decode cX12_countsUp 22 = .ok (.return_, 1) := by decide +kernel
theorem dX12_countsDown_0 : decode cX12_countsDown 0 = .ok (.aload_n 0, 1) := by decide +kernel
theorem dX12_countsDown_1 : decode cX12_countsDown 1 = .ok (.iload_n 1, 1) := by decide +kernel
theorem dX12_countsDown_2 : decode cX12_countsDown 2 = .ok (.iconst 5, 1) := by decide +kernel
theorem dX12_countsDown_3 : decode cX12_countsDown 3 = .ok (.aload_n 0, 1) := by decide +kernel
theorem dX12_countsDown_4 : decode cX12_countsDown 4 = .ok (.iload_n 1, 1) := by decide +kernel
theorem dX12_countsDown_5 : decode cX12_countsDown 5 = .ok (.iconst 5, 1) := by decide +kernel
theorem dX12_countsDown_6 : decode cX12_countsDown 6 = .ok (.invokevirtual 91, 3) := by decide +kernel
theorem dX12_countsDown_9 : decode cX12_countsDown 9 = .ok (.iconst 1, 1) := by decide +kernel
theorem dX12_countsDown_10 : decode cX12_countsDown 10 = .ok (.isub, 1) := by decide +kernel
theorem dX12_countsDown_11 : decode cX12_countsDown 11 = .ok (.invokevirtual 104, 3) := by decide +kernel
theorem dX12_countsDown_14 : decode cX12_countsDown 14 = .ok (.aload_n 0, 1) := by decide +kernel
theorem dX12_countsDown_15 : decode cX12_countsDown 15 = .ok (.iload_n 1, 1) := by decide +kernel
theorem dX12_countsDown_16 : decode cX12_countsDown 16 = .ok (.iconst 5, 1) := by decide +kernel
theorem dX12_countsDown_17 : decode cX12_countsDown 17 = .ok (.invokevirtual 91, 3) := by decide +kernel
theorem dX12_countsDown_20 : decode cX12_countsDown 20 = .ok (.ifCond .le 18, 3) := by decide +kernel
theorem dX12_countsDown_23 : decode cX12_countsDown 23 = .ok (.aload_n 0, 1) := by decide +kernel
theorem dX12_countsDown_24 : decode cX12_countsDown 24 = .ok (.iload_n 1, 1) := by decide +kernel
theorem dX12_countsDown_25 : decode cX12_countsDown 25 = .ok (.iconst 1, 1) := by decide +kernel
theorem dX12_countsDown_26 : decode cX12_countsDown 26 = .ok (.invokevirtual 91, 3) := by decide +kernel
theorem dX12_countsDown_29 : decode cX12_countsDown 29 = .ok (.ifCond .le 8, 3) := by decide +kernel
theorem dX12_countsDown_32 : decode cX12_countsDown 32 = .ok (.aload_n 0, 1) := by decide +kernel
theorem dX12_countsDown_33 : decode cX12_countsDown 33 = .ok (.iload_n 1, 1) := by decide +kernel
theorem dX12_countsDown_34 : decode cX12_countsDown 34 = .ok (.invokevirtual 111, 3) := by decide +kernel
theorem dX12_countsDown_37 : decode cX12_countsDown 37 = .ok (.return_, 1) := by decide +kernel
theorem dX12_countsDown_38 : decode cX12_countsDown 38 = .ok (.aload_n 0, 1) := by decide +kernel
theorem dX12_countsDown_39 : decode cX12_countsDown 39 = .ok (.iload_n 1, 1) := by decide +kernel
theorem dX12_countsDown_40 : decode cX12_countsDown 40 = .ok (.invokevirtual 108, 3) := by decide +kernel
theorem dX12_countsDown_43 : decode cX12_countsDown 43 = .ok (.istore_n 2, 1) := by decide +kernel
theorem dX12_countsDown_44 : decode cX12_countsDown 44 = .ok (.iload_n 2, 1) := by decide +kernel
theorem dX12_countsDown_45 : decode cX12_countsDown 45 = .ok (.ifCond .lt 8, 3) := by decide +kernel
theorem dX12_countsDown_48 : decode cX12_countsDown 48 = .ok (.aload_n 0, 1) := by decide +kernel
theorem dX12_countsDown_49 : decode cX12_countsDown 49 = .ok (.iload_n 2, 1) := by decide +kernel
theorem dX12_countsDown_50 : decode cX12_countsDown 50 = .ok (.invokevirtual 115, 3) := by decide +kernel
theorem dX12_countsDown_53 : decode cX12_countsDown 53 = .ok (.aload_n 0, 1) := by decide +kernel
theorem dX12_countsDown_54 : decode cX12_countsDown 54 = .ok (.iload_n 1, 1) := by decide +kernel
theorem dX12_countsDown_55 : decode cX12_countsDown 55 = .ok (.iconst 3, 1) := by decide +kernel
theorem dX12_countsDown_56 : decode cX12_countsDown 56 = .ok (.invokevirtual 91, 3) := by decide +kernel
theorem dX12_countsDown_59 : decode cX12_countsDown 59 = .ok (.ifCond .le 21, 3) := by decide +kernel
theorem dX12_countsDown_62 : decode cX12_countsDown 62 = .ok (.aload_n 0, 1) := by decide +kernel
theorem dX12_countsDown_63 : decode cX12_countsDown 63 = .ok (.iload_n 1, 1) := by decide +kernel
theorem dX12_countsDown_64 : decode cX12_countsDown 64 = .ok (.iconst 4, 1) := by decide +kernel
theorem dX12_countsDown_65 : decode cX12_countsDown 65 = .ok (.invokevirtual 91, 3) := by decide +kernel
theorem dX12_countsDown_68 : decode cX12_countsDown 68 = .ok (.ifCond .ne 12, 3) := by decide +kernel
theorem dX12_countsDown_71 : decode cX12_countsDown 71 = .ok (.aload_n 0, 1) := by decide +kernel
theorem dX12_countsDown_72 : decode cX12_countsDown 72 = .ok (.iload_n 1, 1) := by decide +kernel
theorem dX12_countsDown_73 : decode cX12_countsDown 73 = .ok (.invokevirtual 118, 3) := by decide +kernel
theorem dX12_countsDown_76 : decode cX12_countsDown 76 = .ok (.ifCond .eq 4, 3) := by decide +kernel
theorem dX12_countsDown_79 : decode cX12_countsDown 79 = .ok (.return_, 1) := by decide +kernel
theorem dX12_countsDown_80 : decode cX12_countsDown 80 = .ok (.aload_n 0, 1) := by decide +kernel
theorem dX12_countsDown_81 : decode cX12_countsDown 81 = .ok (.iload_n 1, 1) := by decide +kernel
theorem dX12_countsDown_82 : decode cX12_countsDown 82 = .ok (.invokevirtual 122, 3) := by decide +kernel
theorem dX12_countsDown_85 : decode cX12_countsDown 85 = .ok (.return_, 1) := by decide +kernel
theorem dX12_runsEnd_0 : decode cX12_runsEnd 0 = .ok (.aload_n 0, 1) := by decide +kernel
theorem dX12_runsEnd_1 : decode cX12_runsEnd 1 = .ok (.iload_n 1, 1) := by decide +kernel
theorem dX12_runsEnd_2 : decode cX12_runsEnd 2 = .ok (.iconst 4, 1) := by decide +kernel
theorem dX12_runsEnd_3 : decode cX12_runsEnd 3 = .ok (.iconst 1, 1) := by decide +kernel
theorem dX12_runsEnd_4 : decode cX12_runsEnd 4 = .ok (.invokevirtual 104, 3) := by decide +kernel
theorem dX12_runsEnd_7 : decode cX12_runsEnd 7 = .ok (.aload_n 0, 1) := by decide +kernel
theorem dX12_runsEnd_8 : decode cX12_runsEnd 8 = .ok (.iconst 3, 1) := by decide +kernel
theorem dX12_runsEnd_9 : decode cX12_runsEnd 9 = .ok (.iload_n 1, 1) := by decide +kernel
theorem dX12_runsEnd_10 : decode cX12_runsEnd 10 = .ok (.invokevirtual 125, 3) := by decide +kernel
theorem dX12_runsEnd_13 : decode cX12_runsEnd 13 = .ok (.aload_n 0, 1) := by decide +kernel
theorem dX12_runsEnd_14 : decode cX12_runsEnd 14 = .ok (.iload_n 1, 1) := by decide +kernel
theorem dX12_runsEnd_15 : decode cX12_runsEnd 15 = .ok (.iconst 3, 1) := by decide +kernel
theorem dX12_runsEnd_16 : decode cX12_runsEnd 16 = .ok (.invokevirtual 91, 3) := by decide +kernel
theorem dX12_runsEnd_19 : decode cX12_runsEnd 19 = .ok (.iconst 1, 1) := by decide +kernel
theorem dX12_runsEnd_20 : decode cX12_runsEnd 20 = .ok (.if_icmp .ne 5, 3) := by decide +kernel
theorem dX12_runsEnd_23 : decode cX12_runsEnd 23 = .ok (.iconst 0, 1) := by decide +kernel
theorem dX12_runsEnd_24 : decode cX12_runsEnd 24 = .ok (.ireturn, 1) := by decide +kernel
theorem dX12_runsEnd_25 : decode cX12_runsEnd 25 = .ok (.aload_n 0, 1) := by decide +kernel
theorem dX12_runsEnd_26 : decode cX12_runsEnd 26 = .ok (.iconst 4, 1) := by decide +kernel
theorem dX12_runsEnd_27 : decode cX12_runsEnd 27 = .ok (.iload_n 1, 1) := by decide +kernel
theorem dX12_runsEnd_28 : decode cX12_runsEnd 28 = .ok (.invokevirtual 125, 3) := by decide +kernel
theorem dX12_runsEnd_31 : decode cX12_runsEnd 31 = .ok (.aload_n 0, 1) := by decide +kernel
theorem dX12_runsEnd_32 : decode cX12_runsEnd 32 = .ok (.aload_n 0, 1) := by decide +kernel
theorem dX12_runsEnd_33 : decode cX12_runsEnd 33 = .ok (.iload_n 1, 1) := by decide +kernel
theorem dX12_runsEnd_34 : decode cX12_runsEnd 34 = .ok (.iconst 3, 1) := by decide +kernel
theorem dX12_runsEnd_35 : decode cX12_runsEnd 35 = .ok (.invokevirtual 91, 3) := by decide +kernel
theorem dX12_runsEnd_38 : decode cX12_runsEnd 38 = .ok (.iconst 2, 1) := by decide +kernel
theorem dX12_runsEnd_39 : decode cX12_runsEnd 39 = .ok (.isub, 1) := by decide +kernel
theorem dX12_runsEnd_40 : decode cX12_runsEnd 40 = .ok (.iload_n 1, 1) := by decide +kernel
theorem dX12_runsEnd_41 : decode cX12_runsEnd 41 = .ok (.invokevirtual 128, 3) := by decide +kernel
theorem dX12_runsEnd_44 : decode cX12_runsEnd 44 = .ok (.iconst 1, 1) := by decide +kernel
theorem dX12_runsEnd_45 : decode cX12_runsEnd 45 = .ok (.ireturn, 1) := by decide +kernel
theorem dX12_laysRoot_0 : decode cX12_laysRoot 0 = .ok (.aload_n 0, 1) := by decide +kernel
theorem dX12_laysRoot_1 : decode cX12_laysRoot 1 = .ok (.iload_n 1, 1) := by decide +kernel
theorem dX12_laysRoot_2 : decode cX12_laysRoot 2 = .ok (.invokevirtual 131, 3) := by decide +kernel
theorem dX12_laysRoot_5 : decode cX12_laysRoot 5 = .ok (.istore_n 3, 1) := by decide +kernel
theorem dX12_laysRoot_6 : decode cX12_laysRoot 6 = .ok (.aload_n 0, 1) := by decide +kernel
theorem dX12_laysRoot_7 : decode cX12_laysRoot 7 = .ok (.getfield 53, 3) := by decide +kernel
theorem dX12_laysRoot_10 : decode cX12_laysRoot 10 = .ok (.aload_n 0, 1) := by decide +kernel
theorem dX12_laysRoot_11 : decode cX12_laysRoot 11 = .ok (.getfield 85, 3) := by decide +kernel
theorem dX12_laysRoot_14 : decode cX12_laysRoot 14 = .ok (.bipush 33, 2) := by decide +kernel
theorem dX12_laysRoot_16 : decode cX12_laysRoot 16 = .ok (.iadd, 1) := by decide +kernel
theorem dX12_laysRoot_17 : decode cX12_laysRoot 17 = .ok (.iload_n 1, 1) := by decide +kernel
theorem dX12_laysRoot_18 : decode cX12_laysRoot 18 = .ok (.iadd, 1) := by decide +kernel
theorem dX12_laysRoot_19 : decode cX12_laysRoot 19 = .ok (.iload_n 2, 1) := by decide +kernel
theorem dX12_laysRoot_20 : decode cX12_laysRoot 20 = .ok (.iastore, 1) := by decide +kernel
theorem dX12_laysRoot_21 : decode cX12_laysRoot 21 = .ok (.iload_n 2, 1) := by decide +kernel
theorem dX12_laysRoot_22 : decode cX12_laysRoot 22 = .ok (.ifCond .lt 8, 3) := by decide +kernel
theorem dX12_laysRoot_25 : decode cX12_laysRoot 25 = .ok (.aload_n 0, 1) := by decide +kernel
theorem dX12_laysRoot_26 : decode cX12_laysRoot 26 = .ok (.iload_n 2, 1) := by decide +kernel
theorem dX12_laysRoot_27 : decode cX12_laysRoot 27 = .ok (.invokevirtual 134, 3) := by decide +kernel
theorem dX12_laysRoot_30 : decode cX12_laysRoot 30 = .ok (.iload_n 3, 1) := by decide +kernel
theorem dX12_laysRoot_31 : decode cX12_laysRoot 31 = .ok (.ifCond .lt 8, 3) := by decide +kernel
theorem dX12_laysRoot_34 : decode cX12_laysRoot 34 = .ok (.aload_n 0, 1) := by decide +kernel
theorem dX12_laysRoot_35 : decode cX12_laysRoot 35 = .ok (.iload_n 3, 1) := by decide +kernel
theorem dX12_laysRoot_36 : decode cX12_laysRoot 36 = .ok (.invokevirtual 137, 3) := by decide +kernel
theorem dX12_laysRoot_39 : decode cX12_laysRoot 39 = .ok (.return_, 1) := by decide +kernel
theorem dX12_laysField_0 : decode cX12_laysField 0 = .ok (.aload_n 0, 1) := by decide +kernel
theorem dX12_laysField_1 : decode cX12_laysField 1 = .ok (.iload_n 1, 1) := by decide +kernel
theorem dX12_laysField_2 : decode cX12_laysField 2 = .ok (.iload_n 2, 1) := by decide +kernel
theorem dX12_laysField_3 : decode cX12_laysField 3 = .ok (.invokevirtual 140, 3) := by decide +kernel
theorem dX12_laysField_6 : decode cX12_laysField 6 = .ok (.istore 4, 2) := by decide +kernel
theorem dX12_laysField_8 : decode cX12_laysField 8 = .ok (.aload_n 0, 1) := by decide +kernel
theorem dX12_laysField_9 : decode cX12_laysField 9 = .ok (.iload_n 1, 1) := by decide +kernel
theorem dX12_laysField_10 : decode cX12_laysField 10 = .ok (.bipush 7, 2) := by decide +kernel
theorem dX12_laysField_12 : decode cX12_laysField 12 = .ok (.iload_n 2, 1) := by decide +kernel
theorem dX12_laysField_13 : decode cX12_laysField 13 = .ok (.iadd, 1) := by decide +kernel
theorem dX12_laysField_14 : decode cX12_laysField 14 = .ok (.iload_n 3, 1) := by decide +kernel
theorem dX12_laysField_15 : decode cX12_laysField 15 = .ok (.invokevirtual 104, 3) := by decide +kernel
theorem dX12_laysField_18 : decode cX12_laysField 18 = .ok (.iload_n 3, 1) := by decide +kernel
theorem dX12_laysField_19 : decode cX12_laysField 19 = .ok (.ifCond .lt 8, 3) := by decide +kernel
theorem dX12_laysField_22 : decode cX12_laysField 22 = .ok (.aload_n 0, 1) := by decide +kernel
theorem dX12_laysField_23 : decode cX12_laysField 23 = .ok (.iload_n 3, 1) := by decide +kernel
theorem dX12_laysField_24 : decode cX12_laysField 24 = .ok (.invokevirtual 134, 3) := by decide +kernel
theorem dX12_laysField_27 : decode cX12_laysField 27 = .ok (.iload 4, 2) := by decide +kernel
theorem dX12_laysField_29 : decode cX12_laysField 29 = .ok (.ifCond .lt 9, 3) := by decide +kernel
theorem dX12_laysField_32 : decode cX12_laysField 32 = .ok (.aload_n 0, 1) := by decide +kernel
theorem dX12_laysField_33 : decode cX12_laysField 33 = .ok (.iload 4, 2) := by decide +kernel
theorem dX12_laysField_35 : decode cX12_laysField 35 = .ok (.invokevirtual 137, 3) := by decide +kernel
theorem dX12_laysField_38 : decode cX12_laysField 38 = .ok (.return_, 1) := by decide +kernel
theorem dX12_clearsWeak_0 : decode cX12_clearsWeak 0 = .ok (.iconst 0, 1) := by decide +kernel
theorem dX12_clearsWeak_1 : decode cX12_clearsWeak 1 = .ok (.istore_n 2, 1) := by decide +kernel
theorem dX12_clearsWeak_2 : decode cX12_clearsWeak 2 = .ok (.iload_n 2, 1) := by decide +kernel
theorem dX12_clearsWeak_3 : decode cX12_clearsWeak 3 = .ok (.iconst 4, 1) := by decide +kernel
theorem dX12_clearsWeak_4 : decode cX12_clearsWeak 4 = .ok (.if_icmp .ge 39, 3) := by decide +kernel
theorem dX12_clearsWeak_7 : decode cX12_clearsWeak 7 = .ok (.aload_n 0, 1) := by decide +kernel
theorem dX12_clearsWeak_8 : decode cX12_clearsWeak 8 = .ok (.iload_n 2, 1) := by decide +kernel
theorem dX12_clearsWeak_9 : decode cX12_clearsWeak 9 = .ok (.invokevirtual 143, 3) := by decide +kernel
theorem dX12_clearsWeak_12 : decode cX12_clearsWeak 12 = .ok (.iload_n 1, 1) := by decide +kernel
theorem dX12_clearsWeak_13 : decode cX12_clearsWeak 13 = .ok (.if_icmp .ne 24, 3) := by decide +kernel
theorem dX12_clearsWeak_16 : decode cX12_clearsWeak 16 = .ok (.aload_n 0, 1) := by decide +kernel
theorem dX12_clearsWeak_17 : decode cX12_clearsWeak 17 = .ok (.getfield 53, 3) := by decide +kernel
theorem dX12_clearsWeak_20 : decode cX12_clearsWeak 20 = .ok (.aload_n 0, 1) := by decide +kernel
theorem dX12_clearsWeak_21 : decode cX12_clearsWeak 21 = .ok (.getfield 85, 3) := by decide +kernel
theorem dX12_clearsWeak_24 : decode cX12_clearsWeak 24 = .ok (.bipush 39, 2) := by decide +kernel
theorem dX12_clearsWeak_26 : decode cX12_clearsWeak 26 = .ok (.iadd, 1) := by decide +kernel
theorem dX12_clearsWeak_27 : decode cX12_clearsWeak 27 = .ok (.iload_n 2, 1) := by decide +kernel
theorem dX12_clearsWeak_28 : decode cX12_clearsWeak 28 = .ok (.iadd, 1) := by decide +kernel
theorem dX12_clearsWeak_29 : decode cX12_clearsWeak 29 = .ok (.iconst (-1), 1) := by decide +kernel
theorem dX12_clearsWeak_30 : decode cX12_clearsWeak 30 = .ok (.iastore, 1) := by decide +kernel
theorem dX12_clearsWeak_31 : decode cX12_clearsWeak 31 = .ok (.aload_n 0, 1) := by decide +kernel
theorem dX12_clearsWeak_32 : decode cX12_clearsWeak 32 = .ok (.iconst 5, 1) := by decide +kernel
theorem dX12_clearsWeak_33 : decode cX12_clearsWeak 33 = .ok (.iload_n 1, 1) := by decide +kernel
theorem dX12_clearsWeak_34 : decode cX12_clearsWeak 34 = .ok (.invokevirtual 125, 3) := by decide +kernel
theorem dX12_clearsWeak_37 : decode cX12_clearsWeak 37 = .ok (.iinc 2 1, 3) := by decide +kernel
theorem dX12_clearsWeak_40 : decode cX12_clearsWeak 40 = .ok (.goto (-38), 3) := by decide +kernel
theorem dX12_clearsWeak_43 : decode cX12_clearsWeak 43 = .ok (.return_, 1) := by decide +kernel
theorem dX12_isFreed_0 : decode cX12_isFreed 0 = .ok (.aload_n 0, 1) := by decide +kernel
theorem dX12_isFreed_1 : decode cX12_isFreed 1 = .ok (.iconst 1, 1) := by decide +kernel
theorem dX12_isFreed_2 : decode cX12_isFreed 2 = .ok (.iload_n 1, 1) := by decide +kernel
theorem dX12_isFreed_3 : decode cX12_isFreed 3 = .ok (.invokevirtual 125, 3) := by decide +kernel
theorem dX12_isFreed_6 : decode cX12_isFreed 6 = .ok (.iconst 0, 1) := by decide +kernel
theorem dX12_isFreed_7 : decode cX12_isFreed 7 = .ok (.istore_n 2, 1) := by decide +kernel
theorem dX12_isFreed_8 : decode cX12_isFreed 8 = .ok (.iload_n 2, 1) := by decide +kernel
theorem dX12_isFreed_9 : decode cX12_isFreed 9 = .ok (.aload_n 0, 1) := by decide +kernel
theorem dX12_isFreed_10 : decode cX12_isFreed 10 = .ok (.iload_n 1, 1) := by decide +kernel
theorem dX12_isFreed_11 : decode cX12_isFreed 11 = .ok (.iconst 1, 1) := by decide +kernel
theorem dX12_isFreed_12 : decode cX12_isFreed 12 = .ok (.invokevirtual 91, 3) := by decide +kernel
theorem dX12_isFreed_15 : decode cX12_isFreed 15 = .ok (.if_icmp .ge 16, 3) := by decide +kernel
theorem dX12_isFreed_18 : decode cX12_isFreed 18 = .ok (.aload_n 0, 1) := by decide +kernel
theorem dX12_isFreed_19 : decode cX12_isFreed 19 = .ok (.iload_n 1, 1) := by decide +kernel
theorem dX12_isFreed_20 : decode cX12_isFreed 20 = .ok (.iload_n 2, 1) := by decide +kernel
theorem dX12_isFreed_21 : decode cX12_isFreed 21 = .ok (.iconst (-1), 1) := by decide +kernel
theorem dX12_isFreed_22 : decode cX12_isFreed 22 = .ok (.invokevirtual 146, 3) := by decide +kernel
theorem dX12_isFreed_25 : decode cX12_isFreed 25 = .ok (.iinc 2 1, 3) := by decide +kernel
theorem dX12_isFreed_28 : decode cX12_isFreed 28 = .ok (.goto (-20), 3) := by decide +kernel
theorem dX12_isFreed_31 : decode cX12_isFreed 31 = .ok (.aload_n 0, 1) := by decide +kernel
theorem dX12_isFreed_32 : decode cX12_isFreed 32 = .ok (.iload_n 1, 1) := by decide +kernel
theorem dX12_isFreed_33 : decode cX12_isFreed 33 = .ok (.invokevirtual 149, 3) := by decide +kernel
theorem dX12_isFreed_36 : decode cX12_isFreed 36 = .ok (.aload_n 0, 1) := by decide +kernel
theorem dX12_isFreed_37 : decode cX12_isFreed 37 = .ok (.iload_n 1, 1) := by decide +kernel
theorem dX12_isFreed_38 : decode cX12_isFreed 38 = .ok (.iconst 0, 1) := by decide +kernel
theorem dX12_isFreed_39 : decode cX12_isFreed 39 = .ok (.iconst 0, 1) := by decide +kernel
theorem dX12_isFreed_40 : decode cX12_isFreed 40 = .ok (.invokevirtual 104, 3) := by decide +kernel
theorem dX12_isFreed_43 : decode cX12_isFreed 43 = .ok (.return_, 1) := by decide +kernel
theorem dX12_becomes_0 : decode cX12_becomes 0 = .ok (.aload_n 0, 1) := by decide +kernel
theorem dX12_becomes_1 : decode cX12_becomes 1 = .ok (.getfield 56, 3) := by decide +kernel
theorem dX12_becomes_4 : decode cX12_becomes 4 = .ok (.iload_n 1, 1) := by decide +kernel
theorem dX12_becomes_5 : decode cX12_becomes 5 = .ok (.iload_n 2, 1) := by decide +kernel
theorem dX12_becomes_6 : decode cX12_becomes 6 = .ok (.iastore, 1) := by decide +kernel
theorem dX12_becomes_7 : decode cX12_becomes 7 = .ok (.aload_n 0, 1) := by decide +kernel
theorem dX12_becomes_8 : decode cX12_becomes 8 = .ok (.dup, 1) := by decide +kernel
theorem dX12_becomes_9 : decode cX12_becomes 9 = .ok (.getfield 152, 3) := by decide +kernel
theorem dX12_becomes_12 : decode cX12_becomes 12 = .ok (.iconst 1, 1) := by decide +kernel
theorem dX12_becomes_13 : decode cX12_becomes 13 = .ok (.iadd, 1) := by decide +kernel
theorem dX12_becomes_14 : decode cX12_becomes 14 = .ok (.putfield 152, 3) := by decide +kernel
theorem dX12_becomes_17 : decode cX12_becomes 17 = .ok (.return_, 1) := by decide +kernel
theorem dX12_grays_0 : decode cX12_grays 0 = .ok (.aload_n 0, 1) := by decide +kernel
theorem dX12_grays_1 : decode cX12_grays 1 = .ok (.getfield 56, 3) := by decide +kernel
theorem dX12_grays_4 : decode cX12_grays 4 = .ok (.iload_n 1, 1) := by decide +kernel
theorem dX12_grays_5 : decode cX12_grays 5 = .ok (.iaload, 1) := by decide +kernel
theorem dX12_grays_6 : decode cX12_grays 6 = .ok (.iconst 1, 1) := by decide +kernel
theorem dX12_grays_7 : decode cX12_grays 7 = .ok (.if_icmp .ne 4, 3) := by decide +kernel
theorem dX12_grays_10 : decode cX12_grays 10 = .ok (.return_, 1) := by decide +kernel
theorem dX12_grays_11 : decode cX12_grays 11 = .ok (.aload_n 0, 1) := by decide +kernel
theorem dX12_grays_12 : decode cX12_grays 12 = .ok (.iload_n 1, 1) := by decide +kernel
theorem dX12_grays_13 : decode cX12_grays 13 = .ok (.iconst 1, 1) := by decide +kernel
theorem dX12_grays_14 : decode cX12_grays 14 = .ok (.invokevirtual 155, 3) := by decide +kernel
theorem dX12_grays_17 : decode cX12_grays 17 = .ok (.iconst 0, 1) := by decide +kernel
theorem dX12_grays_18 : decode cX12_grays 18 = .ok (.istore_n 2, 1) := by decide +kernel
theorem dX12_grays_19 : decode cX12_grays 19 = .ok (.iload_n 2, 1) := by decide +kernel
theorem dX12_grays_20 : decode cX12_grays 20 = .ok (.aload_n 0, 1) := by decide +kernel
theorem dX12_grays_21 : decode cX12_grays 21 = .ok (.iload_n 1, 1) := by decide +kernel
theorem dX12_grays_22 : decode cX12_grays 22 = .ok (.iconst 1, 1) := by decide +kernel
theorem dX12_grays_23 : decode cX12_grays 23 = .ok (.invokevirtual 91, 3) := by decide +kernel
theorem dX12_grays_26 : decode cX12_grays 26 = .ok (.if_icmp .ge 39, 3) := by decide +kernel
theorem dX12_grays_29 : decode cX12_grays 29 = .ok (.aload_n 0, 1) := by decide +kernel
theorem dX12_grays_30 : decode cX12_grays 30 = .ok (.iload_n 1, 1) := by decide +kernel
theorem dX12_grays_31 : decode cX12_grays 31 = .ok (.iload_n 2, 1) := by decide +kernel
theorem dX12_grays_32 : decode cX12_grays 32 = .ok (.invokevirtual 140, 3) := by decide +kernel
theorem dX12_grays_35 : decode cX12_grays 35 = .ok (.istore_n 3, 1) := by decide +kernel
theorem dX12_grays_36 : decode cX12_grays 36 = .ok (.iload_n 3, 1) := by decide +kernel
theorem dX12_grays_37 : decode cX12_grays 37 = .ok (.ifCond .lt 22, 3) := by decide +kernel
theorem dX12_grays_40 : decode cX12_grays 40 = .ok (.aload_n 0, 1) := by decide +kernel
theorem dX12_grays_41 : decode cX12_grays 41 = .ok (.iload_n 3, 1) := by decide +kernel
theorem dX12_grays_42 : decode cX12_grays 42 = .ok (.iconst 5, 1) := by decide +kernel
theorem dX12_grays_43 : decode cX12_grays 43 = .ok (.aload_n 0, 1) := by decide +kernel
theorem dX12_grays_44 : decode cX12_grays 44 = .ok (.iload_n 3, 1) := by decide +kernel
theorem dX12_grays_45 : decode cX12_grays 45 = .ok (.iconst 5, 1) := by decide +kernel
theorem dX12_grays_46 : decode cX12_grays 46 = .ok (.invokevirtual 91, 3) := by decide +kernel
theorem dX12_grays_49 : decode cX12_grays 49 = .ok (.iconst 1, 1) := by decide +kernel
theorem dX12_grays_50 : decode cX12_grays 50 = .ok (.isub, 1) := by decide +kernel
theorem dX12_grays_51 : decode cX12_grays 51 = .ok (.invokevirtual 104, 3) := by decide +kernel
theorem dX12_grays_54 : decode cX12_grays 54 = .ok (.aload_n 0, 1) := by decide +kernel
theorem dX12_grays_55 : decode cX12_grays 55 = .ok (.iload_n 3, 1) := by decide +kernel
theorem dX12_grays_56 : decode cX12_grays 56 = .ok (.invokevirtual 158, 3) := by decide +kernel
theorem dX12_grays_59 : decode cX12_grays 59 = .ok (.iinc 2 1, 3) := by decide +kernel
theorem dX12_grays_62 : decode cX12_grays 62 = .ok (.goto (-43), 3) := by decide +kernel
theorem dX12_grays_65 : decode cX12_grays 65 = .ok (.return_, 1) := by decide +kernel
theorem dX12_givesBack_0 : decode cX12_givesBack 0 = .ok (.aload_n 0, 1) := by decide +kernel
theorem dX12_givesBack_1 : decode cX12_givesBack 1 = .ok (.iload_n 1, 1) := by decide +kernel
theorem dX12_givesBack_2 : decode cX12_givesBack 2 = .ok (.iconst 3, 1) := by decide +kernel
theorem dX12_givesBack_3 : decode cX12_givesBack 3 = .ok (.invokevirtual 155, 3) := by decide +kernel
theorem dX12_givesBack_6 : decode cX12_givesBack 6 = .ok (.iconst 0, 1) := by decide +kernel
theorem dX12_givesBack_7 : decode cX12_givesBack 7 = .ok (.istore_n 2, 1) := by decide +kernel
theorem dX12_givesBack_8 : decode cX12_givesBack 8 = .ok (.iload_n 2, 1) := by decide +kernel
theorem dX12_givesBack_9 : decode cX12_givesBack 9 = .ok (.aload_n 0, 1) := by decide +kernel
theorem dX12_givesBack_10 : decode cX12_givesBack 10 = .ok (.iload_n 1, 1) := by decide +kernel
theorem dX12_givesBack_11 : decode cX12_givesBack 11 = .ok (.iconst 1, 1) := by decide +kernel
theorem dX12_givesBack_12 : decode cX12_givesBack 12 = .ok (.invokevirtual 91, 3) := by decide +kernel
theorem dX12_givesBack_15 : decode cX12_givesBack 15 = .ok (.if_icmp .ge 49, 3) := by decide +kernel
theorem dX12_givesBack_18 : decode cX12_givesBack 18 = .ok (.aload_n 0, 1) := by decide +kernel
theorem dX12_givesBack_19 : decode cX12_givesBack 19 = .ok (.iload_n 1, 1) := by decide +kernel
theorem dX12_givesBack_20 : decode cX12_givesBack 20 = .ok (.iload_n 2, 1) := by decide +kernel
theorem dX12_givesBack_21 : decode cX12_givesBack 21 = .ok (.invokevirtual 140, 3) := by decide +kernel
theorem dX12_givesBack_24 : decode cX12_givesBack 24 = .ok (.istore_n 3, 1) := by decide +kernel
theorem dX12_givesBack_25 : decode cX12_givesBack 25 = .ok (.iload_n 3, 1) := by decide +kernel
theorem dX12_givesBack_26 : decode cX12_givesBack 26 = .ok (.ifCond .lt 32, 3) := by decide +kernel
theorem dX12_givesBack_29 : decode cX12_givesBack 29 = .ok (.aload_n 0, 1) := by decide +kernel
theorem dX12_givesBack_30 : decode cX12_givesBack 30 = .ok (.iload_n 3, 1) := by decide +kernel
theorem dX12_givesBack_31 : decode cX12_givesBack 31 = .ok (.iconst 5, 1) := by decide +kernel
theorem dX12_givesBack_32 : decode cX12_givesBack 32 = .ok (.aload_n 0, 1) := by decide +kernel
theorem dX12_givesBack_33 : decode cX12_givesBack 33 = .ok (.iload_n 3, 1) := by decide +kernel
theorem dX12_givesBack_34 : decode cX12_givesBack 34 = .ok (.iconst 5, 1) := by decide +kernel
theorem dX12_givesBack_35 : decode cX12_givesBack 35 = .ok (.invokevirtual 91, 3) := by decide +kernel
theorem dX12_givesBack_38 : decode cX12_givesBack 38 = .ok (.iconst 1, 1) := by decide +kernel
theorem dX12_givesBack_39 : decode cX12_givesBack 39 = .ok (.iadd, 1) := by decide +kernel
theorem dX12_givesBack_40 : decode cX12_givesBack 40 = .ok (.invokevirtual 104, 3) := by decide +kernel
theorem dX12_givesBack_43 : decode cX12_givesBack 43 = .ok (.aload_n 0, 1) := by decide +kernel
theorem dX12_givesBack_44 : decode cX12_givesBack 44 = .ok (.getfield 56, 3) := by decide +kernel
theorem dX12_givesBack_47 : decode cX12_givesBack 47 = .ok (.iload_n 3, 1) := by decide +kernel
theorem dX12_givesBack_48 : decode cX12_givesBack 48 = .ok (.iaload, 1) := by decide +kernel
theorem dX12_givesBack_49 : decode cX12_givesBack 49 = .ok (.iconst 3, 1) := by decide +kernel
theorem dX12_givesBack_50 : decode cX12_givesBack 50 = .ok (.if_icmp .eq 8, 3) := by decide +kernel
theorem dX12_givesBack_53 : decode cX12_givesBack 53 = .ok (.aload_n 0, 1) := by decide +kernel
theorem dX12_givesBack_54 : decode cX12_givesBack 54 = .ok (.iload_n 3, 1) := by decide +kernel
theorem dX12_givesBack_55 : decode cX12_givesBack 55 = .ok (.invokevirtual 161, 3) := by decide +kernel
theorem dX12_givesBack_58 : decode cX12_givesBack 58 = .ok (.iinc 2 1, 3) := by decide +kernel
theorem dX12_givesBack_61 : decode cX12_givesBack 61 = .ok (.goto (-53), 3) := by decide +kernel
theorem dX12_givesBack_64 : decode cX12_givesBack 64 = .ok (.return_, 1) := by decide +kernel
theorem dX12_looksThrough_0 : decode cX12_looksThrough 0 = .ok (.aload_n 0, 1) := by decide +kernel
theorem dX12_looksThrough_1 : decode cX12_looksThrough 1 = .ok (.getfield 56, 3) := by decide +kernel
theorem dX12_looksThrough_4 : decode cX12_looksThrough 4 = .ok (.iload_n 1, 1) := by decide +kernel
theorem dX12_looksThrough_5 : decode cX12_looksThrough 5 = .ok (.iaload, 1) := by decide +kernel
theorem dX12_looksThrough_6 : decode cX12_looksThrough 6 = .ok (.iconst 1, 1) := by decide +kernel
theorem dX12_looksThrough_7 : decode cX12_looksThrough 7 = .ok (.if_icmp .eq 4, 3) := by decide +kernel
theorem dX12_looksThrough_10 : decode cX12_looksThrough 10 = .ok (.return_, 1) := by decide +kernel
theorem dX12_looksThrough_11 : decode cX12_looksThrough 11 = .ok (.aload_n 0, 1) := by decide +kernel
theorem dX12_looksThrough_12 : decode cX12_looksThrough 12 = .ok (.iload_n 1, 1) := by decide +kernel
theorem dX12_looksThrough_13 : decode cX12_looksThrough 13 = .ok (.iconst 5, 1) := by decide +kernel
theorem dX12_looksThrough_14 : decode cX12_looksThrough 14 = .ok (.invokevirtual 91, 3) := by decide +kernel
theorem dX12_looksThrough_17 : decode cX12_looksThrough 17 = .ok (.ifCond .le 9, 3) := by decide +kernel
theorem dX12_looksThrough_20 : decode cX12_looksThrough 20 = .ok (.aload_n 0, 1) := by decide +kernel
theorem dX12_looksThrough_21 : decode cX12_looksThrough 21 = .ok (.iload_n 1, 1) := by decide +kernel
theorem dX12_looksThrough_22 : decode cX12_looksThrough 22 = .ok (.invokevirtual 161, 3) := by decide +kernel
theorem dX12_looksThrough_25 : decode cX12_looksThrough 25 = .ok (.return_, 1) := by decide +kernel
theorem dX12_looksThrough_26 : decode cX12_looksThrough 26 = .ok (.aload_n 0, 1) := by decide +kernel
theorem dX12_looksThrough_27 : decode cX12_looksThrough 27 = .ok (.iload_n 1, 1) := by decide +kernel
theorem dX12_looksThrough_28 : decode cX12_looksThrough 28 = .ok (.iconst 2, 1) := by decide +kernel
theorem dX12_looksThrough_29 : decode cX12_looksThrough 29 = .ok (.invokevirtual 155, 3) := by decide +kernel
theorem dX12_looksThrough_32 : decode cX12_looksThrough 32 = .ok (.iconst 0, 1) := by decide +kernel
theorem dX12_looksThrough_33 : decode cX12_looksThrough 33 = .ok (.istore_n 2, 1) := by decide +kernel
theorem dX12_looksThrough_34 : decode cX12_looksThrough 34 = .ok (.iload_n 2, 1) := by decide +kernel
theorem dX12_looksThrough_35 : decode cX12_looksThrough 35 = .ok (.aload_n 0, 1) := by decide +kernel
theorem dX12_looksThrough_36 : decode cX12_looksThrough 36 = .ok (.iload_n 1, 1) := by decide +kernel
theorem dX12_looksThrough_37 : decode cX12_looksThrough 37 = .ok (.iconst 1, 1) := by decide +kernel
theorem dX12_looksThrough_38 : decode cX12_looksThrough 38 = .ok (.invokevirtual 91, 3) := by decide +kernel
theorem dX12_looksThrough_41 : decode cX12_looksThrough 41 = .ok (.if_icmp .ge 28, 3) := by decide +kernel
theorem dX12_looksThrough_44 : decode cX12_looksThrough 44 = .ok (.aload_n 0, 1) := by decide +kernel
theorem dX12_looksThrough_45 : decode cX12_looksThrough 45 = .ok (.iload_n 1, 1) := by decide +kernel
theorem dX12_looksThrough_46 : decode cX12_looksThrough 46 = .ok (.iload_n 2, 1) := by decide +kernel
theorem dX12_looksThrough_47 : decode cX12_looksThrough 47 = .ok (.invokevirtual 140, 3) := by decide +kernel
theorem dX12_looksThrough_50 : decode cX12_looksThrough 50 = .ok (.ifCond .lt 13, 3) := by decide +kernel
theorem dX12_looksThrough_53 : decode cX12_looksThrough 53 = .ok (.aload_n 0, 1) := by decide +kernel
theorem dX12_looksThrough_54 : decode cX12_looksThrough 54 = .ok (.aload_n 0, 1) := by decide +kernel
theorem dX12_looksThrough_55 : decode cX12_looksThrough 55 = .ok (.iload_n 1, 1) := by decide +kernel
theorem dX12_looksThrough_56 : decode cX12_looksThrough 56 = .ok (.iload_n 2, 1) := by decide +kernel
theorem dX12_looksThrough_57 : decode cX12_looksThrough 57 = .ok (.invokevirtual 140, 3) := by decide +kernel
theorem dX12_looksThrough_60 : decode cX12_looksThrough 60 = .ok (.invokevirtual 164, 3) := by decide +kernel
theorem dX12_looksThrough_63 : decode cX12_looksThrough 63 = .ok (.iinc 2 1, 3) := by decide +kernel
theorem dX12_looksThrough_66 : decode cX12_looksThrough 66 = .ok (.goto (-32), 3) := by decide +kernel
theorem dX12_looksThrough_69 : decode cX12_looksThrough 69 = .ok (.return_, 1) := by decide +kernel
theorem dX12_whites_0 : decode cX12_whites 0 = .ok (.iconst 0, 1) := by decide +kernel
theorem dX12_whites_1 : decode cX12_whites 1 = .ok (.istore_n 1, 1) := by decide +kernel
theorem dX12_whites_2 : decode cX12_whites 2 = .ok (.iconst 0, 1) := by decide +kernel
theorem dX12_whites_3 : decode cX12_whites 3 = .ok (.istore_n 2, 1) := by decide +kernel
theorem dX12_whites_4 : decode cX12_whites 4 = .ok (.iload_n 2, 1) := by decide +kernel
theorem dX12_whites_5 : decode cX12_whites 5 = .ok (.bipush 24, 2) := by decide +kernel
theorem dX12_whites_7 : decode cX12_whites 7 = .ok (.if_icmp .ge 32, 3) := by decide +kernel
theorem dX12_whites_10 : decode cX12_whites 10 = .ok (.iload_n 1, 1) := by decide +kernel
theorem dX12_whites_11 : decode cX12_whites 11 = .ok (.aload_n 0, 1) := by decide +kernel
theorem dX12_whites_12 : decode cX12_whites 12 = .ok (.getfield 56, 3) := by decide +kernel
theorem dX12_whites_15 : decode cX12_whites 15 = .ok (.iload_n 2, 1) := by decide +kernel
theorem dX12_whites_16 : decode cX12_whites 16 = .ok (.iaload, 1) := by decide +kernel
theorem dX12_whites_17 : decode cX12_whites 17 = .ok (.iconst 2, 1) := by decide +kernel
theorem dX12_whites_18 : decode cX12_whites 18 = .ok (.if_icmp .ne 7, 3) := by decide +kernel
theorem dX12_whites_21 : decode cX12_whites 21 = .ok (.iconst 1, 1) := by decide +kernel
theorem dX12_whites_22 : decode cX12_whites 22 = .ok (.goto 4, 3) := by decide +kernel
theorem dX12_whites_25 : decode cX12_whites 25 = .ok (.iconst 0, 1) := by decide +kernel
theorem dX12_whites_26 : decode cX12_whites 26 = .ok (.invokestatic 167, 3) := by decide +kernel
theorem dX12_whites_29 : decode cX12_whites 29 = .ok (.iload_n 2, 1) := by decide +kernel
theorem dX12_whites_30 : decode cX12_whites 30 = .ok (.ishl, 1) := by decide +kernel
theorem dX12_whites_31 : decode cX12_whites 31 = .ok (.ior, 1) := by decide +kernel
theorem dX12_whites_32 : decode cX12_whites 32 = .ok (.istore_n 1, 1) := by decide +kernel
theorem dX12_whites_33 : decode cX12_whites 33 = .ok (.iinc 2 1, 3) := by decide +kernel
theorem dX12_whites_36 : decode cX12_whites 36 = .ok (.goto (-32), 3) := by decide +kernel
theorem dX12_whites_39 : decode cX12_whites 39 = .ok (.iload_n 1, 1) := by decide +kernel
theorem dX12_whites_40 : decode cX12_whites 40 = .ok (.ireturn, 1) := by decide +kernel
theorem dX12_hasEnd_0 : decode cX12_hasEnd 0 = .ok (.aload_n 0, 1) := by decide +kernel
theorem dX12_hasEnd_1 : decode cX12_hasEnd 1 = .ok (.iload_n 1, 1) := by decide +kernel
theorem dX12_hasEnd_2 : decode cX12_hasEnd 2 = .ok (.iconst 3, 1) := by decide +kernel
theorem dX12_hasEnd_3 : decode cX12_hasEnd 3 = .ok (.invokevirtual 91, 3) := by decide +kernel
theorem dX12_hasEnd_6 : decode cX12_hasEnd 6 = .ok (.ifCond .le 16, 3) := by decide +kernel
theorem dX12_hasEnd_9 : decode cX12_hasEnd 9 = .ok (.aload_n 0, 1) := by decide +kernel
theorem dX12_hasEnd_10 : decode cX12_hasEnd 10 = .ok (.iload_n 1, 1) := by decide +kernel
theorem dX12_hasEnd_11 : decode cX12_hasEnd 11 = .ok (.iconst 4, 1) := by decide +kernel
theorem dX12_hasEnd_12 : decode cX12_hasEnd 12 = .ok (.invokevirtual 91, 3) := by decide +kernel
theorem dX12_hasEnd_15 : decode cX12_hasEnd 15 = .ok (.ifCond .ne 7, 3) := by decide +kernel
theorem dX12_hasEnd_18 : decode cX12_hasEnd 18 = .ok (.iconst 1, 1) := by decide +kernel
theorem dX12_hasEnd_19 : decode cX12_hasEnd 19 = .ok (.goto 4, 3) := by decide +kernel
theorem dX12_hasEnd_22 : decode cX12_hasEnd 22 = .ok (.iconst 0, 1) := by decide +kernel
theorem dX12_hasEnd_23 : decode cX12_hasEnd 23 = .ok (.ireturn, 1) := by decide +kernel
theorem dX12_withEnds_0 : decode cX12_withEnds 0 = .ok (.iconst 0, 1) := by decide +kernel
theorem dX12_withEnds_1 : decode cX12_withEnds 1 = .ok (.istore_n 2, 1) := by decide +kernel
theorem dX12_withEnds_2 : decode cX12_withEnds 2 = .ok (.iconst 0, 1) := by decide +kernel
theorem dX12_withEnds_3 : decode cX12_withEnds 3 = .ok (.istore_n 3, 1) := by decide +kernel
theorem dX12_withEnds_4 : decode cX12_withEnds 4 = .ok (.iload_n 3, 1) := by decide +kernel
theorem dX12_withEnds_5 : decode cX12_withEnds 5 = .ok (.bipush 24, 2) := by decide +kernel
theorem dX12_withEnds_7 : decode cX12_withEnds 7 = .ok (.if_icmp .ge 38, 3) := by decide +kernel
theorem dX12_withEnds_10 : decode cX12_withEnds 10 = .ok (.iload_n 2, 1) := by decide +kernel
theorem dX12_withEnds_11 : decode cX12_withEnds 11 = .ok (.iload_n 1, 1) := by decide +kernel
theorem dX12_withEnds_12 : decode cX12_withEnds 12 = .ok (.iload_n 3, 1) := by decide +kernel
theorem dX12_withEnds_13 : decode cX12_withEnds 13 = .ok (.invokestatic 171, 3) := by decide +kernel
theorem dX12_withEnds_16 : decode cX12_withEnds 16 = .ok (.ifCond .eq 15, 3) := by decide +kernel
theorem dX12_withEnds_19 : decode cX12_withEnds 19 = .ok (.aload_n 0, 1) := by decide +kernel
theorem dX12_withEnds_20 : decode cX12_withEnds 20 = .ok (.iload_n 3, 1) := by decide +kernel
theorem dX12_withEnds_21 : decode cX12_withEnds 21 = .ok (.invokevirtual 175, 3) := by decide +kernel
theorem dX12_withEnds_24 : decode cX12_withEnds 24 = .ok (.ifCond .eq 7, 3) := by decide +kernel
theorem dX12_withEnds_27 : decode cX12_withEnds 27 = .ok (.iconst 1, 1) := by decide +kernel
theorem dX12_withEnds_28 : decode cX12_withEnds 28 = .ok (.goto 4, 3) := by decide +kernel
theorem dX12_withEnds_31 : decode cX12_withEnds 31 = .ok (.iconst 0, 1) := by decide +kernel
theorem dX12_withEnds_32 : decode cX12_withEnds 32 = .ok (.invokestatic 167, 3) := by decide +kernel
theorem dX12_withEnds_35 : decode cX12_withEnds 35 = .ok (.iload_n 3, 1) := by decide +kernel
theorem dX12_withEnds_36 : decode cX12_withEnds 36 = .ok (.ishl, 1) := by decide +kernel
theorem dX12_withEnds_37 : decode cX12_withEnds 37 = .ok (.ior, 1) := by decide +kernel
theorem dX12_withEnds_38 : decode cX12_withEnds 38 = .ok (.istore_n 2, 1) := by decide +kernel
theorem dX12_withEnds_39 : decode cX12_withEnds 39 = .ok (.iinc 3 1, 3) := by decide +kernel
theorem dX12_withEnds_42 : decode cX12_withEnds 42 = .ok (.goto (-38), 3) := by decide +kernel
theorem dX12_withEnds_45 : decode cX12_withEnds 45 = .ok (.iload_n 2, 1) := by decide +kernel
theorem dX12_withEnds_46 : decode cX12_withEnds 46 = .ok (.ireturn, 1) := by decide +kernel
theorem dX12_runsTrial_0 : decode cX12_runsTrial 0 = .ok (.aload_n 0, 1) := by decide +kernel
theorem dX12_runsTrial_1 : decode cX12_runsTrial 1 = .ok (.iconst 0, 1) := by decide +kernel
theorem dX12_runsTrial_2 : decode cX12_runsTrial 2 = .ok (.putfield 152, 3) := by decide +kernel
theorem dX12_runsTrial_5 : decode cX12_runsTrial 5 = .ok (.iconst 0, 1) := by decide +kernel
theorem dX12_runsTrial_6 : decode cX12_runsTrial 6 = .ok (.istore_n 1, 1) := by decide +kernel
theorem dX12_runsTrial_7 : decode cX12_runsTrial 7 = .ok (.iload_n 1, 1) := by decide +kernel
theorem dX12_runsTrial_8 : decode cX12_runsTrial 8 = .ok (.bipush 24, 2) := by decide +kernel
theorem dX12_runsTrial_10 : decode cX12_runsTrial 10 = .ok (.if_icmp .ge 28, 3) := by decide +kernel
theorem dX12_runsTrial_13 : decode cX12_runsTrial 13 = .ok (.aload_n 0, 1) := by decide +kernel
theorem dX12_runsTrial_14 : decode cX12_runsTrial 14 = .ok (.getfield 56, 3) := by decide +kernel
theorem dX12_runsTrial_17 : decode cX12_runsTrial 17 = .ok (.iload_n 1, 1) := by decide +kernel
theorem dX12_runsTrial_18 : decode cX12_runsTrial 18 = .ok (.iconst 0, 1) := by decide +kernel
theorem dX12_runsTrial_19 : decode cX12_runsTrial 19 = .ok (.iastore, 1) := by decide +kernel
theorem dX12_runsTrial_20 : decode cX12_runsTrial 20 = .ok (.aload_n 0, 1) := by decide +kernel
theorem dX12_runsTrial_21 : decode cX12_runsTrial 21 = .ok (.getfield 59, 3) := by decide +kernel
theorem dX12_runsTrial_24 : decode cX12_runsTrial 24 = .ok (.iload_n 1, 1) := by decide +kernel
theorem dX12_runsTrial_25 : decode cX12_runsTrial 25 = .ok (.aload_n 0, 1) := by decide +kernel
theorem dX12_runsTrial_26 : decode cX12_runsTrial 26 = .ok (.iload_n 1, 1) := by decide +kernel
theorem dX12_runsTrial_27 : decode cX12_runsTrial 27 = .ok (.iconst 5, 1) := by decide +kernel
theorem dX12_runsTrial_28 : decode cX12_runsTrial 28 = .ok (.invokevirtual 91, 3) := by decide +kernel
theorem dX12_runsTrial_31 : decode cX12_runsTrial 31 = .ok (.iastore, 1) := by decide +kernel
theorem dX12_runsTrial_32 : decode cX12_runsTrial 32 = .ok (.iinc 1 1, 3) := by decide +kernel
theorem dX12_runsTrial_35 : decode cX12_runsTrial 35 = .ok (.goto (-28), 3) := by decide +kernel
theorem dX12_runsTrial_38 : decode cX12_runsTrial 38 = .ok (.iconst 0, 1) := by decide +kernel
theorem dX12_runsTrial_39 : decode cX12_runsTrial 39 = .ok (.istore_n 1, 1) := by decide +kernel
theorem dX12_runsTrial_40 : decode cX12_runsTrial 40 = .ok (.iload_n 1, 1) := by decide +kernel
theorem dX12_runsTrial_41 : decode cX12_runsTrial 41 = .ok (.aload_n 0, 1) := by decide +kernel
theorem dX12_runsTrial_42 : decode cX12_runsTrial 42 = .ok (.invokevirtual 97, 3) := by decide +kernel
theorem dX12_runsTrial_45 : decode cX12_runsTrial 45 = .ok (.if_icmp .ge 38, 3) := by decide +kernel
theorem dX12_runsTrial_48 : decode cX12_runsTrial 48 = .ok (.aload_n 0, 1) := by decide +kernel
theorem dX12_runsTrial_49 : decode cX12_runsTrial 49 = .ok (.iload_n 1, 1) := by decide +kernel
theorem dX12_runsTrial_50 : decode cX12_runsTrial 50 = .ok (.invokevirtual 100, 3) := by decide +kernel
theorem dX12_runsTrial_53 : decode cX12_runsTrial 53 = .ok (.istore_n 2, 1) := by decide +kernel
theorem dX12_runsTrial_54 : decode cX12_runsTrial 54 = .ok (.aload_n 0, 1) := by decide +kernel
theorem dX12_runsTrial_55 : decode cX12_runsTrial 55 = .ok (.iload_n 2, 1) := by decide +kernel
theorem dX12_runsTrial_56 : decode cX12_runsTrial 56 = .ok (.bipush 6, 2) := by decide +kernel
theorem dX12_runsTrial_58 : decode cX12_runsTrial 58 = .ok (.invokevirtual 91, 3) := by decide +kernel
theorem dX12_runsTrial_61 : decode cX12_runsTrial 61 = .ok (.ifCond .ne 11, 3) := by decide +kernel
theorem dX12_runsTrial_64 : decode cX12_runsTrial 64 = .ok (.aload_n 0, 1) := by decide +kernel
theorem dX12_runsTrial_65 : decode cX12_runsTrial 65 = .ok (.iload_n 1, 1) := by decide +kernel
theorem dX12_runsTrial_66 : decode cX12_runsTrial 66 = .ok (.invokevirtual 115, 3) := by decide +kernel
theorem dX12_runsTrial_69 : decode cX12_runsTrial 69 = .ok (.goto 11, 3) := by decide +kernel
theorem dX12_runsTrial_72 : decode cX12_runsTrial 72 = .ok (.aload_n 0, 1) := by decide +kernel
theorem dX12_runsTrial_73 : decode cX12_runsTrial 73 = .ok (.iload_n 2, 1) := by decide +kernel
theorem dX12_runsTrial_74 : decode cX12_runsTrial 74 = .ok (.invokevirtual 158, 3) := by decide +kernel
theorem dX12_runsTrial_77 : decode cX12_runsTrial 77 = .ok (.iinc 1 1, 3) := by decide +kernel
theorem dX12_runsTrial_80 : decode cX12_runsTrial 80 = .ok (.goto (-40), 3) := by decide +kernel
theorem dX12_runsTrial_83 : decode cX12_runsTrial 83 = .ok (.iconst 0, 1) := by decide +kernel
theorem dX12_runsTrial_84 : decode cX12_runsTrial 84 = .ok (.istore_n 2, 1) := by decide +kernel
theorem dX12_runsTrial_85 : decode cX12_runsTrial 85 = .ok (.iload_n 2, 1) := by decide +kernel
theorem dX12_runsTrial_86 : decode cX12_runsTrial 86 = .ok (.aload_n 0, 1) := by decide +kernel
theorem dX12_runsTrial_87 : decode cX12_runsTrial 87 = .ok (.invokevirtual 97, 3) := by decide +kernel
theorem dX12_runsTrial_90 : decode cX12_runsTrial 90 = .ok (.if_icmp .ge 18, 3) := by decide +kernel
theorem dX12_runsTrial_93 : decode cX12_runsTrial 93 = .ok (.aload_n 0, 1) := by decide +kernel
theorem dX12_runsTrial_94 : decode cX12_runsTrial 94 = .ok (.aload_n 0, 1) := by decide +kernel
theorem dX12_runsTrial_95 : decode cX12_runsTrial 95 = .ok (.iload_n 2, 1) := by decide +kernel
theorem dX12_runsTrial_96 : decode cX12_runsTrial 96 = .ok (.invokevirtual 100, 3) := by decide +kernel
theorem dX12_runsTrial_99 : decode cX12_runsTrial 99 = .ok (.invokevirtual 164, 3) := by decide +kernel
theorem dX12_runsTrial_102 : decode cX12_runsTrial 102 = .ok (.iinc 2 1, 3) := by decide +kernel
theorem dX12_runsTrial_105 : decode cX12_runsTrial 105 = .ok (.goto (-20), 3) := by decide +kernel
theorem dX12_runsTrial_108 : decode cX12_runsTrial 108 = .ok (.aload_n 0, 1) := by decide +kernel
theorem dX12_runsTrial_109 : decode cX12_runsTrial 109 = .ok (.invokevirtual 97, 3) := by decide +kernel
theorem dX12_runsTrial_112 : decode cX12_runsTrial 112 = .ok (.ifCond .le 16, 3) := by decide +kernel
theorem dX12_runsTrial_115 : decode cX12_runsTrial 115 = .ok (.aload_n 0, 1) := by decide +kernel
theorem dX12_runsTrial_116 : decode cX12_runsTrial 116 = .ok (.aload_n 0, 1) := by decide +kernel
theorem dX12_runsTrial_117 : decode cX12_runsTrial 117 = .ok (.invokevirtual 97, 3) := by decide +kernel
theorem dX12_runsTrial_120 : decode cX12_runsTrial 120 = .ok (.iconst 1, 1) := by decide +kernel
theorem dX12_runsTrial_121 : decode cX12_runsTrial 121 = .ok (.isub, 1) := by decide +kernel
theorem dX12_runsTrial_122 : decode cX12_runsTrial 122 = .ok (.invokevirtual 115, 3) := by decide +kernel
theorem dX12_runsTrial_125 : decode cX12_runsTrial 125 = .ok (.goto (-17), 3) := by decide +kernel
theorem dX12_runsTrial_128 : decode cX12_runsTrial 128 = .ok (.aload_n 0, 1) := by decide +kernel
theorem dX12_runsTrial_129 : decode cX12_runsTrial 129 = .ok (.invokevirtual 178, 3) := by decide +kernel
theorem dX12_runsTrial_132 : decode cX12_runsTrial 132 = .ok (.istore_n 2, 1) := by decide +kernel
theorem dX12_runsTrial_133 : decode cX12_runsTrial 133 = .ok (.aload_n 0, 1) := by decide +kernel
theorem dX12_runsTrial_134 : decode cX12_runsTrial 134 = .ok (.iload_n 2, 1) := by decide +kernel
theorem dX12_runsTrial_135 : decode cX12_runsTrial 135 = .ok (.invokevirtual 181, 3) := by decide +kernel
theorem dX12_runsTrial_138 : decode cX12_runsTrial 138 = .ok (.ifCond .ne 11, 3) := by decide +kernel
theorem dX12_runsTrial_141 : decode cX12_runsTrial 141 = .ok (.aload_n 0, 1) := by decide +kernel
theorem dX12_runsTrial_142 : decode cX12_runsTrial 142 = .ok (.iload_n 2, 1) := by decide +kernel
theorem dX12_runsTrial_143 : decode cX12_runsTrial 143 = .ok (.invokevirtual 184, 3) := by decide +kernel
theorem dX12_runsTrial_146 : decode cX12_runsTrial 146 = .ok (.goto 8, 3) := by decide +kernel
theorem dX12_runsTrial_149 : decode cX12_runsTrial 149 = .ok (.aload_n 0, 1) := by decide +kernel
theorem dX12_runsTrial_150 : decode cX12_runsTrial 150 = .ok (.iload_n 2, 1) := by decide +kernel
theorem dX12_runsTrial_151 : decode cX12_runsTrial 151 = .ok (.invokevirtual 187, 3) := by decide +kernel
theorem dX12_runsTrial_154 : decode cX12_runsTrial 154 = .ok (.return_, 1) := by decide +kernel
theorem dX12_freesAll_0 : decode cX12_freesAll 0 = .ok (.iconst 0, 1) := by decide +kernel
theorem dX12_freesAll_1 : decode cX12_freesAll 1 = .ok (.istore_n 2, 1) := by decide +kernel
theorem dX12_freesAll_2 : decode cX12_freesAll 2 = .ok (.iload_n 2, 1) := by decide +kernel
theorem dX12_freesAll_3 : decode cX12_freesAll 3 = .ok (.bipush 24, 2) := by decide +kernel
theorem dX12_freesAll_5 : decode cX12_freesAll 5 = .ok (.if_icmp .ge 42, 3) := by decide +kernel
theorem dX12_freesAll_8 : decode cX12_freesAll 8 = .ok (.iload_n 1, 1) := by decide +kernel
theorem dX12_freesAll_9 : decode cX12_freesAll 9 = .ok (.iload_n 2, 1) := by decide +kernel
theorem dX12_freesAll_10 : decode cX12_freesAll 10 = .ok (.invokestatic 171, 3) := by decide +kernel
theorem dX12_freesAll_13 : decode cX12_freesAll 13 = .ok (.ifCond .eq 28, 3) := by decide +kernel
theorem dX12_freesAll_16 : decode cX12_freesAll 16 = .ok (.aload_n 0, 1) := by decide +kernel
theorem dX12_freesAll_17 : decode cX12_freesAll 17 = .ok (.iconst 2, 1) := by decide +kernel
theorem dX12_freesAll_18 : decode cX12_freesAll 18 = .ok (.iload_n 2, 1) := by decide +kernel
theorem dX12_freesAll_19 : decode cX12_freesAll 19 = .ok (.invokevirtual 125, 3) := by decide +kernel
theorem dX12_freesAll_22 : decode cX12_freesAll 22 = .ok (.aload_n 0, 1) := by decide +kernel
theorem dX12_freesAll_23 : decode cX12_freesAll 23 = .ok (.iload_n 2, 1) := by decide +kernel
theorem dX12_freesAll_24 : decode cX12_freesAll 24 = .ok (.invokevirtual 149, 3) := by decide +kernel
theorem dX12_freesAll_27 : decode cX12_freesAll 27 = .ok (.aload_n 0, 1) := by decide +kernel
theorem dX12_freesAll_28 : decode cX12_freesAll 28 = .ok (.iload_n 2, 1) := by decide +kernel
theorem dX12_freesAll_29 : decode cX12_freesAll 29 = .ok (.iconst 0, 1) := by decide +kernel
theorem dX12_freesAll_30 : decode cX12_freesAll 30 = .ok (.iconst 0, 1) := by decide +kernel
theorem dX12_freesAll_31 : decode cX12_freesAll 31 = .ok (.invokevirtual 104, 3) := by decide +kernel
theorem dX12_freesAll_34 : decode cX12_freesAll 34 = .ok (.aload_n 0, 1) := by decide +kernel
theorem dX12_freesAll_35 : decode cX12_freesAll 35 = .ok (.iload_n 2, 1) := by decide +kernel
theorem dX12_freesAll_36 : decode cX12_freesAll 36 = .ok (.iconst 5, 1) := by decide +kernel
theorem dX12_freesAll_37 : decode cX12_freesAll 37 = .ok (.iconst 0, 1) := by decide +kernel
theorem dX12_freesAll_38 : decode cX12_freesAll 38 = .ok (.invokevirtual 104, 3) := by decide +kernel
theorem dX12_freesAll_41 : decode cX12_freesAll 41 = .ok (.iinc 2 1, 3) := by decide +kernel
theorem dX12_freesAll_44 : decode cX12_freesAll 44 = .ok (.goto (-42), 3) := by decide +kernel
theorem dX12_freesAll_47 : decode cX12_freesAll 47 = .ok (.return_, 1) := by decide +kernel
theorem dX12_runsEnds_0 : decode cX12_runsEnds 0 = .ok (.iconst 0, 1) := by decide +kernel
theorem dX12_runsEnds_1 : decode cX12_runsEnds 1 = .ok (.istore_n 2, 1) := by decide +kernel
theorem dX12_runsEnds_2 : decode cX12_runsEnds 2 = .ok (.iload_n 2, 1) := by decide +kernel
theorem dX12_runsEnds_3 : decode cX12_runsEnds 3 = .ok (.bipush 24, 2) := by decide +kernel
theorem dX12_runsEnds_5 : decode cX12_runsEnds 5 = .ok (.if_icmp .ge 21, 3) := by decide +kernel
theorem dX12_runsEnds_8 : decode cX12_runsEnds 8 = .ok (.aload_n 0, 1) := by decide +kernel
theorem dX12_runsEnds_9 : decode cX12_runsEnds 9 = .ok (.iload_n 2, 1) := by decide +kernel
theorem dX12_runsEnds_10 : decode cX12_runsEnds 10 = .ok (.iconst 5, 1) := by decide +kernel
theorem dX12_runsEnds_11 : decode cX12_runsEnds 11 = .ok (.aload_n 0, 1) := by decide +kernel
theorem dX12_runsEnds_12 : decode cX12_runsEnds 12 = .ok (.getfield 59, 3) := by decide +kernel
theorem dX12_runsEnds_15 : decode cX12_runsEnds 15 = .ok (.iload_n 2, 1) := by decide +kernel
theorem dX12_runsEnds_16 : decode cX12_runsEnds 16 = .ok (.iaload, 1) := by decide +kernel
theorem dX12_runsEnds_17 : decode cX12_runsEnds 17 = .ok (.invokevirtual 104, 3) := by decide +kernel
theorem dX12_runsEnds_20 : decode cX12_runsEnds 20 = .ok (.iinc 2 1, 3) := by decide +kernel
theorem dX12_runsEnds_23 : decode cX12_runsEnds 23 = .ok (.goto (-21), 3) := by decide +kernel
theorem dX12_runsEnds_26 : decode cX12_runsEnds 26 = .ok (.iconst 0, 1) := by decide +kernel
theorem dX12_runsEnds_27 : decode cX12_runsEnds 27 = .ok (.istore_n 2, 1) := by decide +kernel
theorem dX12_runsEnds_28 : decode cX12_runsEnds 28 = .ok (.iload_n 2, 1) := by decide +kernel
theorem dX12_runsEnds_29 : decode cX12_runsEnds 29 = .ok (.bipush 24, 2) := by decide +kernel
theorem dX12_runsEnds_31 : decode cX12_runsEnds 31 = .ok (.if_icmp .ge 41, 3) := by decide +kernel
theorem dX12_runsEnds_34 : decode cX12_runsEnds 34 = .ok (.iload_n 1, 1) := by decide +kernel
theorem dX12_runsEnds_35 : decode cX12_runsEnds 35 = .ok (.iload_n 2, 1) := by decide +kernel
theorem dX12_runsEnds_36 : decode cX12_runsEnds 36 = .ok (.invokestatic 171, 3) := by decide +kernel
theorem dX12_runsEnds_39 : decode cX12_runsEnds 39 = .ok (.ifCond .eq 27, 3) := by decide +kernel
theorem dX12_runsEnds_42 : decode cX12_runsEnds 42 = .ok (.aload_n 0, 1) := by decide +kernel
theorem dX12_runsEnds_43 : decode cX12_runsEnds 43 = .ok (.iload_n 2, 1) := by decide +kernel
theorem dX12_runsEnds_44 : decode cX12_runsEnds 44 = .ok (.iconst 0, 1) := by decide +kernel
theorem dX12_runsEnds_45 : decode cX12_runsEnds 45 = .ok (.invokevirtual 91, 3) := by decide +kernel
theorem dX12_runsEnds_48 : decode cX12_runsEnds 48 = .ok (.iconst 1, 1) := by decide +kernel
theorem dX12_runsEnds_49 : decode cX12_runsEnds 49 = .ok (.if_icmp .ne 17, 3) := by decide +kernel
theorem dX12_runsEnds_52 : decode cX12_runsEnds 52 = .ok (.aload_n 0, 1) := by decide +kernel
theorem dX12_runsEnds_53 : decode cX12_runsEnds 53 = .ok (.iload_n 2, 1) := by decide +kernel
theorem dX12_runsEnds_54 : decode cX12_runsEnds 54 = .ok (.invokevirtual 175, 3) := by decide +kernel
theorem dX12_runsEnds_57 : decode cX12_runsEnds 57 = .ok (.ifCond .eq 9, 3) := by decide +kernel
theorem dX12_runsEnds_60 : decode cX12_runsEnds 60 = .ok (.aload_n 0, 1) := by decide +kernel
theorem dX12_runsEnds_61 : decode cX12_runsEnds 61 = .ok (.iload_n 2, 1) := by decide +kernel
theorem dX12_runsEnds_62 : decode cX12_runsEnds 62 = .ok (.invokevirtual 118, 3) := by decide +kernel
theorem dX12_runsEnds_65 : decode cX12_runsEnds 65 = .ok (.pop, 1) := by decide +kernel
theorem dX12_runsEnds_66 : decode cX12_runsEnds 66 = .ok (.iinc 2 1, 3) := by decide +kernel
theorem dX12_runsEnds_69 : decode cX12_runsEnds 69 = .ok (.goto (-41), 3) := by decide +kernel
theorem dX12_runsEnds_72 : decode cX12_runsEnds 72 = .ok (.iconst 0, 1) := by decide +kernel
theorem dX12_runsEnds_73 : decode cX12_runsEnds 73 = .ok (.istore_n 2, 1) := by decide +kernel
theorem dX12_runsEnds_74 : decode cX12_runsEnds 74 = .ok (.iload_n 2, 1) := by decide +kernel
theorem dX12_runsEnds_75 : decode cX12_runsEnds 75 = .ok (.bipush 24, 2) := by decide +kernel
theorem dX12_runsEnds_77 : decode cX12_runsEnds 77 = .ok (.if_icmp .ge 49, 3) := by decide +kernel
theorem dX12_runsEnds_80 : decode cX12_runsEnds 80 = .ok (.iload_n 1, 1) := by decide +kernel
theorem dX12_runsEnds_81 : decode cX12_runsEnds 81 = .ok (.iload_n 2, 1) := by decide +kernel
theorem dX12_runsEnds_82 : decode cX12_runsEnds 82 = .ok (.invokestatic 171, 3) := by decide +kernel
theorem dX12_runsEnds_85 : decode cX12_runsEnds 85 = .ok (.ifCond .eq 35, 3) := by decide +kernel
theorem dX12_runsEnds_88 : decode cX12_runsEnds 88 = .ok (.aload_n 0, 1) := by decide +kernel
theorem dX12_runsEnds_89 : decode cX12_runsEnds 89 = .ok (.iload_n 2, 1) := by decide +kernel
theorem dX12_runsEnds_90 : decode cX12_runsEnds 90 = .ok (.iconst 0, 1) := by decide +kernel
theorem dX12_runsEnds_91 : decode cX12_runsEnds 91 = .ok (.invokevirtual 91, 3) := by decide +kernel
theorem dX12_runsEnds_94 : decode cX12_runsEnds 94 = .ok (.iconst 1, 1) := by decide +kernel
theorem dX12_runsEnds_95 : decode cX12_runsEnds 95 = .ok (.if_icmp .ne 25, 3) := by decide +kernel
theorem dX12_runsEnds_98 : decode cX12_runsEnds 98 = .ok (.aload_n 0, 1) := by decide +kernel
theorem dX12_runsEnds_99 : decode cX12_runsEnds 99 = .ok (.iload_n 2, 1) := by decide +kernel
theorem dX12_runsEnds_100 : decode cX12_runsEnds 100 = .ok (.iconst 1, 1) := by decide +kernel
theorem dX12_runsEnds_101 : decode cX12_runsEnds 101 = .ok (.invokevirtual 91, 3) := by decide +kernel
theorem dX12_runsEnds_104 : decode cX12_runsEnds 104 = .ok (.ifCond .le 16, 3) := by decide +kernel
theorem dX12_runsEnds_107 : decode cX12_runsEnds 107 = .ok (.aload_n 0, 1) := by decide +kernel
theorem dX12_runsEnds_108 : decode cX12_runsEnds 108 = .ok (.iload_n 2, 1) := by decide +kernel
theorem dX12_runsEnds_109 : decode cX12_runsEnds 109 = .ok (.invokevirtual 108, 3) := by decide +kernel
theorem dX12_runsEnds_112 : decode cX12_runsEnds 112 = .ok (.ifCond .ge 8, 3) := by decide +kernel
theorem dX12_runsEnds_115 : decode cX12_runsEnds 115 = .ok (.aload_n 0, 1) := by decide +kernel
theorem dX12_runsEnds_116 : decode cX12_runsEnds 116 = .ok (.iload_n 2, 1) := by decide +kernel
theorem dX12_runsEnds_117 : decode cX12_runsEnds 117 = .ok (.invokevirtual 111, 3) := by decide +kernel
theorem dX12_runsEnds_120 : decode cX12_runsEnds 120 = .ok (.iinc 2 1, 3) := by decide +kernel
theorem dX12_runsEnds_123 : decode cX12_runsEnds 123 = .ok (.goto (-49), 3) := by decide +kernel
theorem dX12_runsEnds_126 : decode cX12_runsEnds 126 = .ok (.return_, 1) := by decide +kernel
theorem dX12_isActed_0 : decode cX12_isActed 0 = .ok (.aload_n 0, 1) := by decide +kernel
theorem dX12_isActed_1 : decode cX12_isActed 1 = .ok (.invokevirtual 97, 3) := by decide +kernel
theorem dX12_isActed_4 : decode cX12_isActed 4 = .ok (.aload_n 0, 1) := by decide +kernel
theorem dX12_isActed_5 : decode cX12_isActed 5 = .ok (.getfield 53, 3) := by decide +kernel
theorem dX12_isActed_8 : decode cX12_isActed 8 = .ok (.aload_n 0, 1) := by decide +kernel
theorem dX12_isActed_9 : decode cX12_isActed 9 = .ok (.getfield 85, 3) := by decide +kernel
theorem dX12_isActed_12 : decode cX12_isActed 12 = .ok (.iconst 0, 1) := by decide +kernel
theorem dX12_isActed_13 : decode cX12_isActed 13 = .ok (.iadd, 1) := by decide +kernel
theorem dX12_isActed_14 : decode cX12_isActed 14 = .ok (.iaload, 1) := by decide +kernel
theorem dX12_isActed_15 : decode cX12_isActed 15 = .ok (.if_icmp .lt 7, 3) := by decide +kernel
theorem dX12_isActed_18 : decode cX12_isActed 18 = .ok (.aload_n 0, 1) := by decide +kernel
theorem dX12_isActed_19 : decode cX12_isActed 19 = .ok (.invokevirtual 190, 3) := by decide +kernel
theorem dX12_isActed_22 : decode cX12_isActed 22 = .ok (.return_, 1) := by decide +kernel
theorem dX12_next_0 : decode cX12_next 0 = .ok (.iconst 0, 1) := by decide +kernel
theorem dX12_next_1 : decode cX12_next 1 = .ok (.istore_n 2, 1) := by decide +kernel
theorem dX12_next_2 : decode cX12_next 2 = .ok (.iconst 0, 1) := by decide +kernel
theorem dX12_next_3 : decode cX12_next 3 = .ok (.istore_n 3, 1) := by decide +kernel
theorem dX12_next_4 : decode cX12_next 4 = .ok (.iload_n 3, 1) := by decide +kernel
theorem dX12_next_5 : decode cX12_next 5 = .ok (.aload_n 0, 1) := by decide +kernel
theorem dX12_next_6 : decode cX12_next 6 = .ok (.iload_n 1, 1) := by decide +kernel
theorem dX12_next_7 : decode cX12_next 7 = .ok (.iconst 1, 1) := by decide +kernel
theorem dX12_next_8 : decode cX12_next 8 = .ok (.invokevirtual 91, 3) := by decide +kernel
theorem dX12_next_11 : decode cX12_next 11 = .ok (.if_icmp .ge 33, 3) := by decide +kernel
theorem dX12_next_14 : decode cX12_next 14 = .ok (.iload_n 2, 1) := by decide +kernel
theorem dX12_next_15 : decode cX12_next 15 = .ok (.aload_n 0, 1) := by decide +kernel
theorem dX12_next_16 : decode cX12_next 16 = .ok (.iload_n 1, 1) := by decide +kernel
theorem dX12_next_17 : decode cX12_next 17 = .ok (.iload_n 3, 1) := by decide +kernel
theorem dX12_next_18 : decode cX12_next 18 = .ok (.invokevirtual 140, 3) := by decide +kernel
theorem dX12_next_21 : decode cX12_next 21 = .ok (.ifCond .lt 14, 3) := by decide +kernel
theorem dX12_next_24 : decode cX12_next 24 = .ok (.iconst 1, 1) := by decide +kernel
theorem dX12_next_25 : decode cX12_next 25 = .ok (.aload_n 0, 1) := by decide +kernel
theorem dX12_next_26 : decode cX12_next 26 = .ok (.iload_n 1, 1) := by decide +kernel
theorem dX12_next_27 : decode cX12_next 27 = .ok (.iload_n 3, 1) := by decide +kernel
theorem dX12_next_28 : decode cX12_next 28 = .ok (.invokevirtual 140, 3) := by decide +kernel
theorem dX12_next_31 : decode cX12_next 31 = .ok (.ishl, 1) := by decide +kernel
theorem dX12_next_32 : decode cX12_next 32 = .ok (.goto 4, 3) := by decide +kernel
theorem dX12_next_35 : decode cX12_next 35 = .ok (.iconst 0, 1) := by decide +kernel
theorem dX12_next_36 : decode cX12_next 36 = .ok (.ior, 1) := by decide +kernel
theorem dX12_next_37 : decode cX12_next 37 = .ok (.istore_n 2, 1) := by decide +kernel
theorem dX12_next_38 : decode cX12_next 38 = .ok (.iinc 3 1, 3) := by decide +kernel
theorem dX12_next_41 : decode cX12_next 41 = .ok (.goto (-37), 3) := by decide +kernel
theorem dX12_next_44 : decode cX12_next 44 = .ok (.iload_n 2, 1) := by decide +kernel
theorem dX12_next_45 : decode cX12_next 45 = .ok (.ireturn, 1) := by decide +kernel
theorem dX12_reach_0 : decode cX12_reach 0 = .ok (.iload_n 1, 1) := by decide +kernel
theorem dX12_reach_1 : decode cX12_reach 1 = .ok (.iload_n 2, 1) := by decide +kernel
theorem dX12_reach_2 : decode cX12_reach 2 = .ok (.iconst (-1), 1) := by decide +kernel
theorem dX12_reach_3 : decode cX12_reach 3 = .ok (.ixor, 1) := by decide +kernel
theorem dX12_reach_4 : decode cX12_reach 4 = .ok (.iand, 1) := by decide +kernel
theorem dX12_reach_5 : decode cX12_reach 5 = .ok (.istore_n 3, 1) := by decide +kernel
theorem dX12_reach_6 : decode cX12_reach 6 = .ok (.iconst (-1), 1) := by decide +kernel
theorem dX12_reach_7 : decode cX12_reach 7 = .ok (.istore 4, 2) := by decide +kernel
theorem dX12_reach_9 : decode cX12_reach 9 = .ok (.iload_n 3, 1) := by decide +kernel
theorem dX12_reach_10 : decode cX12_reach 10 = .ok (.iload 4, 2) := by decide +kernel
theorem dX12_reach_12 : decode cX12_reach 12 = .ok (.if_icmp .eq 52, 3) := by decide +kernel
theorem dX12_reach_15 : decode cX12_reach 15 = .ok (.iload_n 3, 1) := by decide +kernel
theorem dX12_reach_16 : decode cX12_reach 16 = .ok (.istore 4, 2) := by decide +kernel
theorem dX12_reach_18 : decode cX12_reach 18 = .ok (.iconst 0, 1) := by decide +kernel
theorem dX12_reach_19 : decode cX12_reach 19 = .ok (.istore 5, 2) := by decide +kernel
theorem dX12_reach_21 : decode cX12_reach 21 = .ok (.iload 5, 2) := by decide +kernel
theorem dX12_reach_23 : decode cX12_reach 23 = .ok (.bipush 24, 2) := by decide +kernel
theorem dX12_reach_25 : decode cX12_reach 25 = .ok (.if_icmp .ge 36, 3) := by decide +kernel
theorem dX12_reach_28 : decode cX12_reach 28 = .ok (.iload_n 3, 1) := by decide +kernel
theorem dX12_reach_29 : decode cX12_reach 29 = .ok (.iload 4, 2) := by decide +kernel
theorem dX12_reach_31 : decode cX12_reach 31 = .ok (.iload 5, 2) := by decide +kernel
theorem dX12_reach_33 : decode cX12_reach 33 = .ok (.invokestatic 171, 3) := by decide +kernel
theorem dX12_reach_36 : decode cX12_reach 36 = .ok (.ifCond .eq 16, 3) := by decide +kernel
theorem dX12_reach_39 : decode cX12_reach 39 = .ok (.aload_n 0, 1) := by decide +kernel
theorem dX12_reach_40 : decode cX12_reach 40 = .ok (.iload 5, 2) := by decide +kernel
theorem dX12_reach_42 : decode cX12_reach 42 = .ok (.invokevirtual 193, 3) := by decide +kernel
theorem dX12_reach_45 : decode cX12_reach 45 = .ok (.iload_n 2, 1) := by decide +kernel
theorem dX12_reach_46 : decode cX12_reach 46 = .ok (.iconst (-1), 1) := by decide +kernel
theorem dX12_reach_47 : decode cX12_reach 47 = .ok (.ixor, 1) := by decide +kernel
theorem dX12_reach_48 : decode cX12_reach 48 = .ok (.iand, 1) := by decide +kernel
theorem dX12_reach_49 : decode cX12_reach 49 = .ok (.goto 4, 3) := by decide +kernel
theorem dX12_reach_52 : decode cX12_reach 52 = .ok (.iconst 0, 1) := by decide +kernel
theorem dX12_reach_53 : decode cX12_reach 53 = .ok (.ior, 1) := by decide +kernel
theorem dX12_reach_54 : decode cX12_reach 54 = .ok (.istore_n 3, 1) := by decide +kernel
theorem dX12_reach_55 : decode cX12_reach 55 = .ok (.iinc 5 1, 3) := by decide +kernel
theorem dX12_reach_58 : decode cX12_reach 58 = .ok (.goto (-37), 3) := by decide +kernel
theorem dX12_reach_61 : decode cX12_reach 61 = .ok (.goto (-52), 3) := by decide +kernel
theorem dX12_reach_64 : decode cX12_reach 64 = .ok (.iload_n 3, 1) := by decide +kernel
theorem dX12_reach_65 : decode cX12_reach 65 = .ok (.ireturn, 1) := by decide +kernel
theorem dX12_inRoots_0 : decode cX12_inRoots 0 = .ok (.iconst 0, 1) := by decide +kernel
theorem dX12_inRoots_1 : decode cX12_inRoots 1 = .ok (.istore_n 2, 1) := by decide +kernel
theorem dX12_inRoots_2 : decode cX12_inRoots 2 = .ok (.iconst 0, 1) := by decide +kernel
theorem dX12_inRoots_3 : decode cX12_inRoots 3 = .ok (.istore_n 3, 1) := by decide +kernel
theorem dX12_inRoots_4 : decode cX12_inRoots 4 = .ok (.iload_n 3, 1) := by decide +kernel
theorem dX12_inRoots_5 : decode cX12_inRoots 5 = .ok (.bipush 6, 2) := by decide +kernel
theorem dX12_inRoots_7 : decode cX12_inRoots 7 = .ok (.if_icmp .ge 39, 3) := by decide +kernel
theorem dX12_inRoots_10 : decode cX12_inRoots 10 = .ok (.iload_n 2, 1) := by decide +kernel
theorem dX12_inRoots_11 : decode cX12_inRoots 11 = .ok (.iload_n 1, 1) := by decide +kernel
theorem dX12_inRoots_12 : decode cX12_inRoots 12 = .ok (.iload_n 3, 1) := by decide +kernel
theorem dX12_inRoots_13 : decode cX12_inRoots 13 = .ok (.invokestatic 171, 3) := by decide +kernel
theorem dX12_inRoots_16 : decode cX12_inRoots 16 = .ok (.ifCond .ne 21, 3) := by decide +kernel
theorem dX12_inRoots_19 : decode cX12_inRoots 19 = .ok (.aload_n 0, 1) := by decide +kernel
theorem dX12_inRoots_20 : decode cX12_inRoots 20 = .ok (.iload_n 3, 1) := by decide +kernel
theorem dX12_inRoots_21 : decode cX12_inRoots 21 = .ok (.invokevirtual 131, 3) := by decide +kernel
theorem dX12_inRoots_24 : decode cX12_inRoots 24 = .ok (.ifCond .lt 13, 3) := by decide +kernel
theorem dX12_inRoots_27 : decode cX12_inRoots 27 = .ok (.iconst 1, 1) := by decide +kernel
theorem dX12_inRoots_28 : decode cX12_inRoots 28 = .ok (.aload_n 0, 1) := by decide +kernel
theorem dX12_inRoots_29 : decode cX12_inRoots 29 = .ok (.iload_n 3, 1) := by decide +kernel
theorem dX12_inRoots_30 : decode cX12_inRoots 30 = .ok (.invokevirtual 131, 3) := by decide +kernel
theorem dX12_inRoots_33 : decode cX12_inRoots 33 = .ok (.ishl, 1) := by decide +kernel
theorem dX12_inRoots_34 : decode cX12_inRoots 34 = .ok (.goto 4, 3) := by decide +kernel
theorem dX12_inRoots_37 : decode cX12_inRoots 37 = .ok (.iconst 0, 1) := by decide +kernel
theorem dX12_inRoots_38 : decode cX12_inRoots 38 = .ok (.ior, 1) := by decide +kernel
theorem dX12_inRoots_39 : decode cX12_inRoots 39 = .ok (.istore_n 2, 1) := by decide +kernel
theorem dX12_inRoots_40 : decode cX12_inRoots 40 = .ok (.iinc 3 1, 3) := by decide +kernel
theorem dX12_inRoots_43 : decode cX12_inRoots 43 = .ok (.goto (-39), 3) := by decide +kernel
theorem dX12_inRoots_46 : decode cX12_inRoots 46 = .ok (.iload_n 2, 1) := by decide +kernel
theorem dX12_inRoots_47 : decode cX12_inRoots 47 = .ok (.ireturn, 1) := by decide +kernel
theorem dX12_reached_0 : decode cX12_reached 0 = .ok (.aload_n 0, 1) := by decide +kernel
theorem dX12_reached_1 : decode cX12_reached 1 = .ok (.aload_n 0, 1) := by decide +kernel
theorem dX12_reached_2 : decode cX12_reached 2 = .ok (.iconst 0, 1) := by decide +kernel
theorem dX12_reached_3 : decode cX12_reached 3 = .ok (.invokevirtual 196, 3) := by decide +kernel
theorem dX12_reached_6 : decode cX12_reached 6 = .ok (.iconst 0, 1) := by decide +kernel
theorem dX12_reached_7 : decode cX12_reached 7 = .ok (.invokevirtual 199, 3) := by decide +kernel
theorem dX12_reached_10 : decode cX12_reached 10 = .ok (.ireturn, 1) := by decide +kernel
theorem dX12_isReached_0 : decode cX12_isReached 0 = .ok (.aload_n 0, 1) := by decide +kernel
theorem dX12_isReached_1 : decode cX12_isReached 1 = .ok (.invokevirtual 202, 3) := by decide +kernel
theorem dX12_isReached_4 : decode cX12_isReached 4 = .ok (.iload_n 1, 1) := by decide +kernel
theorem dX12_isReached_5 : decode cX12_isReached 5 = .ok (.invokestatic 171, 3) := by decide +kernel
theorem dX12_isReached_8 : decode cX12_isReached 8 = .ok (.ireturn, 1) := by decide +kernel
theorem dX12_thereAll_0 : decode cX12_thereAll 0 = .ok (.iconst 0, 1) := by decide +kernel
theorem dX12_thereAll_1 : decode cX12_thereAll 1 = .ok (.istore_n 1, 1) := by decide +kernel
theorem dX12_thereAll_2 : decode cX12_thereAll 2 = .ok (.iconst 0, 1) := by decide +kernel
theorem dX12_thereAll_3 : decode cX12_thereAll 3 = .ok (.istore_n 2, 1) := by decide +kernel
theorem dX12_thereAll_4 : decode cX12_thereAll 4 = .ok (.iload_n 2, 1) := by decide +kernel
theorem dX12_thereAll_5 : decode cX12_thereAll 5 = .ok (.bipush 24, 2) := by decide +kernel
theorem dX12_thereAll_7 : decode cX12_thereAll 7 = .ok (.if_icmp .ge 20, 3) := by decide +kernel
theorem dX12_thereAll_10 : decode cX12_thereAll 10 = .ok (.iload_n 1, 1) := by decide +kernel
theorem dX12_thereAll_11 : decode cX12_thereAll 11 = .ok (.aload_n 0, 1) := by decide +kernel
theorem dX12_thereAll_12 : decode cX12_thereAll 12 = .ok (.iload_n 2, 1) := by decide +kernel
theorem dX12_thereAll_13 : decode cX12_thereAll 13 = .ok (.iconst 0, 1) := by decide +kernel
theorem dX12_thereAll_14 : decode cX12_thereAll 14 = .ok (.invokevirtual 91, 3) := by decide +kernel
theorem dX12_thereAll_17 : decode cX12_thereAll 17 = .ok (.iload_n 2, 1) := by decide +kernel
theorem dX12_thereAll_18 : decode cX12_thereAll 18 = .ok (.ishl, 1) := by decide +kernel
theorem dX12_thereAll_19 : decode cX12_thereAll 19 = .ok (.ior, 1) := by decide +kernel
theorem dX12_thereAll_20 : decode cX12_thereAll 20 = .ok (.istore_n 1, 1) := by decide +kernel
theorem dX12_thereAll_21 : decode cX12_thereAll 21 = .ok (.iinc 2 1, 3) := by decide +kernel
theorem dX12_thereAll_24 : decode cX12_thereAll 24 = .ok (.goto (-20), 3) := by decide +kernel
theorem dX12_thereAll_27 : decode cX12_thereAll 27 = .ok (.iload_n 1, 1) := by decide +kernel
theorem dX12_thereAll_28 : decode cX12_thereAll 28 = .ok (.ireturn, 1) := by decide +kernel
theorem dX12_makesOne_0 : decode cX12_makesOne 0 = .ok (.iload_n 1, 1) := by decide +kernel
theorem dX12_makesOne_1 : decode cX12_makesOne 1 = .ok (.i2l, 1) := by decide +kernel
theorem dX12_makesOne_2 : decode cX12_makesOne 2 = .ok (.lconst 0, 1) := by decide +kernel
theorem dX12_makesOne_3 : decode cX12_makesOne 3 = .ok (.ldc2_w 205, 3) := by decide +kernel
theorem dX12_makesOne_6 : decode cX12_makesOne 6 = .ok (.invokestatic 21, 3) := by decide +kernel
theorem dX12_makesOne_9 : decode cX12_makesOne 9 = .ok (.ifCond .eq 40, 3) := by decide +kernel
theorem dX12_makesOne_12 : decode cX12_makesOne 12 = .ok (.iload_n 2, 1) := by decide +kernel
theorem dX12_makesOne_13 : decode cX12_makesOne 13 = .ok (.i2l, 1) := by decide +kernel
theorem dX12_makesOne_14 : decode cX12_makesOne 14 = .ok (.lconst 1, 1) := by decide +kernel
theorem dX12_makesOne_15 : decode cX12_makesOne 15 = .ok (.ldc2_w 207, 3) := by decide +kernel
theorem dX12_makesOne_18 : decode cX12_makesOne 18 = .ok (.invokestatic 21, 3) := by decide +kernel
theorem dX12_makesOne_21 : decode cX12_makesOne 21 = .ok (.ifCond .eq 28, 3) := by decide +kernel
theorem dX12_makesOne_24 : decode cX12_makesOne 24 = .ok (.iload_n 3, 1) := by decide +kernel
theorem dX12_makesOne_25 : decode cX12_makesOne 25 = .ok (.i2l, 1) := by decide +kernel
theorem dX12_makesOne_26 : decode cX12_makesOne 26 = .ok (.lconst 0, 1) := by decide +kernel
theorem dX12_makesOne_27 : decode cX12_makesOne 27 = .ok (.ldc2_w 209, 3) := by decide +kernel
theorem dX12_makesOne_30 : decode cX12_makesOne 30 = .ok (.invokestatic 21, 3) := by decide +kernel
theorem dX12_makesOne_33 : decode cX12_makesOne 33 = .ok (.ifCond .eq 16, 3) := by decide +kernel
theorem dX12_makesOne_36 : decode cX12_makesOne 36 = .ok (.iload 4, 2) := by decide +kernel
theorem dX12_makesOne_38 : decode cX12_makesOne 38 = .ok (.i2l, 1) := by decide +kernel
theorem dX12_makesOne_39 : decode cX12_makesOne 39 = .ok (.lconst 0, 1) := by decide +kernel
theorem dX12_makesOne_40 : decode cX12_makesOne 40 = .ok (.ldc2_w 211, 3) := by decide +kernel
theorem dX12_makesOne_43 : decode cX12_makesOne 43 = .ok (.invokestatic 21, 3) := by decide +kernel
theorem dX12_makesOne_46 : decode cX12_makesOne 46 = .ok (.ifCond .ne 5, 3) := by decide +kernel
theorem dX12_makesOne_49 : decode cX12_makesOne 49 = .ok (.iconst (-1), 1) := by decide +kernel
theorem dX12_makesOne_50 : decode cX12_makesOne 50 = .ok (.ireturn, 1) := by decide +kernel
theorem dX12_makesOne_51 : decode cX12_makesOne 51 = .ok (.iconst 0, 1) := by decide +kernel
theorem dX12_makesOne_52 : decode cX12_makesOne 52 = .ok (.istore 5, 2) := by decide +kernel
theorem dX12_makesOne_54 : decode cX12_makesOne 54 = .ok (.iload 5, 2) := by decide +kernel
theorem dX12_makesOne_56 : decode cX12_makesOne 56 = .ok (.bipush 24, 2) := by decide +kernel
theorem dX12_makesOne_58 : decode cX12_makesOne 58 = .ok (.if_icmp .ge 20, 3) := by decide +kernel
theorem dX12_makesOne_61 : decode cX12_makesOne 61 = .ok (.aload_n 0, 1) := by decide +kernel
theorem dX12_makesOne_62 : decode cX12_makesOne 62 = .ok (.iload 5, 2) := by decide +kernel
theorem dX12_makesOne_64 : decode cX12_makesOne 64 = .ok (.iconst 0, 1) := by decide +kernel
theorem dX12_makesOne_65 : decode cX12_makesOne 65 = .ok (.invokevirtual 91, 3) := by decide +kernel
theorem dX12_makesOne_68 : decode cX12_makesOne 68 = .ok (.iconst 1, 1) := by decide +kernel
theorem dX12_makesOne_69 : decode cX12_makesOne 69 = .ok (.if_icmp .ne 9, 3) := by decide +kernel
theorem dX12_makesOne_72 : decode cX12_makesOne 72 = .ok (.iinc 5 1, 3) := by decide +kernel
theorem dX12_makesOne_75 : decode cX12_makesOne 75 = .ok (.goto (-21), 3) := by decide +kernel
theorem dX12_makesOne_78 : decode cX12_makesOne 78 = .ok (.iload 5, 2) := by decide +kernel
theorem dX12_makesOne_80 : decode cX12_makesOne 80 = .ok (.bipush 24, 2) := by decide +kernel
theorem dX12_makesOne_82 : decode cX12_makesOne 82 = .ok (.if_icmp .ne 6, 3) := by decide +kernel
theorem dX12_makesOne_85 : decode cX12_makesOne 85 = .ok (.bipush (-2), 2) := by decide +kernel
theorem dX12_makesOne_87 : decode cX12_makesOne 87 = .ok (.ireturn, 1) := by decide +kernel
theorem dX12_makesOne_88 : decode cX12_makesOne 88 = .ok (.aload_n 0, 1) := by decide +kernel
theorem dX12_makesOne_89 : decode cX12_makesOne 89 = .ok (.iload 5, 2) := by decide +kernel
theorem dX12_makesOne_91 : decode cX12_makesOne 91 = .ok (.iconst 0, 1) := by decide +kernel
theorem dX12_makesOne_92 : decode cX12_makesOne 92 = .ok (.iconst 1, 1) := by decide +kernel
theorem dX12_makesOne_93 : decode cX12_makesOne 93 = .ok (.invokevirtual 104, 3) := by decide +kernel
theorem dX12_makesOne_96 : decode cX12_makesOne 96 = .ok (.aload_n 0, 1) := by decide +kernel
theorem dX12_makesOne_97 : decode cX12_makesOne 97 = .ok (.iload 5, 2) := by decide +kernel
theorem dX12_makesOne_99 : decode cX12_makesOne 99 = .ok (.iconst 1, 1) := by decide +kernel
theorem dX12_makesOne_100 : decode cX12_makesOne 100 = .ok (.iload_n 1, 1) := by decide +kernel
theorem dX12_makesOne_101 : decode cX12_makesOne 101 = .ok (.invokevirtual 104, 3) := by decide +kernel
theorem dX12_makesOne_104 : decode cX12_makesOne 104 = .ok (.aload_n 0, 1) := by decide +kernel
theorem dX12_makesOne_105 : decode cX12_makesOne 105 = .ok (.iload 5, 2) := by decide +kernel
theorem dX12_makesOne_107 : decode cX12_makesOne 107 = .ok (.iconst 2, 1) := by decide +kernel
theorem dX12_makesOne_108 : decode cX12_makesOne 108 = .ok (.iload_n 2, 1) := by decide +kernel
theorem dX12_makesOne_109 : decode cX12_makesOne 109 = .ok (.invokevirtual 104, 3) := by decide +kernel
theorem dX12_makesOne_112 : decode cX12_makesOne 112 = .ok (.aload_n 0, 1) := by decide +kernel
theorem dX12_makesOne_113 : decode cX12_makesOne 113 = .ok (.iload 5, 2) := by decide +kernel
theorem dX12_makesOne_115 : decode cX12_makesOne 115 = .ok (.iconst 3, 1) := by decide +kernel
theorem dX12_makesOne_116 : decode cX12_makesOne 116 = .ok (.iload_n 3, 1) := by decide +kernel
theorem dX12_makesOne_117 : decode cX12_makesOne 117 = .ok (.invokevirtual 104, 3) := by decide +kernel
theorem dX12_makesOne_120 : decode cX12_makesOne 120 = .ok (.aload_n 0, 1) := by decide +kernel
theorem dX12_makesOne_121 : decode cX12_makesOne 121 = .ok (.iload 5, 2) := by decide +kernel
theorem dX12_makesOne_123 : decode cX12_makesOne 123 = .ok (.iconst 4, 1) := by decide +kernel
theorem dX12_makesOne_124 : decode cX12_makesOne 124 = .ok (.iconst 0, 1) := by decide +kernel
theorem dX12_makesOne_125 : decode cX12_makesOne 125 = .ok (.invokevirtual 104, 3) := by decide +kernel
theorem dX12_makesOne_128 : decode cX12_makesOne 128 = .ok (.aload_n 0, 1) := by decide +kernel
theorem dX12_makesOne_129 : decode cX12_makesOne 129 = .ok (.iload 5, 2) := by decide +kernel
theorem dX12_makesOne_131 : decode cX12_makesOne 131 = .ok (.iconst 5, 1) := by decide +kernel
theorem dX12_makesOne_132 : decode cX12_makesOne 132 = .ok (.iconst 0, 1) := by decide +kernel
theorem dX12_makesOne_133 : decode cX12_makesOne 133 = .ok (.invokevirtual 104, 3) := by decide +kernel
theorem dX12_makesOne_136 : decode cX12_makesOne 136 = .ok (.aload_n 0, 1) := by decide +kernel
theorem dX12_makesOne_137 : decode cX12_makesOne 137 = .ok (.iload 5, 2) := by decide +kernel
theorem dX12_makesOne_139 : decode cX12_makesOne 139 = .ok (.bipush 6, 2) := by decide +kernel
theorem dX12_makesOne_141 : decode cX12_makesOne 141 = .ok (.iconst 0, 1) := by decide +kernel
theorem dX12_makesOne_142 : decode cX12_makesOne 142 = .ok (.invokevirtual 104, 3) := by decide +kernel
theorem dX12_makesOne_145 : decode cX12_makesOne 145 = .ok (.iconst 0, 1) := by decide +kernel
theorem dX12_makesOne_146 : decode cX12_makesOne 146 = .ok (.istore 6, 2) := by decide +kernel
theorem dX12_makesOne_148 : decode cX12_makesOne 148 = .ok (.iload 6, 2) := by decide +kernel
theorem dX12_makesOne_150 : decode cX12_makesOne 150 = .ok (.iconst 4, 1) := by decide +kernel
theorem dX12_makesOne_151 : decode cX12_makesOne 151 = .ok (.if_icmp .ge 21, 3) := by decide +kernel
theorem dX12_makesOne_154 : decode cX12_makesOne 154 = .ok (.aload_n 0, 1) := by decide +kernel
theorem dX12_makesOne_155 : decode cX12_makesOne 155 = .ok (.iload 5, 2) := by decide +kernel
theorem dX12_makesOne_157 : decode cX12_makesOne 157 = .ok (.bipush 7, 2) := by decide +kernel
theorem dX12_makesOne_159 : decode cX12_makesOne 159 = .ok (.iload 6, 2) := by decide +kernel
theorem dX12_makesOne_161 : decode cX12_makesOne 161 = .ok (.iadd, 1) := by decide +kernel
theorem dX12_makesOne_162 : decode cX12_makesOne 162 = .ok (.iconst (-1), 1) := by decide +kernel
theorem dX12_makesOne_163 : decode cX12_makesOne 163 = .ok (.invokevirtual 104, 3) := by decide +kernel
theorem dX12_makesOne_166 : decode cX12_makesOne 166 = .ok (.iinc 6 1, 3) := by decide +kernel
theorem dX12_makesOne_169 : decode cX12_makesOne 169 = .ok (.goto (-21), 3) := by decide +kernel
theorem dX12_makesOne_172 : decode cX12_makesOne 172 = .ok (.aload_n 0, 1) := by decide +kernel
theorem dX12_makesOne_173 : decode cX12_makesOne 173 = .ok (.iconst 0, 1) := by decide +kernel
theorem dX12_makesOne_174 : decode cX12_makesOne 174 = .ok (.iload 5, 2) := by decide +kernel
theorem dX12_makesOne_176 : decode cX12_makesOne 176 = .ok (.invokevirtual 125, 3) := by decide +kernel
theorem dX12_makesOne_179 : decode cX12_makesOne 179 = .ok (.aload_n 0, 1) := by decide +kernel
theorem dX12_makesOne_180 : decode cX12_makesOne 180 = .ok (.iload 4, 2) := by decide +kernel
theorem dX12_makesOne_182 : decode cX12_makesOne 182 = .ok (.iload 5, 2) := by decide +kernel
theorem dX12_makesOne_184 : decode cX12_makesOne 184 = .ok (.invokevirtual 128, 3) := by decide +kernel
theorem dX12_makesOne_187 : decode cX12_makesOne 187 = .ok (.aload_n 0, 1) := by decide +kernel
theorem dX12_makesOne_188 : decode cX12_makesOne 188 = .ok (.invokevirtual 213, 3) := by decide +kernel
theorem dX12_makesOne_191 : decode cX12_makesOne 191 = .ok (.iload 5, 2) := by decide +kernel
theorem dX12_makesOne_193 : decode cX12_makesOne 193 = .ok (.ireturn, 1) := by decide +kernel
theorem dX12_isOther_0 : decode cX12_isOther 0 = .ok (.iload_n 1, 1) := by decide +kernel
theorem dX12_isOther_1 : decode cX12_isOther 1 = .ok (.iconst (-1), 1) := by decide +kernel
theorem dX12_isOther_2 : decode cX12_isOther 2 = .ok (.if_icmp .eq 11, 3) := by decide +kernel
theorem dX12_isOther_5 : decode cX12_isOther 5 = .ok (.aload_n 0, 1) := by decide +kernel
theorem dX12_isOther_6 : decode cX12_isOther 6 = .ok (.iload_n 1, 1) := by decide +kernel
theorem dX12_isOther_7 : decode cX12_isOther 7 = .ok (.invokevirtual 216, 3) := by decide +kernel
theorem dX12_isOther_10 : decode cX12_isOther 10 = .ok (.ifCond .eq 7, 3) := by decide +kernel
theorem dX12_isOther_13 : decode cX12_isOther 13 = .ok (.iconst 1, 1) := by decide +kernel
theorem dX12_isOther_14 : decode cX12_isOther 14 = .ok (.goto 4, 3) := by decide +kernel
theorem dX12_isOther_17 : decode cX12_isOther 17 = .ok (.iconst 0, 1) := by decide +kernel
theorem dX12_isOther_18 : decode cX12_isOther 18 = .ok (.ireturn, 1) := by decide +kernel
theorem dX12_setsOne_0 : decode cX12_setsOne 0 = .ok (.aload_n 0, 1) := by decide +kernel
theorem dX12_setsOne_1 : decode cX12_setsOne 1 = .ok (.iload_n 1, 1) := by decide +kernel
theorem dX12_setsOne_2 : decode cX12_setsOne 2 = .ok (.invokevirtual 216, 3) := by decide +kernel
theorem dX12_setsOne_5 : decode cX12_setsOne 5 = .ok (.ifCond .eq 29, 3) := by decide +kernel
theorem dX12_setsOne_8 : decode cX12_setsOne 8 = .ok (.iload_n 2, 1) := by decide +kernel
theorem dX12_setsOne_9 : decode cX12_setsOne 9 = .ok (.i2l, 1) := by decide +kernel
theorem dX12_setsOne_10 : decode cX12_setsOne 10 = .ok (.lconst 0, 1) := by decide +kernel
theorem dX12_setsOne_11 : decode cX12_setsOne 11 = .ok (.aload_n 0, 1) := by decide +kernel
theorem dX12_setsOne_12 : decode cX12_setsOne 12 = .ok (.iload_n 1, 1) := by decide +kernel
theorem dX12_setsOne_13 : decode cX12_setsOne 13 = .ok (.iconst 1, 1) := by decide +kernel
theorem dX12_setsOne_14 : decode cX12_setsOne 14 = .ok (.invokevirtual 91, 3) := by decide +kernel
theorem dX12_setsOne_17 : decode cX12_setsOne 17 = .ok (.iconst 1, 1) := by decide +kernel
theorem dX12_setsOne_18 : decode cX12_setsOne 18 = .ok (.isub, 1) := by decide +kernel
theorem dX12_setsOne_19 : decode cX12_setsOne 19 = .ok (.i2l, 1) := by decide +kernel
theorem dX12_setsOne_20 : decode cX12_setsOne 20 = .ok (.invokestatic 21, 3) := by decide +kernel
theorem dX12_setsOne_23 : decode cX12_setsOne 23 = .ok (.ifCond .eq 11, 3) := by decide +kernel
theorem dX12_setsOne_26 : decode cX12_setsOne 26 = .ok (.aload_n 0, 1) := by decide +kernel
theorem dX12_setsOne_27 : decode cX12_setsOne 27 = .ok (.iload_n 3, 1) := by decide +kernel
theorem dX12_setsOne_28 : decode cX12_setsOne 28 = .ok (.invokevirtual 219, 3) := by decide +kernel
theorem dX12_setsOne_31 : decode cX12_setsOne 31 = .ok (.ifCond .ne 5, 3) := by decide +kernel
theorem dX12_setsOne_34 : decode cX12_setsOne 34 = .ok (.iconst (-1), 1) := by decide +kernel
theorem dX12_setsOne_35 : decode cX12_setsOne 35 = .ok (.ireturn, 1) := by decide +kernel
theorem dX12_setsOne_36 : decode cX12_setsOne 36 = .ok (.aload_n 0, 1) := by decide +kernel
theorem dX12_setsOne_37 : decode cX12_setsOne 37 = .ok (.iload_n 1, 1) := by decide +kernel
theorem dX12_setsOne_38 : decode cX12_setsOne 38 = .ok (.iload_n 2, 1) := by decide +kernel
theorem dX12_setsOne_39 : decode cX12_setsOne 39 = .ok (.invokevirtual 140, 3) := by decide +kernel
theorem dX12_setsOne_42 : decode cX12_setsOne 42 = .ok (.iload_n 3, 1) := by decide +kernel
theorem dX12_setsOne_43 : decode cX12_setsOne 43 = .ok (.if_icmp .ne 6, 3) := by decide +kernel
theorem dX12_setsOne_46 : decode cX12_setsOne 46 = .ok (.bipush (-2), 2) := by decide +kernel
theorem dX12_setsOne_48 : decode cX12_setsOne 48 = .ok (.ireturn, 1) := by decide +kernel
theorem dX12_setsOne_49 : decode cX12_setsOne 49 = .ok (.aload_n 0, 1) := by decide +kernel
theorem dX12_setsOne_50 : decode cX12_setsOne 50 = .ok (.iload_n 1, 1) := by decide +kernel
theorem dX12_setsOne_51 : decode cX12_setsOne 51 = .ok (.invokevirtual 222, 3) := by decide +kernel
theorem dX12_setsOne_54 : decode cX12_setsOne 54 = .ok (.ifCond .eq 15, 3) := by decide +kernel
theorem dX12_setsOne_57 : decode cX12_setsOne 57 = .ok (.iload_n 3, 1) := by decide +kernel
theorem dX12_setsOne_58 : decode cX12_setsOne 58 = .ok (.ifCond .lt 14, 3) := by decide +kernel
theorem dX12_setsOne_61 : decode cX12_setsOne 61 = .ok (.aload_n 0, 1) := by decide +kernel
theorem dX12_setsOne_62 : decode cX12_setsOne 62 = .ok (.iload_n 3, 1) := by decide +kernel
theorem dX12_setsOne_63 : decode cX12_setsOne 63 = .ok (.invokevirtual 222, 3) := by decide +kernel
theorem dX12_setsOne_66 : decode cX12_setsOne 66 = .ok (.ifCond .ne 6, 3) := by decide +kernel
theorem dX12_setsOne_69 : decode cX12_setsOne 69 = .ok (.bipush (-3), 2) := by decide +kernel
theorem dX12_setsOne_71 : decode cX12_setsOne 71 = .ok (.ireturn, 1) := by decide +kernel
theorem dX12_setsOne_72 : decode cX12_setsOne 72 = .ok (.aload_n 0, 1) := by decide +kernel
theorem dX12_setsOne_73 : decode cX12_setsOne 73 = .ok (.getfield 53, 3) := by decide +kernel
theorem dX12_setsOne_76 : decode cX12_setsOne 76 = .ok (.aload_n 0, 1) := by decide +kernel
theorem dX12_setsOne_77 : decode cX12_setsOne 77 = .ok (.getfield 85, 3) := by decide +kernel
theorem dX12_setsOne_80 : decode cX12_setsOne 80 = .ok (.iconst 2, 1) := by decide +kernel
theorem dX12_setsOne_81 : decode cX12_setsOne 81 = .ok (.iadd, 1) := by decide +kernel
theorem dX12_setsOne_82 : decode cX12_setsOne 82 = .ok (.iaload, 1) := by decide +kernel
theorem dX12_setsOne_83 : decode cX12_setsOne 83 = .ok (.istore 4, 2) := by decide +kernel
theorem dX12_setsOne_85 : decode cX12_setsOne 85 = .ok (.aload_n 0, 1) := by decide +kernel
theorem dX12_setsOne_86 : decode cX12_setsOne 86 = .ok (.iload_n 1, 1) := by decide +kernel
theorem dX12_setsOne_87 : decode cX12_setsOne 87 = .ok (.iload_n 2, 1) := by decide +kernel
theorem dX12_setsOne_88 : decode cX12_setsOne 88 = .ok (.iload_n 3, 1) := by decide +kernel
theorem dX12_setsOne_89 : decode cX12_setsOne 89 = .ok (.invokevirtual 146, 3) := by decide +kernel
theorem dX12_setsOne_92 : decode cX12_setsOne 92 = .ok (.aload_n 0, 1) := by decide +kernel
theorem dX12_setsOne_93 : decode cX12_setsOne 93 = .ok (.invokevirtual 213, 3) := by decide +kernel
theorem dX12_setsOne_96 : decode cX12_setsOne 96 = .ok (.aload_n 0, 1) := by decide +kernel
theorem dX12_setsOne_97 : decode cX12_setsOne 97 = .ok (.getfield 53, 3) := by decide +kernel
theorem dX12_setsOne_100 : decode cX12_setsOne 100 = .ok (.aload_n 0, 1) := by decide +kernel
theorem dX12_setsOne_101 : decode cX12_setsOne 101 = .ok (.getfield 85, 3) := by decide +kernel
theorem dX12_setsOne_104 : decode cX12_setsOne 104 = .ok (.iconst 2, 1) := by decide +kernel
theorem dX12_setsOne_105 : decode cX12_setsOne 105 = .ok (.iadd, 1) := by decide +kernel
theorem dX12_setsOne_106 : decode cX12_setsOne 106 = .ok (.iaload, 1) := by decide +kernel
theorem dX12_setsOne_107 : decode cX12_setsOne 107 = .ok (.iload 4, 2) := by decide +kernel
theorem dX12_setsOne_109 : decode cX12_setsOne 109 = .ok (.isub, 1) := by decide +kernel
theorem dX12_setsOne_110 : decode cX12_setsOne 110 = .ok (.ireturn, 1) := by decide +kernel
theorem dX12_rootsOne_0 : decode cX12_rootsOne 0 = .ok (.iload_n 1, 1) := by decide +kernel
theorem dX12_rootsOne_1 : decode cX12_rootsOne 1 = .ok (.i2l, 1) := by decide +kernel
theorem dX12_rootsOne_2 : decode cX12_rootsOne 2 = .ok (.lconst 0, 1) := by decide +kernel
theorem dX12_rootsOne_3 : decode cX12_rootsOne 3 = .ok (.ldc2_w 211, 3) := by decide +kernel
theorem dX12_rootsOne_6 : decode cX12_rootsOne 6 = .ok (.invokestatic 21, 3) := by decide +kernel
theorem dX12_rootsOne_9 : decode cX12_rootsOne 9 = .ok (.ifCond .eq 11, 3) := by decide +kernel
theorem dX12_rootsOne_12 : decode cX12_rootsOne 12 = .ok (.aload_n 0, 1) := by decide +kernel
theorem dX12_rootsOne_13 : decode cX12_rootsOne 13 = .ok (.iload_n 2, 1) := by decide +kernel
theorem dX12_rootsOne_14 : decode cX12_rootsOne 14 = .ok (.invokevirtual 219, 3) := by decide +kernel
theorem dX12_rootsOne_17 : decode cX12_rootsOne 17 = .ok (.ifCond .ne 5, 3) := by decide +kernel
theorem dX12_rootsOne_20 : decode cX12_rootsOne 20 = .ok (.iconst (-1), 1) := by decide +kernel
theorem dX12_rootsOne_21 : decode cX12_rootsOne 21 = .ok (.ireturn, 1) := by decide +kernel
theorem dX12_rootsOne_22 : decode cX12_rootsOne 22 = .ok (.aload_n 0, 1) := by decide +kernel
theorem dX12_rootsOne_23 : decode cX12_rootsOne 23 = .ok (.iload_n 1, 1) := by decide +kernel
theorem dX12_rootsOne_24 : decode cX12_rootsOne 24 = .ok (.invokevirtual 131, 3) := by decide +kernel
theorem dX12_rootsOne_27 : decode cX12_rootsOne 27 = .ok (.iload_n 2, 1) := by decide +kernel
theorem dX12_rootsOne_28 : decode cX12_rootsOne 28 = .ok (.if_icmp .ne 6, 3) := by decide +kernel
theorem dX12_rootsOne_31 : decode cX12_rootsOne 31 = .ok (.bipush (-2), 2) := by decide +kernel
theorem dX12_rootsOne_33 : decode cX12_rootsOne 33 = .ok (.ireturn, 1) := by decide +kernel
theorem dX12_rootsOne_34 : decode cX12_rootsOne 34 = .ok (.iload_n 2, 1) := by decide +kernel
theorem dX12_rootsOne_35 : decode cX12_rootsOne 35 = .ok (.ifCond .lt 14, 3) := by decide +kernel
theorem dX12_rootsOne_38 : decode cX12_rootsOne 38 = .ok (.aload_n 0, 1) := by decide +kernel
theorem dX12_rootsOne_39 : decode cX12_rootsOne 39 = .ok (.iload_n 2, 1) := by decide +kernel
theorem dX12_rootsOne_40 : decode cX12_rootsOne 40 = .ok (.invokevirtual 222, 3) := by decide +kernel
theorem dX12_rootsOne_43 : decode cX12_rootsOne 43 = .ok (.ifCond .ne 6, 3) := by decide +kernel
theorem dX12_rootsOne_46 : decode cX12_rootsOne 46 = .ok (.bipush (-3), 2) := by decide +kernel
theorem dX12_rootsOne_48 : decode cX12_rootsOne 48 = .ok (.ireturn, 1) := by decide +kernel
theorem dX12_rootsOne_49 : decode cX12_rootsOne 49 = .ok (.aload_n 0, 1) := by decide +kernel
theorem dX12_rootsOne_50 : decode cX12_rootsOne 50 = .ok (.getfield 53, 3) := by decide +kernel
theorem dX12_rootsOne_53 : decode cX12_rootsOne 53 = .ok (.aload_n 0, 1) := by decide +kernel
theorem dX12_rootsOne_54 : decode cX12_rootsOne 54 = .ok (.getfield 85, 3) := by decide +kernel
theorem dX12_rootsOne_57 : decode cX12_rootsOne 57 = .ok (.iconst 2, 1) := by decide +kernel
theorem dX12_rootsOne_58 : decode cX12_rootsOne 58 = .ok (.iadd, 1) := by decide +kernel
theorem dX12_rootsOne_59 : decode cX12_rootsOne 59 = .ok (.iaload, 1) := by decide +kernel
theorem dX12_rootsOne_60 : decode cX12_rootsOne 60 = .ok (.istore_n 3, 1) := by decide +kernel
theorem dX12_rootsOne_61 : decode cX12_rootsOne 61 = .ok (.aload_n 0, 1) := by decide +kernel
theorem dX12_rootsOne_62 : decode cX12_rootsOne 62 = .ok (.iload_n 1, 1) := by decide +kernel
theorem dX12_rootsOne_63 : decode cX12_rootsOne 63 = .ok (.iload_n 2, 1) := by decide +kernel
theorem dX12_rootsOne_64 : decode cX12_rootsOne 64 = .ok (.invokevirtual 128, 3) := by decide +kernel
theorem dX12_rootsOne_67 : decode cX12_rootsOne 67 = .ok (.aload_n 0, 1) := by decide +kernel
theorem dX12_rootsOne_68 : decode cX12_rootsOne 68 = .ok (.invokevirtual 213, 3) := by decide +kernel
theorem dX12_rootsOne_71 : decode cX12_rootsOne 71 = .ok (.aload_n 0, 1) := by decide +kernel
theorem dX12_rootsOne_72 : decode cX12_rootsOne 72 = .ok (.getfield 53, 3) := by decide +kernel
theorem dX12_rootsOne_75 : decode cX12_rootsOne 75 = .ok (.aload_n 0, 1) := by decide +kernel
theorem dX12_rootsOne_76 : decode cX12_rootsOne 76 = .ok (.getfield 85, 3) := by decide +kernel
theorem dX12_rootsOne_79 : decode cX12_rootsOne 79 = .ok (.iconst 2, 1) := by decide +kernel
theorem dX12_rootsOne_80 : decode cX12_rootsOne 80 = .ok (.iadd, 1) := by decide +kernel
theorem dX12_rootsOne_81 : decode cX12_rootsOne 81 = .ok (.iaload, 1) := by decide +kernel
theorem dX12_rootsOne_82 : decode cX12_rootsOne 82 = .ok (.iload_n 3, 1) := by decide +kernel
theorem dX12_rootsOne_83 : decode cX12_rootsOne 83 = .ok (.isub, 1) := by decide +kernel
theorem dX12_rootsOne_84 : decode cX12_rootsOne 84 = .ok (.ireturn, 1) := by decide +kernel
theorem dX12_weaksOne_0 : decode cX12_weaksOne 0 = .ok (.iload_n 1, 1) := by decide +kernel
theorem dX12_weaksOne_1 : decode cX12_weaksOne 1 = .ok (.i2l, 1) := by decide +kernel
theorem dX12_weaksOne_2 : decode cX12_weaksOne 2 = .ok (.lconst 0, 1) := by decide +kernel
theorem dX12_weaksOne_3 : decode cX12_weaksOne 3 = .ok (.ldc2_w 225, 3) := by decide +kernel
theorem dX12_weaksOne_6 : decode cX12_weaksOne 6 = .ok (.invokestatic 21, 3) := by decide +kernel
theorem dX12_weaksOne_9 : decode cX12_weaksOne 9 = .ok (.ifCond .eq 11, 3) := by decide +kernel
theorem dX12_weaksOne_12 : decode cX12_weaksOne 12 = .ok (.aload_n 0, 1) := by decide +kernel
theorem dX12_weaksOne_13 : decode cX12_weaksOne 13 = .ok (.iload_n 2, 1) := by decide +kernel
theorem dX12_weaksOne_14 : decode cX12_weaksOne 14 = .ok (.invokevirtual 219, 3) := by decide +kernel
theorem dX12_weaksOne_17 : decode cX12_weaksOne 17 = .ok (.ifCond .ne 6, 3) := by decide +kernel
theorem dX12_weaksOne_20 : decode cX12_weaksOne 20 = .ok (.bipush (-4), 2) := by decide +kernel
theorem dX12_weaksOne_22 : decode cX12_weaksOne 22 = .ok (.ireturn, 1) := by decide +kernel
theorem dX12_weaksOne_23 : decode cX12_weaksOne 23 = .ok (.aload_n 0, 1) := by decide +kernel
theorem dX12_weaksOne_24 : decode cX12_weaksOne 24 = .ok (.iload_n 1, 1) := by decide +kernel
theorem dX12_weaksOne_25 : decode cX12_weaksOne 25 = .ok (.invokevirtual 143, 3) := by decide +kernel
theorem dX12_weaksOne_28 : decode cX12_weaksOne 28 = .ok (.istore_n 3, 1) := by decide +kernel
theorem dX12_weaksOne_29 : decode cX12_weaksOne 29 = .ok (.iload_n 3, 1) := by decide +kernel
theorem dX12_weaksOne_30 : decode cX12_weaksOne 30 = .ok (.iload_n 2, 1) := by decide +kernel
theorem dX12_weaksOne_31 : decode cX12_weaksOne 31 = .ok (.if_icmp .ne 6, 3) := by decide +kernel
theorem dX12_weaksOne_34 : decode cX12_weaksOne 34 = .ok (.bipush (-2), 2) := by decide +kernel
theorem dX12_weaksOne_36 : decode cX12_weaksOne 36 = .ok (.ireturn, 1) := by decide +kernel
theorem dX12_weaksOne_37 : decode cX12_weaksOne 37 = .ok (.iload_n 2, 1) := by decide +kernel
theorem dX12_weaksOne_38 : decode cX12_weaksOne 38 = .ok (.ifCond .lt 14, 3) := by decide +kernel
theorem dX12_weaksOne_41 : decode cX12_weaksOne 41 = .ok (.aload_n 0, 1) := by decide +kernel
theorem dX12_weaksOne_42 : decode cX12_weaksOne 42 = .ok (.iload_n 2, 1) := by decide +kernel
theorem dX12_weaksOne_43 : decode cX12_weaksOne 43 = .ok (.invokevirtual 222, 3) := by decide +kernel
theorem dX12_weaksOne_46 : decode cX12_weaksOne 46 = .ok (.ifCond .ne 6, 3) := by decide +kernel
theorem dX12_weaksOne_49 : decode cX12_weaksOne 49 = .ok (.bipush (-3), 2) := by decide +kernel
theorem dX12_weaksOne_51 : decode cX12_weaksOne 51 = .ok (.ireturn, 1) := by decide +kernel
theorem dX12_weaksOne_52 : decode cX12_weaksOne 52 = .ok (.aload_n 0, 1) := by decide +kernel
theorem dX12_weaksOne_53 : decode cX12_weaksOne 53 = .ok (.getfield 53, 3) := by decide +kernel
theorem dX12_weaksOne_56 : decode cX12_weaksOne 56 = .ok (.aload_n 0, 1) := by decide +kernel
theorem dX12_weaksOne_57 : decode cX12_weaksOne 57 = .ok (.getfield 85, 3) := by decide +kernel
theorem dX12_weaksOne_60 : decode cX12_weaksOne 60 = .ok (.bipush 39, 2) := by decide +kernel
theorem dX12_weaksOne_62 : decode cX12_weaksOne 62 = .ok (.iadd, 1) := by decide +kernel
theorem dX12_weaksOne_63 : decode cX12_weaksOne 63 = .ok (.iload_n 1, 1) := by decide +kernel
theorem dX12_weaksOne_64 : decode cX12_weaksOne 64 = .ok (.iadd, 1) := by decide +kernel
theorem dX12_weaksOne_65 : decode cX12_weaksOne 65 = .ok (.iload_n 2, 1) := by decide +kernel
theorem dX12_weaksOne_66 : decode cX12_weaksOne 66 = .ok (.iastore, 1) := by decide +kernel
theorem dX12_weaksOne_67 : decode cX12_weaksOne 67 = .ok (.iload_n 3, 1) := by decide +kernel
theorem dX12_weaksOne_68 : decode cX12_weaksOne 68 = .ok (.ireturn, 1) := by decide +kernel
theorem dX12_wakesOne_0 : decode cX12_wakesOne 0 = .ok (.iload_n 1, 1) := by decide +kernel
theorem dX12_wakesOne_1 : decode cX12_wakesOne 1 = .ok (.i2l, 1) := by decide +kernel
theorem dX12_wakesOne_2 : decode cX12_wakesOne 2 = .ok (.lconst 0, 1) := by decide +kernel
theorem dX12_wakesOne_3 : decode cX12_wakesOne 3 = .ok (.ldc2_w 225, 3) := by decide +kernel
theorem dX12_wakesOne_6 : decode cX12_wakesOne 6 = .ok (.invokestatic 21, 3) := by decide +kernel
theorem dX12_wakesOne_9 : decode cX12_wakesOne 9 = .ok (.ifCond .eq 15, 3) := by decide +kernel
theorem dX12_wakesOne_12 : decode cX12_wakesOne 12 = .ok (.iload_n 2, 1) := by decide +kernel
theorem dX12_wakesOne_13 : decode cX12_wakesOne 13 = .ok (.i2l, 1) := by decide +kernel
theorem dX12_wakesOne_14 : decode cX12_wakesOne 14 = .ok (.lconst 0, 1) := by decide +kernel
theorem dX12_wakesOne_15 : decode cX12_wakesOne 15 = .ok (.ldc2_w 211, 3) := by decide +kernel
theorem dX12_wakesOne_18 : decode cX12_wakesOne 18 = .ok (.invokestatic 21, 3) := by decide +kernel
theorem dX12_wakesOne_21 : decode cX12_wakesOne 21 = .ok (.ifCond .ne 5, 3) := by decide +kernel
theorem dX12_wakesOne_24 : decode cX12_wakesOne 24 = .ok (.iconst (-1), 1) := by decide +kernel
theorem dX12_wakesOne_25 : decode cX12_wakesOne 25 = .ok (.ireturn, 1) := by decide +kernel
theorem dX12_wakesOne_26 : decode cX12_wakesOne 26 = .ok (.aload_n 0, 1) := by decide +kernel
theorem dX12_wakesOne_27 : decode cX12_wakesOne 27 = .ok (.iload_n 1, 1) := by decide +kernel
theorem dX12_wakesOne_28 : decode cX12_wakesOne 28 = .ok (.invokevirtual 143, 3) := by decide +kernel
theorem dX12_wakesOne_31 : decode cX12_wakesOne 31 = .ok (.istore_n 3, 1) := by decide +kernel
theorem dX12_wakesOne_32 : decode cX12_wakesOne 32 = .ok (.iload_n 3, 1) := by decide +kernel
theorem dX12_wakesOne_33 : decode cX12_wakesOne 33 = .ok (.ifCond .ge 6, 3) := by decide +kernel
theorem dX12_wakesOne_36 : decode cX12_wakesOne 36 = .ok (.bipush (-3), 2) := by decide +kernel
theorem dX12_wakesOne_38 : decode cX12_wakesOne 38 = .ok (.ireturn, 1) := by decide +kernel
theorem dX12_wakesOne_39 : decode cX12_wakesOne 39 = .ok (.aload_n 0, 1) := by decide +kernel
theorem dX12_wakesOne_40 : decode cX12_wakesOne 40 = .ok (.iload_n 2, 1) := by decide +kernel
theorem dX12_wakesOne_41 : decode cX12_wakesOne 41 = .ok (.invokevirtual 131, 3) := by decide +kernel
theorem dX12_wakesOne_44 : decode cX12_wakesOne 44 = .ok (.iload_n 3, 1) := by decide +kernel
theorem dX12_wakesOne_45 : decode cX12_wakesOne 45 = .ok (.if_icmp .ne 6, 3) := by decide +kernel
theorem dX12_wakesOne_48 : decode cX12_wakesOne 48 = .ok (.bipush (-2), 2) := by decide +kernel
theorem dX12_wakesOne_50 : decode cX12_wakesOne 50 = .ok (.ireturn, 1) := by decide +kernel
theorem dX12_wakesOne_51 : decode cX12_wakesOne 51 = .ok (.aload_n 0, 1) := by decide +kernel
theorem dX12_wakesOne_52 : decode cX12_wakesOne 52 = .ok (.getfield 53, 3) := by decide +kernel
theorem dX12_wakesOne_55 : decode cX12_wakesOne 55 = .ok (.aload_n 0, 1) := by decide +kernel
theorem dX12_wakesOne_56 : decode cX12_wakesOne 56 = .ok (.getfield 85, 3) := by decide +kernel
theorem dX12_wakesOne_59 : decode cX12_wakesOne 59 = .ok (.iconst 2, 1) := by decide +kernel
theorem dX12_wakesOne_60 : decode cX12_wakesOne 60 = .ok (.iadd, 1) := by decide +kernel
theorem dX12_wakesOne_61 : decode cX12_wakesOne 61 = .ok (.iaload, 1) := by decide +kernel
theorem dX12_wakesOne_62 : decode cX12_wakesOne 62 = .ok (.istore 4, 2) := by decide +kernel
theorem dX12_wakesOne_64 : decode cX12_wakesOne 64 = .ok (.aload_n 0, 1) := by decide +kernel
theorem dX12_wakesOne_65 : decode cX12_wakesOne 65 = .ok (.iload_n 2, 1) := by decide +kernel
theorem dX12_wakesOne_66 : decode cX12_wakesOne 66 = .ok (.iload_n 3, 1) := by decide +kernel
theorem dX12_wakesOne_67 : decode cX12_wakesOne 67 = .ok (.invokevirtual 128, 3) := by decide +kernel
theorem dX12_wakesOne_70 : decode cX12_wakesOne 70 = .ok (.aload_n 0, 1) := by decide +kernel
theorem dX12_wakesOne_71 : decode cX12_wakesOne 71 = .ok (.invokevirtual 213, 3) := by decide +kernel
theorem dX12_wakesOne_74 : decode cX12_wakesOne 74 = .ok (.aload_n 0, 1) := by decide +kernel
theorem dX12_wakesOne_75 : decode cX12_wakesOne 75 = .ok (.getfield 53, 3) := by decide +kernel
theorem dX12_wakesOne_78 : decode cX12_wakesOne 78 = .ok (.aload_n 0, 1) := by decide +kernel
theorem dX12_wakesOne_79 : decode cX12_wakesOne 79 = .ok (.getfield 85, 3) := by decide +kernel
theorem dX12_wakesOne_82 : decode cX12_wakesOne 82 = .ok (.iconst 2, 1) := by decide +kernel
theorem dX12_wakesOne_83 : decode cX12_wakesOne 83 = .ok (.iadd, 1) := by decide +kernel
theorem dX12_wakesOne_84 : decode cX12_wakesOne 84 = .ok (.iaload, 1) := by decide +kernel
theorem dX12_wakesOne_85 : decode cX12_wakesOne 85 = .ok (.iload 4, 2) := by decide +kernel
theorem dX12_wakesOne_87 : decode cX12_wakesOne 87 = .ok (.isub, 1) := by decide +kernel
theorem dX12_wakesOne_88 : decode cX12_wakesOne 88 = .ok (.ireturn, 1) := by decide +kernel
theorem dX12_freedMany_0 : decode cX12_freedMany 0 = .ok (.aload_n 0, 1) := by decide +kernel
theorem dX12_freedMany_1 : decode cX12_freedMany 1 = .ok (.getfield 53, 3) := by decide +kernel
theorem dX12_freedMany_4 : decode cX12_freedMany 4 = .ok (.aload_n 0, 1) := by decide +kernel
theorem dX12_freedMany_5 : decode cX12_freedMany 5 = .ok (.getfield 85, 3) := by decide +kernel
theorem dX12_freedMany_8 : decode cX12_freedMany 8 = .ok (.iconst 3, 1) := by decide +kernel
