theorem dX8_itemEnd_0 : decode cX8_itemEnd 0 = .ok (.aload_n 0, 1) := by decide +kernel
theorem dX8_itemEnd_1 : decode cX8_itemEnd 1 = .ok (.aload_n 0, 1) := by decide +kernel
theorem dX8_itemEnd_2 : decode cX8_itemEnd 2 = .ok (.getfield 25, 3) := by decide +kernel
theorem dX8_itemEnd_5 : decode cX8_itemEnd 5 = .ok (.iload_n 1, 1) := by decide +kernel
theorem dX8_itemEnd_6 : decode cX8_itemEnd 6 = .ok (.invokevirtual 313, 3) := by decide +kernel
theorem dX8_itemEnd_9 : decode cX8_itemEnd 9 = .ok (.invokevirtual 115, 3) := by decide +kernel
theorem dX8_itemEnd_12 : decode cX8_itemEnd 12 = .ok (.ifCond .ne 5, 3) := by decide +kernel
theorem dX8_itemEnd_15 : decode cX8_itemEnd 15 = .ok (.iconst (-1), 1) := by decide +kernel
theorem dX8_itemEnd_16 : decode cX8_itemEnd 16 = .ok (.ireturn, 1) := by decide +kernel
theorem dX8_itemEnd_17 : decode cX8_itemEnd 17 = .ok (.aload_n 0, 1) := by decide +kernel
theorem dX8_itemEnd_18 : decode cX8_itemEnd 18 = .ok (.getfield 25, 3) := by decide +kernel
theorem dX8_itemEnd_21 : decode cX8_itemEnd 21 = .ok (.iload_n 1, 1) := by decide +kernel
theorem dX8_itemEnd_22 : decode cX8_itemEnd 22 = .ok (.iconst 1, 1) := by decide +kernel
theorem dX8_itemEnd_23 : decode cX8_itemEnd 23 = .ok (.iadd, 1) := by decide +kernel
theorem dX8_itemEnd_24 : decode cX8_itemEnd 24 = .ok (.invokevirtual 169, 3) := by decide +kernel
theorem dX8_itemEnd_27 : decode cX8_itemEnd 27 = .ok (.bipush 43, 2) := by decide +kernel
theorem dX8_itemEnd_29 : decode cX8_itemEnd 29 = .ok (.if_icmp .eq 20, 3) := by decide +kernel
theorem dX8_itemEnd_32 : decode cX8_itemEnd 32 = .ok (.aload_n 0, 1) := by decide +kernel
theorem dX8_itemEnd_33 : decode cX8_itemEnd 33 = .ok (.getfield 25, 3) := by decide +kernel
theorem dX8_itemEnd_36 : decode cX8_itemEnd 36 = .ok (.iload_n 1, 1) := by decide +kernel
theorem dX8_itemEnd_37 : decode cX8_itemEnd 37 = .ok (.iconst 1, 1) := by decide +kernel
theorem dX8_itemEnd_38 : decode cX8_itemEnd 38 = .ok (.iadd, 1) := by decide +kernel
theorem dX8_itemEnd_39 : decode cX8_itemEnd 39 = .ok (.invokevirtual 169, 3) := by decide +kernel
theorem dX8_itemEnd_42 : decode cX8_itemEnd 42 = .ok (.bipush 45, 2) := by decide +kernel
theorem dX8_itemEnd_44 : decode cX8_itemEnd 44 = .ok (.if_icmp .eq 5, 3) := by decide +kernel
theorem dX8_itemEnd_47 : decode cX8_itemEnd 47 = .ok (.iconst (-1), 1) := by decide +kernel
theorem dX8_itemEnd_48 : decode cX8_itemEnd 48 = .ok (.ireturn, 1) := by decide +kernel
theorem dX8_itemEnd_49 : decode cX8_itemEnd 49 = .ok (.iconst 0, 1) := by decide +kernel
theorem dX8_itemEnd_50 : decode cX8_itemEnd 50 = .ok (.istore_n 2, 1) := by decide +kernel
theorem dX8_itemEnd_51 : decode cX8_itemEnd 51 = .ok (.iload_n 2, 1) := by decide +kernel
theorem dX8_itemEnd_52 : decode cX8_itemEnd 52 = .ok (.iconst 3, 1) := by decide +kernel
theorem dX8_itemEnd_53 : decode cX8_itemEnd 53 = .ok (.if_icmp .ge 25, 3) := by decide +kernel
theorem dX8_itemEnd_56 : decode cX8_itemEnd 56 = .ok (.aload_n 0, 1) := by decide +kernel
theorem dX8_itemEnd_57 : decode cX8_itemEnd 57 = .ok (.getfield 25, 3) := by decide +kernel
theorem dX8_itemEnd_60 : decode cX8_itemEnd 60 = .ok (.iload_n 1, 1) := by decide +kernel
theorem dX8_itemEnd_61 : decode cX8_itemEnd 61 = .ok (.iconst 2, 1) := by decide +kernel
theorem dX8_itemEnd_62 : decode cX8_itemEnd 62 = .ok (.iadd, 1) := by decide +kernel
theorem dX8_itemEnd_63 : decode cX8_itemEnd 63 = .ok (.iload_n 2, 1) := by decide +kernel
theorem dX8_itemEnd_64 : decode cX8_itemEnd 64 = .ok (.iadd, 1) := by decide +kernel
theorem dX8_itemEnd_65 : decode cX8_itemEnd 65 = .ok (.invokevirtual 313, 3) := by decide +kernel
theorem dX8_itemEnd_68 : decode cX8_itemEnd 68 = .ok (.iconst (-1), 1) := by decide +kernel
theorem dX8_itemEnd_69 : decode cX8_itemEnd 69 = .ok (.if_icmp .eq 9, 3) := by decide +kernel
theorem dX8_itemEnd_72 : decode cX8_itemEnd 72 = .ok (.iinc 2 1, 3) := by decide +kernel
theorem dX8_itemEnd_75 : decode cX8_itemEnd 75 = .ok (.goto (-24), 3) := by decide +kernel
theorem dX8_itemEnd_78 : decode cX8_itemEnd 78 = .ok (.iload_n 1, 1) := by decide +kernel
theorem dX8_itemEnd_79 : decode cX8_itemEnd 79 = .ok (.iconst 2, 1) := by decide +kernel
theorem dX8_itemEnd_80 : decode cX8_itemEnd 80 = .ok (.iadd, 1) := by decide +kernel
theorem dX8_itemEnd_81 : decode cX8_itemEnd 81 = .ok (.iload_n 2, 1) := by decide +kernel
theorem dX8_itemEnd_82 : decode cX8_itemEnd 82 = .ok (.iadd, 1) := by decide +kernel
theorem dX8_itemEnd_83 : decode cX8_itemEnd 83 = .ok (.ireturn, 1) := by decide +kernel
theorem dX8_applyItems_0 : decode cX8_applyItems 0 = .ok (.iload_n 2, 1) := by decide +kernel
theorem dX8_applyItems_1 : decode cX8_applyItems 1 = .ok (.istore 4, 2) := by decide +kernel
theorem dX8_applyItems_3 : decode cX8_applyItems 3 = .ok (.iconst 0, 1) := by decide +kernel
theorem dX8_applyItems_4 : decode cX8_applyItems 4 = .ok (.istore 5, 2) := by decide +kernel
theorem dX8_applyItems_6 : decode cX8_applyItems 6 = .ok (.iload 5, 2) := by decide +kernel
theorem dX8_applyItems_8 : decode cX8_applyItems 8 = .ok (.iload_n 3, 1) := by decide +kernel
theorem dX8_applyItems_9 : decode cX8_applyItems 9 = .ok (.if_icmp .ge 32, 3) := by decide +kernel
theorem dX8_applyItems_12 : decode cX8_applyItems 12 = .ok (.aload_n 0, 1) := by decide +kernel
theorem dX8_applyItems_13 : decode cX8_applyItems 13 = .ok (.iload 4, 2) := by decide +kernel
theorem dX8_applyItems_15 : decode cX8_applyItems 15 = .ok (.invokevirtual 310, 3) := by decide +kernel
theorem dX8_applyItems_18 : decode cX8_applyItems 18 = .ok (.istore 6, 2) := by decide +kernel
theorem dX8_applyItems_20 : decode cX8_applyItems 20 = .ok (.aload_n 0, 1) := by decide +kernel
theorem dX8_applyItems_21 : decode cX8_applyItems 21 = .ok (.aload_n 1, 1) := by decide +kernel
theorem dX8_applyItems_22 : decode cX8_applyItems 22 = .ok (.iload 4, 2) := by decide +kernel
theorem dX8_applyItems_24 : decode cX8_applyItems 24 = .ok (.iload 6, 2) := by decide +kernel
theorem dX8_applyItems_26 : decode cX8_applyItems 26 = .ok (.invokevirtual 316, 3) := by decide +kernel
theorem dX8_applyItems_29 : decode cX8_applyItems 29 = .ok (.iload 6, 2) := by decide +kernel
theorem dX8_applyItems_31 : decode cX8_applyItems 31 = .ok (.iconst 1, 1) := by decide +kernel
theorem dX8_applyItems_32 : decode cX8_applyItems 32 = .ok (.iadd, 1) := by decide +kernel
theorem dX8_applyItems_33 : decode cX8_applyItems 33 = .ok (.istore 4, 2) := by decide +kernel
theorem dX8_applyItems_35 : decode cX8_applyItems 35 = .ok (.iinc 5 1, 3) := by decide +kernel
theorem dX8_applyItems_38 : decode cX8_applyItems 38 = .ok (.goto (-32), 3) := by decide +kernel
theorem dX8_applyItems_41 : decode cX8_applyItems 41 = .ok (.return_, 1) := by decide +kernel
theorem dX8_applyItem_0 : decode cX8_applyItem 0 = .ok (.aload_n 0, 1) := by decide +kernel
theorem dX8_applyItem_1 : decode cX8_applyItem 1 = .ok (.getfield 25, 3) := by decide +kernel
theorem dX8_applyItem_4 : decode cX8_applyItem 4 = .ok (.iload_n 2, 1) := by decide +kernel
theorem dX8_applyItem_5 : decode cX8_applyItem 5 = .ok (.invokevirtual 313, 3) := by decide +kernel
theorem dX8_applyItem_8 : decode cX8_applyItem 8 = .ok (.istore 4, 2) := by decide +kernel
theorem dX8_applyItem_10 : decode cX8_applyItem 10 = .ok (.aload_n 1, 1) := by decide +kernel
theorem dX8_applyItem_11 : decode cX8_applyItem 11 = .ok (.iload 4, 2) := by decide +kernel
theorem dX8_applyItem_13 : decode cX8_applyItem 13 = .ok (.aload_n 0, 1) := by decide +kernel
theorem dX8_applyItem_14 : decode cX8_applyItem 14 = .ok (.getfield 25, 3) := by decide +kernel
theorem dX8_applyItem_17 : decode cX8_applyItem 17 = .ok (.iload_n 2, 1) := by decide +kernel
theorem dX8_applyItem_18 : decode cX8_applyItem 18 = .ok (.iconst 1, 1) := by decide +kernel
theorem dX8_applyItem_19 : decode cX8_applyItem 19 = .ok (.iadd, 1) := by decide +kernel
theorem dX8_applyItem_20 : decode cX8_applyItem 20 = .ok (.invokevirtual 169, 3) := by decide +kernel
theorem dX8_applyItem_23 : decode cX8_applyItem 23 = .ok (.bipush 43, 2) := by decide +kernel
theorem dX8_applyItem_25 : decode cX8_applyItem 25 = .ok (.if_icmp .ne 7, 3) := by decide +kernel
theorem dX8_applyItem_28 : decode cX8_applyItem 28 = .ok (.iconst 1, 1) := by decide +kernel
theorem dX8_applyItem_29 : decode cX8_applyItem 29 = .ok (.goto 4, 3) := by decide +kernel
theorem dX8_applyItem_32 : decode cX8_applyItem 32 = .ok (.iconst 0, 1) := by decide +kernel
theorem dX8_applyItem_33 : decode cX8_applyItem 33 = .ok (.invokevirtual 319, 3) := by decide +kernel
theorem dX8_applyItem_36 : decode cX8_applyItem 36 = .ok (.iconst 0, 1) := by decide +kernel
theorem dX8_applyItem_37 : decode cX8_applyItem 37 = .ok (.istore 5, 2) := by decide +kernel
theorem dX8_applyItem_39 : decode cX8_applyItem 39 = .ok (.iload_n 2, 1) := by decide +kernel
theorem dX8_applyItem_40 : decode cX8_applyItem 40 = .ok (.iconst 2, 1) := by decide +kernel
theorem dX8_applyItem_41 : decode cX8_applyItem 41 = .ok (.iadd, 1) := by decide +kernel
theorem dX8_applyItem_42 : decode cX8_applyItem 42 = .ok (.istore 6, 2) := by decide +kernel
theorem dX8_applyItem_44 : decode cX8_applyItem 44 = .ok (.iload 6, 2) := by decide +kernel
theorem dX8_applyItem_46 : decode cX8_applyItem 46 = .ok (.iload_n 3, 1) := by decide +kernel
theorem dX8_applyItem_47 : decode cX8_applyItem 47 = .ok (.if_icmp .ge 26, 3) := by decide +kernel
theorem dX8_applyItem_50 : decode cX8_applyItem 50 = .ok (.bipush 10, 2) := by decide +kernel
theorem dX8_applyItem_52 : decode cX8_applyItem 52 = .ok (.iload 5, 2) := by decide +kernel
theorem dX8_applyItem_54 : decode cX8_applyItem 54 = .ok (.imul, 1) := by decide +kernel
theorem dX8_applyItem_55 : decode cX8_applyItem 55 = .ok (.aload_n 0, 1) := by decide +kernel
theorem dX8_applyItem_56 : decode cX8_applyItem 56 = .ok (.getfield 25, 3) := by decide +kernel
theorem dX8_applyItem_59 : decode cX8_applyItem 59 = .ok (.iload 6, 2) := by decide +kernel
theorem dX8_applyItem_61 : decode cX8_applyItem 61 = .ok (.invokevirtual 313, 3) := by decide +kernel
theorem dX8_applyItem_64 : decode cX8_applyItem 64 = .ok (.iadd, 1) := by decide +kernel
theorem dX8_applyItem_65 : decode cX8_applyItem 65 = .ok (.istore 5, 2) := by decide +kernel
theorem dX8_applyItem_67 : decode cX8_applyItem 67 = .ok (.iinc 6 1, 3) := by decide +kernel
theorem dX8_applyItem_70 : decode cX8_applyItem 70 = .ok (.goto (-26), 3) := by decide +kernel
theorem dX8_applyItem_73 : decode cX8_applyItem 73 = .ok (.iload_n 3, 1) := by decide +kernel
theorem dX8_applyItem_74 : decode cX8_applyItem 74 = .ok (.iload_n 2, 1) := by decide +kernel
theorem dX8_applyItem_75 : decode cX8_applyItem 75 = .ok (.iconst 2, 1) := by decide +kernel
theorem dX8_applyItem_76 : decode cX8_applyItem 76 = .ok (.iadd, 1) := by decide +kernel
theorem dX8_applyItem_77 : decode cX8_applyItem 77 = .ok (.if_icmp .le 11, 3) := by decide +kernel
theorem dX8_applyItem_80 : decode cX8_applyItem 80 = .ok (.aload_n 1, 1) := by decide +kernel
theorem dX8_applyItem_81 : decode cX8_applyItem 81 = .ok (.iload 4, 2) := by decide +kernel
theorem dX8_applyItem_83 : decode cX8_applyItem 83 = .ok (.iload 5, 2) := by decide +kernel
theorem dX8_applyItem_85 : decode cX8_applyItem 85 = .ok (.invokevirtual 323, 3) := by decide +kernel
theorem dX8_applyItem_88 : decode cX8_applyItem 88 = .ok (.return_, 1) := by decide +kernel
theorem dX8_carryOutPart_0 : decode cX8_carryOutPart 0 = .ok (.aload_n 0, 1) := by decide +kernel
theorem dX8_carryOutPart_1 : decode cX8_carryOutPart 1 = .ok (.getfield 25, 3) := by decide +kernel
theorem dX8_carryOutPart_4 : decode cX8_carryOutPart 4 = .ok (.iload_n 1, 1) := by decide +kernel
theorem dX8_carryOutPart_5 : decode cX8_carryOutPart 5 = .ok (.invokevirtual 313, 3) := by decide +kernel
theorem dX8_carryOutPart_8 : decode cX8_carryOutPart 8 = .ok (.istore_n 3, 1) := by decide +kernel
theorem dX8_carryOutPart_9 : decode cX8_carryOutPart 9 = .ok (.aload_n 0, 1) := by decide +kernel
theorem dX8_carryOutPart_10 : decode cX8_carryOutPart 10 = .ok (.iload_n 3, 1) := by decide +kernel
theorem dX8_carryOutPart_11 : decode cX8_carryOutPart 11 = .ok (.invokevirtual 155, 3) := by decide +kernel
theorem dX8_carryOutPart_14 : decode cX8_carryOutPart 14 = .ok (.ifCond .eq 31, 3) := by decide +kernel
theorem dX8_carryOutPart_17 : decode cX8_carryOutPart 17 = .ok (.aload_n 0, 1) := by decide +kernel
theorem dX8_carryOutPart_18 : decode cX8_carryOutPart 18 = .ok (.getfield 55, 3) := by decide +kernel
theorem dX8_carryOutPart_21 : decode cX8_carryOutPart 21 = .ok (.iload_n 3, 1) := by decide +kernel
theorem dX8_carryOutPart_22 : decode cX8_carryOutPart 22 = .ok (.aaload, 1) := by decide +kernel
theorem dX8_carryOutPart_23 : decode cX8_carryOutPart 23 = .ok (.iconst 3, 1) := by decide +kernel
theorem dX8_carryOutPart_24 : decode cX8_carryOutPart 24 = .ok (.invokevirtual 158, 3) := by decide +kernel
theorem dX8_carryOutPart_27 : decode cX8_carryOutPart 27 = .ok (.ifCond .ne 18, 3) := by decide +kernel
theorem dX8_carryOutPart_30 : decode cX8_carryOutPart 30 = .ok (.aload_n 0, 1) := by decide +kernel
theorem dX8_carryOutPart_31 : decode cX8_carryOutPart 31 = .ok (.getfield 25, 3) := by decide +kernel
theorem dX8_carryOutPart_34 : decode cX8_carryOutPart 34 = .ok (.iload_n 1, 1) := by decide +kernel
theorem dX8_carryOutPart_35 : decode cX8_carryOutPart 35 = .ok (.iconst 1, 1) := by decide +kernel
theorem dX8_carryOutPart_36 : decode cX8_carryOutPart 36 = .ok (.iadd, 1) := by decide +kernel
theorem dX8_carryOutPart_37 : decode cX8_carryOutPart 37 = .ok (.invokevirtual 169, 3) := by decide +kernel
theorem dX8_carryOutPart_40 : decode cX8_carryOutPart 40 = .ok (.bipush 58, 2) := by decide +kernel
theorem dX8_carryOutPart_42 : decode cX8_carryOutPart 42 = .ok (.if_icmp .eq 5, 3) := by decide +kernel
theorem dX8_carryOutPart_45 : decode cX8_carryOutPart 45 = .ok (.iconst 0, 1) := by decide +kernel
theorem dX8_carryOutPart_46 : decode cX8_carryOutPart 46 = .ok (.ireturn, 1) := by decide +kernel
theorem dX8_carryOutPart_47 : decode cX8_carryOutPart 47 = .ok (.aload_n 0, 1) := by decide +kernel
theorem dX8_carryOutPart_48 : decode cX8_carryOutPart 48 = .ok (.iload_n 1, 1) := by decide +kernel
theorem dX8_carryOutPart_49 : decode cX8_carryOutPart 49 = .ok (.iconst 2, 1) := by decide +kernel
theorem dX8_carryOutPart_50 : decode cX8_carryOutPart 50 = .ok (.iadd, 1) := by decide +kernel
theorem dX8_carryOutPart_51 : decode cX8_carryOutPart 51 = .ok (.iload_n 2, 1) := by decide +kernel
theorem dX8_carryOutPart_52 : decode cX8_carryOutPart 52 = .ok (.invokevirtual 152, 3) := by decide +kernel
theorem dX8_carryOutPart_55 : decode cX8_carryOutPart 55 = .ok (.istore 4, 2) := by decide +kernel
theorem dX8_carryOutPart_57 : decode cX8_carryOutPart 57 = .ok (.iload 4, 2) := by decide +kernel
theorem dX8_carryOutPart_59 : decode cX8_carryOutPart 59 = .ok (.iconst (-1), 1) := by decide +kernel
theorem dX8_carryOutPart_60 : decode cX8_carryOutPart 60 = .ok (.if_icmp .ne 5, 3) := by decide +kernel
theorem dX8_carryOutPart_63 : decode cX8_carryOutPart 63 = .ok (.iconst 0, 1) := by decide +kernel
theorem dX8_carryOutPart_64 : decode cX8_carryOutPart 64 = .ok (.ireturn, 1) := by decide +kernel
theorem dX8_carryOutPart_65 : decode cX8_carryOutPart 65 = .ok (.aload_n 0, 1) := by decide +kernel
theorem dX8_carryOutPart_66 : decode cX8_carryOutPart 66 = .ok (.aload_n 0, 1) := by decide +kernel
theorem dX8_carryOutPart_67 : decode cX8_carryOutPart 67 = .ok (.getfield 55, 3) := by decide +kernel
theorem dX8_carryOutPart_70 : decode cX8_carryOutPart 70 = .ok (.iload_n 3, 1) := by decide +kernel
theorem dX8_carryOutPart_71 : decode cX8_carryOutPart 71 = .ok (.aaload, 1) := by decide +kernel
theorem dX8_carryOutPart_72 : decode cX8_carryOutPart 72 = .ok (.iload_n 1, 1) := by decide +kernel
theorem dX8_carryOutPart_73 : decode cX8_carryOutPart 73 = .ok (.iconst 2, 1) := by decide +kernel
theorem dX8_carryOutPart_74 : decode cX8_carryOutPart 74 = .ok (.iadd, 1) := by decide +kernel
theorem dX8_carryOutPart_75 : decode cX8_carryOutPart 75 = .ok (.iload 4, 2) := by decide +kernel
theorem dX8_carryOutPart_77 : decode cX8_carryOutPart 77 = .ok (.invokevirtual 161, 3) := by decide +kernel
theorem dX8_carryOutPart_80 : decode cX8_carryOutPart 80 = .ok (.iconst 1, 1) := by decide +kernel
theorem dX8_carryOutPart_81 : decode cX8_carryOutPart 81 = .ok (.ireturn, 1) := by decide +kernel
theorem dX9_init_0 : decode cX9_init 0 = .ok (.aload_n 0, 1) := by decide +kernel
theorem dX9_init_1 : decode cX9_init 1 = .ok (.invokespecial 1, 3) := by decide +kernel
theorem dX9_init_4 : decode cX9_init 4 = .ok (.aload_n 0, 1) := by decide +kernel
theorem dX9_init_5 : decode cX9_init 5 = .ok (.bipush 40, 2) := by decide +kernel
theorem dX9_init_7 : decode cX9_init 7 = .ok (.newarray .char, 2) := by decide +kernel
theorem dX9_init_9 : decode cX9_init 9 = .ok (.putfield 7, 3) := by decide +kernel
theorem dX9_init_12 : decode cX9_init 12 = .ok (.aload_n 0, 1) := by decide +kernel
theorem dX9_init_13 : decode cX9_init 13 = .ok (.bipush 6, 2) := by decide +kernel
theorem dX9_init_15 : decode cX9_init 15 = .ok (.newarray .int, 2) := by decide +kernel
theorem dX9_init_17 : decode cX9_init 17 = .ok (.putfield 13, 3) := by decide +kernel
theorem dX9_init_20 : decode cX9_init 20 = .ok (.aload_n 0, 1) := by decide +kernel
theorem dX9_init_21 : decode cX9_init 21 = .ok (.bipush 6, 2) := by decide +kernel
theorem dX9_init_23 : decode cX9_init 23 = .ok (.newarray .boolean, 2) := by decide +kernel
theorem dX9_init_25 : decode cX9_init 25 = .ok (.putfield 17, 3) := by decide +kernel
theorem dX9_init_28 : decode cX9_init 28 = .ok (.aload_n 0, 1) := by decide +kernel
theorem dX9_init_29 : decode cX9_init 29 = .ok (.sipush 192, 3) := by decide +kernel
theorem dX9_init_32 : decode cX9_init 32 = .ok (.newarray .char, 2) := by decide +kernel
theorem dX9_init_34 : decode cX9_init 34 = .ok (.putfield 21, 3) := by decide +kernel
theorem dX9_init_37 : decode cX9_init 37 = .ok (.aload_n 0, 1) := by decide +kernel
theorem dX9_init_38 : decode cX9_init 38 = .ok (.bipush 24, 2) := by decide +kernel
theorem dX9_init_40 : decode cX9_init 40 = .ok (.newarray .int, 2) := by decide +kernel
theorem dX9_init_42 : decode cX9_init 42 = .ok (.putfield 24, 3) := by decide +kernel
theorem dX9_init_45 : decode cX9_init 45 = .ok (.aload_n 0, 1) := by decide +kernel
theorem dX9_init_46 : decode cX9_init 46 = .ok (.iconst 3, 1) := by decide +kernel
theorem dX9_init_47 : decode cX9_init 47 = .ok (.newarray .int, 2) := by decide +kernel
theorem dX9_init_49 : decode cX9_init 49 = .ok (.putfield 27, 3) := by decide +kernel
theorem dX9_init_52 : decode cX9_init 52 = .ok (.aload_n 0, 1) := by decide +kernel
theorem dX9_init_53 : decode cX9_init 53 = .ok (.bipush 9, 2) := by decide +kernel
theorem dX9_init_55 : decode cX9_init 55 = .ok (.newarray .int, 2) := by decide +kernel
theorem dX9_init_57 : decode cX9_init 57 = .ok (.putfield 30, 3) := by decide +kernel
theorem dX9_init_60 : decode cX9_init 60 = .ok (.aload_n 0, 1) := by decide +kernel
theorem dX9_init_61 : decode cX9_init 61 = .ok (.sipush 420, 3) := by decide +kernel
theorem dX9_init_64 : decode cX9_init 64 = .ok (.newarray .int, 2) := by decide +kernel
theorem dX9_init_66 : decode cX9_init 66 = .ok (.putfield 33, 3) := by decide +kernel
theorem dX9_init_69 : decode cX9_init 69 = .ok (.aload_n 0, 1) := by decide +kernel
theorem dX9_init_70 : decode cX9_init 70 = .ok (.bipush 7, 2) := by decide +kernel
theorem dX9_init_72 : decode cX9_init 72 = .ok (.newarray .int, 2) := by decide +kernel
theorem dX9_init_74 : decode cX9_init 74 = .ok (.putfield 36, 3) := by decide +kernel
theorem dX9_init_77 : decode cX9_init 77 = .ok (.aload_n 0, 1) := by decide +kernel
theorem dX9_init_78 : decode cX9_init 78 = .ok (.bipush 7, 2) := by decide +kernel
theorem dX9_init_80 : decode cX9_init 80 = .ok (.newarray .int, 2) := by decide +kernel
theorem dX9_init_82 : decode cX9_init 82 = .ok (.putfield 39, 3) := by decide +kernel
theorem dX9_init_85 : decode cX9_init 85 = .ok (.aload_n 0, 1) := by decide +kernel
theorem dX9_init_86 : decode cX9_init 86 = .ok (.sipush 4200, 3) := by decide +kernel
theorem dX9_init_89 : decode cX9_init 89 = .ok (.newarray .int, 2) := by decide +kernel
theorem dX9_init_91 : decode cX9_init 91 = .ok (.putfield 42, 3) := by decide +kernel
theorem dX9_init_94 : decode cX9_init 94 = .ok (.aload_n 0, 1) := by decide +kernel
theorem dX9_init_95 : decode cX9_init 95 = .ok (.bipush 7, 2) := by decide +kernel
theorem dX9_init_97 : decode cX9_init 97 = .ok (.newarray .int, 2) := by decide +kernel
theorem dX9_init_99 : decode cX9_init 99 = .ok (.putfield 45, 3) := by decide +kernel
theorem dX9_init_102 : decode cX9_init 102 = .ok (.aload_n 0, 1) := by decide +kernel
theorem dX9_init_103 : decode cX9_init 103 = .ok (.bipush 7, 2) := by decide +kernel
theorem dX9_init_105 : decode cX9_init 105 = .ok (.newarray .int, 2) := by decide +kernel
theorem dX9_init_107 : decode cX9_init 107 = .ok (.putfield 48, 3) := by decide +kernel
theorem dX9_init_110 : decode cX9_init 110 = .ok (.aload_n 0, 1) := by decide +kernel
theorem dX9_init_111 : decode cX9_init 111 = .ok (.bipush 7, 2) := by decide +kernel
theorem dX9_init_113 : decode cX9_init 113 = .ok (.newarray .int, 2) := by decide +kernel
theorem dX9_init_115 : decode cX9_init 115 = .ok (.putfield 51, 3) := by decide +kernel
theorem dX9_init_118 : decode cX9_init 118 = .ok (.aload_n 0, 1) := by decide +kernel
theorem dX9_init_119 : decode cX9_init 119 = .ok (.bipush 7, 2) := by decide +kernel
theorem dX9_init_121 : decode cX9_init 121 = .ok (.newarray .int, 2) := by decide +kernel
theorem dX9_init_123 : decode cX9_init 123 = .ok (.putfield 54, 3) := by decide +kernel
theorem dX9_init_126 : decode cX9_init 126 = .ok (.aload_n 0, 1) := by decide +kernel
theorem dX9_init_127 : decode cX9_init 127 = .ok (.bipush 7, 2) := by decide +kernel
theorem dX9_init_129 : decode cX9_init 129 = .ok (.newarray .int, 2) := by decide +kernel
theorem dX9_init_131 : decode cX9_init 131 = .ok (.putfield 57, 3) := by decide +kernel
theorem dX9_init_134 : decode cX9_init 134 = .ok (.aload_n 0, 1) := by decide +kernel
theorem dX9_init_135 : decode cX9_init 135 = .ok (.iconst 3, 1) := by decide +kernel
theorem dX9_init_136 : decode cX9_init 136 = .ok (.newarray .int, 2) := by decide +kernel
theorem dX9_init_138 : decode cX9_init 138 = .ok (.putfield 60, 3) := by decide +kernel
theorem dX9_init_141 : decode cX9_init 141 = .ok (.aload_n 0, 1) := by decide +kernel
theorem dX9_init_142 : decode cX9_init 142 = .ok (.iconst 3, 1) := by decide +kernel
theorem dX9_init_143 : decode cX9_init 143 = .ok (.newarray .int, 2) := by decide +kernel
theorem dX9_init_145 : decode cX9_init 145 = .ok (.putfield 63, 3) := by decide +kernel
theorem dX9_init_148 : decode cX9_init 148 = .ok (.aload_n 0, 1) := by decide +kernel
theorem dX9_init_149 : decode cX9_init 149 = .ok (.iconst 4, 1) := by decide +kernel
theorem dX9_init_150 : decode cX9_init 150 = .ok (.newarray .int, 2) := by decide +kernel
theorem dX9_init_152 : decode cX9_init 152 = .ok (.putfield 66, 3) := by decide +kernel
theorem dX9_init_155 : decode cX9_init 155 = .ok (.aload_n 0, 1) := by decide +kernel
theorem dX9_init_156 : decode cX9_init 156 = .ok (.bipush 24, 2) := by decide +kernel
theorem dX9_init_158 : decode cX9_init 158 = .ok (.newarray .boolean, 2) := by decide +kernel
theorem dX9_init_160 : decode cX9_init 160 = .ok (.putfield 69, 3) := by decide +kernel
theorem dX9_init_163 : decode cX9_init 163 = .ok (.aload_n 0, 1) := by decide +kernel
theorem dX9_init_164 : decode cX9_init 164 = .ok (.bipush 24, 2) := by decide +kernel
theorem dX9_init_166 : decode cX9_init 166 = .ok (.newarray .int, 2) := by decide +kernel
theorem dX9_init_168 : decode cX9_init 168 = .ok (.putfield 72, 3) := by decide +kernel
theorem dX9_init_171 : decode cX9_init 171 = .ok (.aload_n 0, 1) := by decide +kernel
theorem dX9_init_172 : decode cX9_init 172 = .ok (.iconst 4, 1) := by decide +kernel
theorem dX9_init_173 : decode cX9_init 173 = .ok (.newarray .int, 2) := by decide +kernel
theorem dX9_init_175 : decode cX9_init 175 = .ok (.putfield 75, 3) := by decide +kernel
theorem dX9_init_178 : decode cX9_init 178 = .ok (.aload_n 0, 1) := by decide +kernel
theorem dX9_init_179 : decode cX9_init 179 = .ok (.iconst 4, 1) := by decide +kernel
theorem dX9_init_180 : decode cX9_init 180 = .ok (.newarray .int, 2) := by decide +kernel
theorem dX9_init_182 : decode cX9_init 182 = .ok (.putfield 78, 3) := by decide +kernel
theorem dX9_init_185 : decode cX9_init 185 = .ok (.aload_n 0, 1) := by decide +kernel
theorem dX9_init_186 : decode cX9_init 186 = .ok (.sipush 4400, 3) := by decide +kernel
theorem dX9_init_189 : decode cX9_init 189 = .ok (.newarray .int, 2) := by decide +kernel
theorem dX9_init_191 : decode cX9_init 191 = .ok (.putfield 81, 3) := by decide +kernel
theorem dX9_init_194 : decode cX9_init 194 = .ok (.aload_n 0, 1) := by decide +kernel
theorem dX9_init_195 : decode cX9_init 195 = .ok (.bipush 64, 2) := by decide +kernel
theorem dX9_init_197 : decode cX9_init 197 = .ok (.newarray .int, 2) := by decide +kernel
theorem dX9_init_199 : decode cX9_init 199 = .ok (.putfield 84, 3) := by decide +kernel
theorem dX9_init_202 : decode cX9_init 202 = .ok (.aload_n 0, 1) := by decide +kernel
theorem dX9_init_203 : decode cX9_init 203 = .ok (.iload_n 1, 1) := by decide +kernel
theorem dX9_init_204 : decode cX9_init 204 = .ok (.bipush 16, 2) := by decide +kernel
theorem dX9_init_206 : decode cX9_init 206 = .ok (.if_icmp .ge 8, 3) := by decide +kernel
theorem dX9_init_209 : decode cX9_init 209 = .ok (.bipush 16, 2) := by decide +kernel
theorem dX9_init_211 : decode cX9_init 211 = .ok (.goto 15, 3) := by decide +kernel
theorem dX9_init_214 : decode cX9_init 214 = .ok (.iload_n 1, 1) := by decide +kernel
theorem dX9_init_215 : decode cX9_init 215 = .ok (.bipush 60, 2) := by decide +kernel
theorem dX9_init_217 : decode cX9_init 217 = .ok (.if_icmp .le 8, 3) := by decide +kernel
theorem dX9_init_220 : decode cX9_init 220 = .ok (.bipush 60, 2) := by decide +kernel
theorem dX9_init_222 : decode cX9_init 222 = .ok (.goto 4, 3) := by decide +kernel
theorem dX9_init_225 : decode cX9_init 225 = .ok (.iload_n 1, 1) := by decide +kernel
theorem dX9_init_226 : decode cX9_init 226 = .ok (.putfield 87, 3) := by decide +kernel
theorem dX9_init_229 : decode cX9_init 229 = .ok (.aload_n 0, 1) := by decide +kernel
theorem dX9_init_230 : decode cX9_init 230 = .ok (.iload_n 2, 1) := by decide +kernel
theorem dX9_init_231 : decode cX9_init 231 = .ok (.ifCond .ge 7, 3) := by decide +kernel
theorem dX9_init_234 : decode cX9_init 234 = .ok (.iconst 0, 1) := by decide +kernel
theorem dX9_init_235 : decode cX9_init 235 = .ok (.goto 13, 3) := by decide +kernel
theorem dX9_init_238 : decode cX9_init 238 = .ok (.iload_n 2, 1) := by decide +kernel
theorem dX9_init_239 : decode cX9_init 239 = .ok (.iconst 4, 1) := by decide +kernel
theorem dX9_init_240 : decode cX9_init 240 = .ok (.if_icmp .le 7, 3) := by decide +kernel
theorem dX9_init_243 : decode cX9_init 243 = .ok (.iconst 4, 1) := by decide +kernel
theorem dX9_init_244 : decode cX9_init 244 = .ok (.goto 4, 3) := by decide +kernel
theorem dX9_init_247 : decode cX9_init 247 = .ok (.iload_n 2, 1) := by decide +kernel
theorem dX9_init_248 : decode cX9_init 248 = .ok (.putfield 91, 3) := by decide +kernel
theorem dX9_init_251 : decode cX9_init 251 = .ok (.aload_n 0, 1) := by decide +kernel
theorem dX9_init_252 : decode cX9_init 252 = .ok (.iload_n 3, 1) := by decide +kernel
theorem dX9_init_253 : decode cX9_init 253 = .ok (.iconst 1, 1) := by decide +kernel
theorem dX9_init_254 : decode cX9_init 254 = .ok (.if_icmp .ge 7, 3) := by decide +kernel
theorem dX9_init_257 : decode cX9_init 257 = .ok (.iconst 1, 1) := by decide +kernel
theorem dX9_init_258 : decode cX9_init 258 = .ok (.goto 13, 3) := by decide +kernel
theorem dX9_init_261 : decode cX9_init 261 = .ok (.iload_n 3, 1) := by decide +kernel
theorem dX9_init_262 : decode cX9_init 262 = .ok (.iconst 5, 1) := by decide +kernel
theorem dX9_init_263 : decode cX9_init 263 = .ok (.if_icmp .le 7, 3) := by decide +kernel
theorem dX9_init_266 : decode cX9_init 266 = .ok (.iconst 5, 1) := by decide +kernel
theorem dX9_init_267 : decode cX9_init 267 = .ok (.goto 4, 3) := by decide +kernel
theorem dX9_init_270 : decode cX9_init 270 = .ok (.iload_n 3, 1) := by decide +kernel
theorem dX9_init_271 : decode cX9_init 271 = .ok (.putfield 94, 3) := by decide +kernel
theorem dX9_init_274 : decode cX9_init 274 = .ok (.aload_n 0, 1) := by decide +kernel
theorem dX9_init_275 : decode cX9_init 275 = .ok (.getfield 48, 3) := by decide +kernel
theorem dX9_init_278 : decode cX9_init 278 = .ok (.bipush 6, 2) := by decide +kernel
theorem dX9_init_280 : decode cX9_init 280 = .ok (.iconst 1, 1) := by decide +kernel
theorem dX9_init_281 : decode cX9_init 281 = .ok (.iastore, 1) := by decide +kernel
theorem dX9_init_282 : decode cX9_init 282 = .ok (.return_, 1) := by decide +kernel
theorem dX9_thrown_0 : decode cX9_thrown 0 = .ok (.aload_n 0, 1) := by decide +kernel
theorem dX9_thrown_1 : decode cX9_thrown 1 = .ok (.getfield 97, 3) := by decide +kernel
theorem dX9_thrown_4 : decode cX9_thrown 4 = .ok (.ireturn, 1) := by decide +kernel
theorem dX9_isThread_0 : decode cX9_isThread 0 = .ok (.iload_n 0, 1) := by decide +kernel
theorem dX9_isThread_1 : decode cX9_isThread 1 = .ok (.ifCond .lt 12, 3) := by decide +kernel
theorem dX9_isThread_4 : decode cX9_isThread 4 = .ok (.iload_n 0, 1) := by decide +kernel
theorem dX9_isThread_5 : decode cX9_isThread 5 = .ok (.iconst 2, 1) := by decide +kernel
theorem dX9_isThread_6 : decode cX9_isThread 6 = .ok (.if_icmp .gt 7, 3) := by decide +kernel
theorem dX9_isThread_9 : decode cX9_isThread 9 = .ok (.iconst 1, 1) := by decide +kernel
theorem dX9_isThread_10 : decode cX9_isThread 10 = .ok (.goto 4, 3) := by decide +kernel
theorem dX9_isThread_13 : decode cX9_isThread 13 = .ok (.iconst 0, 1) := by decide +kernel
theorem dX9_isThread_14 : decode cX9_isThread 14 = .ok (.ireturn, 1) := by decide +kernel
theorem dX9_isRecording_0 : decode cX9_isRecording 0 = .ok (.iload_n 1, 1) := by decide +kernel
theorem dX9_isRecording_1 : decode cX9_isRecording 1 = .ok (.ifCond .lt 15, 3) := by decide +kernel
theorem dX9_isRecording_4 : decode cX9_isRecording 4 = .ok (.iload_n 1, 1) := by decide +kernel
theorem dX9_isRecording_5 : decode cX9_isRecording 5 = .ok (.aload_n 0, 1) := by decide +kernel
theorem dX9_isRecording_6 : decode cX9_isRecording 6 = .ok (.getfield 100, 3) := by decide +kernel
theorem dX9_isRecording_9 : decode cX9_isRecording 9 = .ok (.if_icmp .ge 7, 3) := by decide +kernel
theorem dX9_isRecording_12 : decode cX9_isRecording 12 = .ok (.iconst 1, 1) := by decide +kernel
theorem dX9_isRecording_13 : decode cX9_isRecording 13 = .ok (.goto 4, 3) := by decide +kernel
theorem dX9_isRecording_16 : decode cX9_isRecording 16 = .ok (.iconst 0, 1) := by decide +kernel
theorem dX9_isRecording_17 : decode cX9_isRecording 17 = .ok (.ireturn, 1) := by decide +kernel
theorem dX9_write_0 : decode cX9_write 0 = .ok (.aload_n 0, 1) := by decide +kernel
theorem dX9_write_1 : decode cX9_write 1 = .ok (.iconst 0, 1) := by decide +kernel
theorem dX9_write_2 : decode cX9_write 2 = .ok (.putfield 97, 3) := by decide +kernel
theorem dX9_write_5 : decode cX9_write 5 = .ok (.aload_n 0, 1) := by decide +kernel
theorem dX9_write_6 : decode cX9_write 6 = .ok (.getfield 103, 3) := by decide +kernel
theorem dX9_write_9 : decode cX9_write 9 = .ok (.bipush 40, 2) := by decide +kernel
theorem dX9_write_11 : decode cX9_write 11 = .ok (.if_icmp .ge 15, 3) := by decide +kernel
theorem dX9_write_14 : decode cX9_write 14 = .ok (.iload_n 1, 1) := by decide +kernel
theorem dX9_write_15 : decode cX9_write 15 = .ok (.bipush 32, 2) := by decide +kernel
theorem dX9_write_17 : decode cX9_write 17 = .ok (.if_icmp .lt 9, 3) := by decide +kernel
theorem dX9_write_20 : decode cX9_write 20 = .ok (.iload_n 1, 1) := by decide +kernel
theorem dX9_write_21 : decode cX9_write 21 = .ok (.bipush 126, 2) := by decide +kernel
theorem dX9_write_23 : decode cX9_write 23 = .ok (.if_icmp .le 5, 3) := by decide +kernel
theorem dX9_write_26 : decode cX9_write 26 = .ok (.iconst 0, 1) := by decide +kernel
theorem dX9_write_27 : decode cX9_write 27 = .ok (.ireturn, 1) := by decide +kernel
theorem dX9_write_28 : decode cX9_write 28 = .ok (.aload_n 0, 1) := by decide +kernel
theorem dX9_write_29 : decode cX9_write 29 = .ok (.getfield 7, 3) := by decide +kernel
theorem dX9_write_32 : decode cX9_write 32 = .ok (.aload_n 0, 1) := by decide +kernel
theorem dX9_write_33 : decode cX9_write 33 = .ok (.getfield 103, 3) := by decide +kernel
theorem dX9_write_36 : decode cX9_write 36 = .ok (.iload_n 1, 1) := by decide +kernel
theorem dX9_write_37 : decode cX9_write 37 = .ok (.castore, 1) := by decide +kernel
theorem dX9_write_38 : decode cX9_write 38 = .ok (.aload_n 0, 1) := by decide +kernel
theorem dX9_write_39 : decode cX9_write 39 = .ok (.dup, 1) := by decide +kernel
theorem dX9_write_40 : decode cX9_write 40 = .ok (.getfield 103, 3) := by decide +kernel
theorem dX9_write_43 : decode cX9_write 43 = .ok (.iconst 1, 1) := by decide +kernel
theorem dX9_write_44 : decode cX9_write 44 = .ok (.iadd, 1) := by decide +kernel
theorem dX9_write_45 : decode cX9_write 45 = .ok (.putfield 103, 3) := by decide +kernel
theorem dX9_write_48 : decode cX9_write 48 = .ok (.iconst 1, 1) := by decide +kernel
theorem dX9_write_49 : decode cX9_write 49 = .ok (.ireturn, 1) := by decide +kernel
theorem dX9_advance_0 : decode cX9_advance 0 = .ok (.aload_n 0, 1) := by decide +kernel
theorem dX9_advance_1 : decode cX9_advance 1 = .ok (.iconst 0, 1) := by decide +kernel
theorem dX9_advance_2 : decode cX9_advance 2 = .ok (.putfield 97, 3) := by decide +kernel
theorem dX9_advance_5 : decode cX9_advance 5 = .ok (.aload_n 0, 1) := by decide +kernel
theorem dX9_advance_6 : decode cX9_advance 6 = .ok (.iload_n 1, 1) := by decide +kernel
theorem dX9_advance_7 : decode cX9_advance 7 = .ok (.ifCond .lt 19, 3) := by decide +kernel
theorem dX9_advance_10 : decode cX9_advance 10 = .ok (.iload_n 1, 1) := by decide +kernel
theorem dX9_advance_11 : decode cX9_advance 11 = .ok (.sipush 1000, 3) := by decide +kernel
theorem dX9_advance_14 : decode cX9_advance 14 = .ok (.if_icmp .gt 12, 3) := by decide +kernel
theorem dX9_advance_17 : decode cX9_advance 17 = .ok (.aload_n 0, 1) := by decide +kernel
theorem dX9_advance_18 : decode cX9_advance 18 = .ok (.getfield 106, 3) := by decide +kernel
theorem dX9_advance_21 : decode cX9_advance 21 = .ok (.iload_n 1, 1) := by decide +kernel
theorem dX9_advance_22 : decode cX9_advance 22 = .ok (.iadd, 1) := by decide +kernel
theorem dX9_advance_23 : decode cX9_advance 23 = .ok (.goto 7, 3) := by decide +kernel
theorem dX9_advance_26 : decode cX9_advance 26 = .ok (.aload_n 0, 1) := by decide +kernel
theorem dX9_advance_27 : decode cX9_advance 27 = .ok (.getfield 106, 3) := by decide +kernel
theorem dX9_advance_30 : decode cX9_advance 30 = .ok (.putfield 106, 3) := by decide +kernel
theorem dX9_advance_33 : decode cX9_advance 33 = .ok (.aload_n 0, 1) := by decide +kernel
theorem dX9_advance_34 : decode cX9_advance 34 = .ok (.getfield 106, 3) := by decide +kernel
theorem dX9_advance_37 : decode cX9_advance 37 = .ok (.ireturn, 1) := by decide +kernel
theorem dX9_type_0 : decode cX9_type 0 = .ok (.aload_n 0, 1) := by decide +kernel
theorem dX9_type_1 : decode cX9_type 1 = .ok (.iload_n 1, 1) := by decide +kernel
theorem dX9_type_2 : decode cX9_type 2 = .ok (.ifCond .lt 8, 3) := by decide +kernel
theorem dX9_type_5 : decode cX9_type 5 = .ok (.iload_n 1, 1) := by decide +kernel
theorem dX9_type_6 : decode cX9_type 6 = .ok (.iconst 3, 1) := by decide +kernel
theorem dX9_type_7 : decode cX9_type 7 = .ok (.if_icmp .le 7, 3) := by decide +kernel
theorem dX9_type_10 : decode cX9_type 10 = .ok (.iconst 1, 1) := by decide +kernel
theorem dX9_type_11 : decode cX9_type 11 = .ok (.goto 17, 3) := by decide +kernel
theorem dX9_type_14 : decode cX9_type 14 = .ok (.aload_n 0, 1) := by decide +kernel
theorem dX9_type_15 : decode cX9_type 15 = .ok (.getfield 109, 3) := by decide +kernel
theorem dX9_type_18 : decode cX9_type 18 = .ok (.bipush 6, 2) := by decide +kernel
theorem dX9_type_20 : decode cX9_type 20 = .ok (.if_icmp .ne 7, 3) := by decide +kernel
theorem dX9_type_23 : decode cX9_type 23 = .ok (.iconst 2, 1) := by decide +kernel
theorem dX9_type_24 : decode cX9_type 24 = .ok (.goto 4, 3) := by decide +kernel
theorem dX9_type_27 : decode cX9_type 27 = .ok (.iconst 0, 1) := by decide +kernel
theorem dX9_type_28 : decode cX9_type 28 = .ok (.putfield 97, 3) := by decide +kernel
theorem dX9_type_31 : decode cX9_type 31 = .ok (.aload_n 0, 1) := by decide +kernel
theorem dX9_type_32 : decode cX9_type 32 = .ok (.getfield 97, 3) := by decide +kernel
theorem dX9_type_35 : decode cX9_type 35 = .ok (.ifCond .le 5, 3) := by decide +kernel
theorem dX9_type_38 : decode cX9_type 38 = .ok (.iconst 0, 1) := by decide +kernel
theorem dX9_type_39 : decode cX9_type 39 = .ok (.ireturn, 1) := by decide +kernel
theorem dX9_type_40 : decode cX9_type 40 = .ok (.aload_n 0, 1) := by decide +kernel
theorem dX9_type_41 : decode cX9_type 41 = .ok (.getfield 13, 3) := by decide +kernel
theorem dX9_type_44 : decode cX9_type 44 = .ok (.aload_n 0, 1) := by decide +kernel
theorem dX9_type_45 : decode cX9_type 45 = .ok (.getfield 109, 3) := by decide +kernel
theorem dX9_type_48 : decode cX9_type 48 = .ok (.iload_n 1, 1) := by decide +kernel
theorem dX9_type_49 : decode cX9_type 49 = .ok (.iastore, 1) := by decide +kernel
theorem dX9_type_50 : decode cX9_type 50 = .ok (.aload_n 0, 1) := by decide +kernel
theorem dX9_type_51 : decode cX9_type 51 = .ok (.getfield 17, 3) := by decide +kernel
theorem dX9_type_54 : decode cX9_type 54 = .ok (.aload_n 0, 1) := by decide +kernel
theorem dX9_type_55 : decode cX9_type 55 = .ok (.getfield 109, 3) := by decide +kernel
theorem dX9_type_58 : decode cX9_type 58 = .ok (.iload_n 2, 1) := by decide +kernel
theorem dX9_type_59 : decode cX9_type 59 = .ok (.bastore, 1) := by decide +kernel
theorem dX9_type_60 : decode cX9_type 60 = .ok (.aload_n 0, 1) := by decide +kernel
theorem dX9_type_61 : decode cX9_type 61 = .ok (.dup, 1) := by decide +kernel
theorem dX9_type_62 : decode cX9_type 62 = .ok (.getfield 109, 3) := by decide +kernel
theorem dX9_type_65 : decode cX9_type 65 = .ok (.iconst 1, 1) := by decide +kernel
theorem dX9_type_66 : decode cX9_type 66 = .ok (.iadd, 1) := by decide +kernel
theorem dX9_type_67 : decode cX9_type 67 = .ok (.putfield 109, 3) := by decide +kernel
theorem dX9_type_70 : decode cX9_type 70 = .ok (.aload_n 0, 1) := by decide +kernel
theorem dX9_type_71 : decode cX9_type 71 = .ok (.getfield 109, 3) := by decide +kernel
theorem dX9_type_74 : decode cX9_type 74 = .ok (.iconst 1, 1) := by decide +kernel
theorem dX9_type_75 : decode cX9_type 75 = .ok (.isub, 1) := by decide +kernel
theorem dX9_type_76 : decode cX9_type 76 = .ok (.ireturn, 1) := by decide +kernel
theorem dX9_begin_0 : decode cX9_begin 0 = .ok (.aload_n 0, 1) := by decide +kernel
theorem dX9_begin_1 : decode cX9_begin 1 = .ok (.iconst 0, 1) := by decide +kernel
theorem dX9_begin_2 : decode cX9_begin 2 = .ok (.putfield 97, 3) := by decide +kernel
theorem dX9_begin_5 : decode cX9_begin 5 = .ok (.iload_n 1, 1) := by decide +kernel
theorem dX9_begin_6 : decode cX9_begin 6 = .ok (.invokestatic 112, 3) := by decide +kernel
theorem dX9_begin_9 : decode cX9_begin 9 = .ok (.ifCond .eq 13, 3) := by decide +kernel
theorem dX9_begin_12 : decode cX9_begin 12 = .ok (.aload_n 0, 1) := by decide +kernel
theorem dX9_begin_13 : decode cX9_begin 13 = .ok (.getfield 27, 3) := by decide +kernel
theorem dX9_begin_16 : decode cX9_begin 16 = .ok (.iload_n 1, 1) := by decide +kernel
theorem dX9_begin_17 : decode cX9_begin 17 = .ok (.iaload, 1) := by decide +kernel
theorem dX9_begin_18 : decode cX9_begin 18 = .ok (.iconst 3, 1) := by decide +kernel
theorem dX9_begin_19 : decode cX9_begin 19 = .ok (.if_icmp .ne 5, 3) := by decide +kernel
theorem dX9_begin_22 : decode cX9_begin 22 = .ok (.iconst 0, 1) := by decide +kernel
theorem dX9_begin_23 : decode cX9_begin 23 = .ok (.ireturn, 1) := by decide +kernel
theorem dX9_begin_24 : decode cX9_begin 24 = .ok (.aload_n 0, 1) := by decide +kernel
theorem dX9_begin_25 : decode cX9_begin 25 = .ok (.getfield 30, 3) := by decide +kernel
theorem dX9_begin_28 : decode cX9_begin 28 = .ok (.iconst 3, 1) := by decide +kernel
theorem dX9_begin_29 : decode cX9_begin 29 = .ok (.iload_n 1, 1) := by decide +kernel
theorem dX9_begin_30 : decode cX9_begin 30 = .ok (.imul, 1) := by decide +kernel
theorem dX9_begin_31 : decode cX9_begin 31 = .ok (.aload_n 0, 1) := by decide +kernel
theorem dX9_begin_32 : decode cX9_begin 32 = .ok (.getfield 27, 3) := by decide +kernel
theorem dX9_begin_35 : decode cX9_begin 35 = .ok (.iload_n 1, 1) := by decide +kernel
theorem dX9_begin_36 : decode cX9_begin 36 = .ok (.iaload, 1) := by decide +kernel
theorem dX9_begin_37 : decode cX9_begin 37 = .ok (.iadd, 1) := by decide +kernel
theorem dX9_begin_38 : decode cX9_begin 38 = .ok (.aload_n 0, 1) := by decide +kernel
theorem dX9_begin_39 : decode cX9_begin 39 = .ok (.getfield 106, 3) := by decide +kernel
theorem dX9_begin_42 : decode cX9_begin 42 = .ok (.iastore, 1) := by decide +kernel
theorem dX9_begin_43 : decode cX9_begin 43 = .ok (.aload_n 0, 1) := by decide +kernel
theorem dX9_begin_44 : decode cX9_begin 44 = .ok (.getfield 27, 3) := by decide +kernel
theorem dX9_begin_47 : decode cX9_begin 47 = .ok (.iload_n 1, 1) := by decide +kernel
theorem dX9_begin_48 : decode cX9_begin 48 = .ok (.dup2, 1) := by decide +kernel
theorem dX9_begin_49 : decode cX9_begin 49 = .ok (.iaload, 1) := by decide +kernel
theorem dX9_begin_50 : decode cX9_begin 50 = .ok (.iconst 1, 1) := by decide +kernel
theorem dX9_begin_51 : decode cX9_begin 51 = .ok (.iadd, 1) := by decide +kernel
theorem dX9_begin_52 : decode cX9_begin 52 = .ok (.iastore, 1) := by decide +kernel
theorem dX9_begin_53 : decode cX9_begin 53 = .ok (.iconst 1, 1) := by decide +kernel
theorem dX9_begin_54 : decode cX9_begin 54 = .ok (.ireturn, 1) := by decide +kernel
theorem dX9_variable_0 : decode cX9_variable 0 = .ok (.iload_n 1, 1) := by decide +kernel
theorem dX9_variable_1 : decode cX9_variable 1 = .ok (.istore_n 2, 1) := by decide +kernel
theorem dX9_variable_2 : decode cX9_variable 2 = .ok (.iconst 0, 1) := by decide +kernel
theorem dX9_variable_3 : decode cX9_variable 3 = .ok (.istore_n 3, 1) := by decide +kernel
theorem dX9_variable_4 : decode cX9_variable 4 = .ok (.iload_n 3, 1) := by decide +kernel
theorem dX9_variable_5 : decode cX9_variable 5 = .ok (.iconst 5, 1) := by decide +kernel
theorem dX9_variable_6 : decode cX9_variable 6 = .ok (.if_icmp .ge 60, 3) := by decide +kernel
theorem dX9_variable_9 : decode cX9_variable 9 = .ok (.iload_n 2, 1) := by decide +kernel
theorem dX9_variable_10 : decode cX9_variable 10 = .ok (.bipush 7, 2) := by decide +kernel
theorem dX9_variable_12 : decode cX9_variable 12 = .ok (.iushr, 1) := by decide +kernel
theorem dX9_variable_13 : decode cX9_variable 13 = .ok (.istore 4, 2) := by decide +kernel
theorem dX9_variable_15 : decode cX9_variable 15 = .ok (.aload_n 0, 1) := by decide +kernel
theorem dX9_variable_16 : decode cX9_variable 16 = .ok (.getfield 84, 3) := by decide +kernel
theorem dX9_variable_19 : decode cX9_variable 19 = .ok (.aload_n 0, 1) := by decide +kernel
theorem dX9_variable_20 : decode cX9_variable 20 = .ok (.getfield 116, 3) := by decide +kernel
theorem dX9_variable_23 : decode cX9_variable 23 = .ok (.iload_n 2, 1) := by decide +kernel
theorem dX9_variable_24 : decode cX9_variable 24 = .ok (.bipush 127, 2) := by decide +kernel
theorem dX9_variable_26 : decode cX9_variable 26 = .ok (.iand, 1) := by decide +kernel
theorem dX9_variable_27 : decode cX9_variable 27 = .ok (.iload 4, 2) := by decide +kernel
theorem dX9_variable_29 : decode cX9_variable 29 = .ok (.ifCond .eq 9, 3) := by decide +kernel
theorem dX9_variable_32 : decode cX9_variable 32 = .ok (.sipush 128, 3) := by decide +kernel
theorem dX9_variable_35 : decode cX9_variable 35 = .ok (.goto 4, 3) := by decide +kernel
theorem dX9_variable_38 : decode cX9_variable 38 = .ok (.iconst 0, 1) := by decide +kernel
theorem dX9_variable_39 : decode cX9_variable 39 = .ok (.iadd, 1) := by decide +kernel
theorem dX9_variable_40 : decode cX9_variable 40 = .ok (.iastore, 1) := by decide +kernel
theorem dX9_variable_41 : decode cX9_variable 41 = .ok (.aload_n 0, 1) := by decide +kernel
theorem dX9_variable_42 : decode cX9_variable 42 = .ok (.dup, 1) := by decide +kernel
theorem dX9_variable_43 : decode cX9_variable 43 = .ok (.getfield 116, 3) := by decide +kernel
theorem dX9_variable_46 : decode cX9_variable 46 = .ok (.iconst 1, 1) := by decide +kernel
theorem dX9_variable_47 : decode cX9_variable 47 = .ok (.iadd, 1) := by decide +kernel
theorem dX9_variable_48 : decode cX9_variable 48 = .ok (.putfield 116, 3) := by decide +kernel
theorem dX9_variable_51 : decode cX9_variable 51 = .ok (.iload 4, 2) := by decide +kernel
theorem dX9_variable_53 : decode cX9_variable 53 = .ok (.istore_n 2, 1) := by decide +kernel
theorem dX9_variable_54 : decode cX9_variable 54 = .ok (.iload 4, 2) := by decide +kernel
theorem dX9_variable_56 : decode cX9_variable 56 = .ok (.ifCond .ne 4, 3) := by decide +kernel
theorem dX9_variable_59 : decode cX9_variable 59 = .ok (.return_, 1) := by decide +kernel
theorem dX9_variable_60 : decode cX9_variable 60 = .ok (.iinc 3 1, 3) := by decide +kernel
theorem dX9_variable_63 : decode cX9_variable 63 = .ok (.goto (-59), 3) := by decide +kernel
theorem dX9_variable_66 : decode cX9_variable 66 = .ok (.return_, 1) := by decide +kernel
theorem dX9_width_0 : decode cX9_width 0 = .ok (.iconst 1, 1) := by decide +kernel
theorem dX9_width_1 : decode cX9_width 1 = .ok (.istore_n 1, 1) := by decide +kernel
theorem dX9_width_2 : decode cX9_width 2 = .ok (.iload_n 0, 1) := by decide +kernel
theorem dX9_width_3 : decode cX9_width 3 = .ok (.bipush 7, 2) := by decide +kernel
theorem dX9_width_5 : decode cX9_width 5 = .ok (.iushr, 1) := by decide +kernel
theorem dX9_width_6 : decode cX9_width 6 = .ok (.istore_n 2, 1) := by decide +kernel
theorem dX9_width_7 : decode cX9_width 7 = .ok (.iload_n 2, 1) := by decide +kernel
theorem dX9_width_8 : decode cX9_width 8 = .ok (.ifCond .eq 14, 3) := by decide +kernel
theorem dX9_width_11 : decode cX9_width 11 = .ok (.iinc 1 1, 3) := by decide +kernel
theorem dX9_width_14 : decode cX9_width 14 = .ok (.iload_n 2, 1) := by decide +kernel
theorem dX9_width_15 : decode cX9_width 15 = .ok (.bipush 7, 2) := by decide +kernel
theorem dX9_width_17 : decode cX9_width 17 = .ok (.iushr, 1) := by decide +kernel
theorem dX9_width_18 : decode cX9_width 18 = .ok (.istore_n 2, 1) := by decide +kernel
theorem dX9_width_19 : decode cX9_width 19 = .ok (.goto (-12), 3) := by decide +kernel
theorem dX9_width_22 : decode cX9_width 22 = .ok (.iload_n 1, 1) := by decide +kernel
theorem dX9_width_23 : decode cX9_width 23 = .ok (.ireturn, 1) := by decide +kernel
theorem dX9_zigzag_0 : decode cX9_zigzag 0 = .ok (.iload_n 0, 1) := by decide +kernel
theorem dX9_zigzag_1 : decode cX9_zigzag 1 = .ok (.ifCond .ge 12, 3) := by decide +kernel
theorem dX9_zigzag_4 : decode cX9_zigzag 4 = .ok (.bipush (-2), 2) := by decide +kernel
theorem dX9_zigzag_6 : decode cX9_zigzag 6 = .ok (.iload_n 0, 1) := by decide +kernel
theorem dX9_zigzag_7 : decode cX9_zigzag 7 = .ok (.imul, 1) := by decide +kernel
theorem dX9_zigzag_8 : decode cX9_zigzag 8 = .ok (.iconst 1, 1) := by decide +kernel
theorem dX9_zigzag_9 : decode cX9_zigzag 9 = .ok (.isub, 1) := by decide +kernel
theorem dX9_zigzag_10 : decode cX9_zigzag 10 = .ok (.goto 6, 3) := by decide +kernel
theorem dX9_zigzag_13 : decode cX9_zigzag 13 = .ok (.iconst 2, 1) := by decide +kernel
theorem dX9_zigzag_14 : decode cX9_zigzag 14 = .ok (.iload_n 0, 1) := by decide +kernel
theorem dX9_zigzag_15 : decode cX9_zigzag 15 = .ok (.imul, 1) := by decide +kernel
theorem dX9_zigzag_16 : decode cX9_zigzag 16 = .ok (.ireturn, 1) := by decide +kernel
theorem dX9_stringOf_0 : decode cX9_stringOf 0 = .ok (.iconst 0, 1) := by decide +kernel
theorem dX9_stringOf_1 : decode cX9_stringOf 1 = .ok (.istore_n 2, 1) := by decide +kernel
theorem dX9_stringOf_2 : decode cX9_stringOf 2 = .ok (.iload_n 2, 1) := by decide +kernel
theorem dX9_stringOf_3 : decode cX9_stringOf 3 = .ok (.aload_n 0, 1) := by decide +kernel
theorem dX9_stringOf_4 : decode cX9_stringOf 4 = .ok (.getfield 119, 3) := by decide +kernel
theorem dX9_stringOf_7 : decode cX9_stringOf 7 = .ok (.if_icmp .ge 78, 3) := by decide +kernel
theorem dX9_stringOf_10 : decode cX9_stringOf 10 = .ok (.aload_n 0, 1) := by decide +kernel
theorem dX9_stringOf_11 : decode cX9_stringOf 11 = .ok (.getfield 24, 3) := by decide +kernel
theorem dX9_stringOf_14 : decode cX9_stringOf 14 = .ok (.iload_n 2, 1) := by decide +kernel
theorem dX9_stringOf_15 : decode cX9_stringOf 15 = .ok (.iaload, 1) := by decide +kernel
theorem dX9_stringOf_16 : decode cX9_stringOf 16 = .ok (.iload_n 1, 1) := by decide +kernel
theorem dX9_stringOf_17 : decode cX9_stringOf 17 = .ok (.if_icmp .ne 7, 3) := by decide +kernel
theorem dX9_stringOf_20 : decode cX9_stringOf 20 = .ok (.iconst 1, 1) := by decide +kernel
theorem dX9_stringOf_21 : decode cX9_stringOf 21 = .ok (.goto 4, 3) := by decide +kernel
theorem dX9_stringOf_24 : decode cX9_stringOf 24 = .ok (.iconst 0, 1) := by decide +kernel
theorem dX9_stringOf_25 : decode cX9_stringOf 25 = .ok (.istore_n 3, 1) := by decide +kernel
theorem dX9_stringOf_26 : decode cX9_stringOf 26 = .ok (.iconst 0, 1) := by decide +kernel
theorem dX9_stringOf_27 : decode cX9_stringOf 27 = .ok (.istore 4, 2) := by decide +kernel
theorem dX9_stringOf_29 : decode cX9_stringOf 29 = .ok (.iload 4, 2) := by decide +kernel
theorem dX9_stringOf_31 : decode cX9_stringOf 31 = .ok (.iload_n 1, 1) := by decide +kernel
theorem dX9_stringOf_32 : decode cX9_stringOf 32 = .ok (.if_icmp .ge 41, 3) := by decide +kernel
theorem dX9_stringOf_35 : decode cX9_stringOf 35 = .ok (.iload_n 3, 1) := by decide +kernel
theorem dX9_stringOf_36 : decode cX9_stringOf 36 = .ok (.ifCond .eq 37, 3) := by decide +kernel
theorem dX9_stringOf_39 : decode cX9_stringOf 39 = .ok (.aload_n 0, 1) := by decide +kernel
theorem dX9_stringOf_40 : decode cX9_stringOf 40 = .ok (.getfield 21, 3) := by decide +kernel
theorem dX9_stringOf_43 : decode cX9_stringOf 43 = .ok (.bipush 8, 2) := by decide +kernel
theorem dX9_stringOf_45 : decode cX9_stringOf 45 = .ok (.iload_n 2, 1) := by decide +kernel
theorem dX9_stringOf_46 : decode cX9_stringOf 46 = .ok (.imul, 1) := by decide +kernel
theorem dX9_stringOf_47 : decode cX9_stringOf 47 = .ok (.iload 4, 2) := by decide +kernel
theorem dX9_stringOf_49 : decode cX9_stringOf 49 = .ok (.iadd, 1) := by decide +kernel
theorem dX9_stringOf_50 : decode cX9_stringOf 50 = .ok (.caload, 1) := by decide +kernel
theorem dX9_stringOf_51 : decode cX9_stringOf 51 = .ok (.aload_n 0, 1) := by decide +kernel
theorem dX9_stringOf_52 : decode cX9_stringOf 52 = .ok (.getfield 7, 3) := by decide +kernel
theorem dX9_stringOf_55 : decode cX9_stringOf 55 = .ok (.iload 4, 2) := by decide +kernel
theorem dX9_stringOf_57 : decode cX9_stringOf 57 = .ok (.caload, 1) := by decide +kernel
theorem dX9_stringOf_58 : decode cX9_stringOf 58 = .ok (.if_icmp .ne 7, 3) := by decide +kernel
theorem dX9_stringOf_61 : decode cX9_stringOf 61 = .ok (.iconst 1, 1) := by decide +kernel
theorem dX9_stringOf_62 : decode cX9_stringOf 62 = .ok (.goto 4, 3) := by decide +kernel
theorem dX9_stringOf_65 : decode cX9_stringOf 65 = .ok (.iconst 0, 1) := by decide +kernel
theorem dX9_stringOf_66 : decode cX9_stringOf 66 = .ok (.istore_n 3, 1) := by decide +kernel
theorem dX9_stringOf_67 : decode cX9_stringOf 67 = .ok (.iinc 4 1, 3) := by decide +kernel
theorem dX9_stringOf_70 : decode cX9_stringOf 70 = .ok (.goto (-41), 3) := by decide +kernel
theorem dX9_stringOf_73 : decode cX9_stringOf 73 = .ok (.iload_n 3, 1) := by decide +kernel
theorem dX9_stringOf_74 : decode cX9_stringOf 74 = .ok (.ifCond .eq 5, 3) := by decide +kernel
theorem dX9_stringOf_77 : decode cX9_stringOf 77 = .ok (.iload_n 2, 1) := by decide +kernel
theorem dX9_stringOf_78 : decode cX9_stringOf 78 = .ok (.ireturn, 1) := by decide +kernel
theorem dX9_stringOf_79 : decode cX9_stringOf 79 = .ok (.iinc 2 1, 3) := by decide +kernel
theorem dX9_stringOf_82 : decode cX9_stringOf 82 = .ok (.goto (-80), 3) := by decide +kernel
theorem dX9_stringOf_85 : decode cX9_stringOf 85 = .ok (.iconst (-1), 1) := by decide +kernel
theorem dX9_stringOf_86 : decode cX9_stringOf 86 = .ok (.ireturn, 1) := by decide +kernel
theorem dX9_unwanted_0 : decode cX9_unwanted 0 = .ok (.iconst 0, 1) := by decide +kernel
theorem dX9_unwanted_1 : decode cX9_unwanted 1 = .ok (.istore_n 3, 1) := by decide +kernel
theorem dX9_unwanted_2 : decode cX9_unwanted 2 = .ok (.iconst 0, 1) := by decide +kernel
theorem dX9_unwanted_3 : decode cX9_unwanted 3 = .ok (.istore 4, 2) := by decide +kernel
theorem dX9_unwanted_5 : decode cX9_unwanted 5 = .ok (.iload 4, 2) := by decide +kernel
theorem dX9_unwanted_7 : decode cX9_unwanted 7 = .ok (.aload_n 0, 1) := by decide +kernel
theorem dX9_unwanted_8 : decode cX9_unwanted 8 = .ok (.getfield 100, 3) := by decide +kernel
theorem dX9_unwanted_11 : decode cX9_unwanted 11 = .ok (.if_icmp .ge 55, 3) := by decide +kernel
theorem dX9_unwanted_14 : decode cX9_unwanted 14 = .ok (.aload_n 0, 1) := by decide +kernel
theorem dX9_unwanted_15 : decode cX9_unwanted 15 = .ok (.getfield 66, 3) := by decide +kernel
theorem dX9_unwanted_18 : decode cX9_unwanted 18 = .ok (.iload 4, 2) := by decide +kernel
theorem dX9_unwanted_20 : decode cX9_unwanted 20 = .ok (.iaload, 1) := by decide +kernel
theorem dX9_unwanted_21 : decode cX9_unwanted 21 = .ok (.iconst 1, 1) := by decide +kernel
theorem dX9_unwanted_22 : decode cX9_unwanted 22 = .ok (.if_icmp .ne 38, 3) := by decide +kernel
theorem dX9_unwanted_25 : decode cX9_unwanted 25 = .ok (.aload_n 0, 1) := by decide +kernel
theorem dX9_unwanted_26 : decode cX9_unwanted 26 = .ok (.getfield 69, 3) := by decide +kernel
theorem dX9_unwanted_29 : decode cX9_unwanted 29 = .ok (.bipush 6, 2) := by decide +kernel
theorem dX9_unwanted_31 : decode cX9_unwanted 31 = .ok (.iload 4, 2) := by decide +kernel
theorem dX9_unwanted_33 : decode cX9_unwanted 33 = .ok (.imul, 1) := by decide +kernel
theorem dX9_unwanted_34 : decode cX9_unwanted 34 = .ok (.iload_n 1, 1) := by decide +kernel
theorem dX9_unwanted_35 : decode cX9_unwanted 35 = .ok (.iadd, 1) := by decide +kernel
theorem dX9_unwanted_36 : decode cX9_unwanted 36 = .ok (.baload, 1) := by decide +kernel
theorem dX9_unwanted_37 : decode cX9_unwanted 37 = .ok (.ifCond .ne 23, 3) := by decide +kernel
theorem dX9_unwanted_40 : decode cX9_unwanted 40 = .ok (.iconst 1, 1) := by decide +kernel
theorem dX9_unwanted_41 : decode cX9_unwanted 41 = .ok (.istore_n 3, 1) := by decide +kernel
theorem dX9_unwanted_42 : decode cX9_unwanted 42 = .ok (.iload_n 2, 1) := by decide +kernel
theorem dX9_unwanted_43 : decode cX9_unwanted 43 = .ok (.aload_n 0, 1) := by decide +kernel
theorem dX9_unwanted_44 : decode cX9_unwanted 44 = .ok (.getfield 72, 3) := by decide +kernel
theorem dX9_unwanted_47 : decode cX9_unwanted 47 = .ok (.bipush 6, 2) := by decide +kernel
theorem dX9_unwanted_49 : decode cX9_unwanted 49 = .ok (.iload 4, 2) := by decide +kernel
theorem dX9_unwanted_51 : decode cX9_unwanted 51 = .ok (.imul, 1) := by decide +kernel
theorem dX9_unwanted_52 : decode cX9_unwanted 52 = .ok (.iload_n 1, 1) := by decide +kernel
theorem dX9_unwanted_53 : decode cX9_unwanted 53 = .ok (.iadd, 1) := by decide +kernel
theorem dX9_unwanted_54 : decode cX9_unwanted 54 = .ok (.iaload, 1) := by decide +kernel
theorem dX9_unwanted_55 : decode cX9_unwanted 55 = .ok (.if_icmp .lt 5, 3) := by decide +kernel
theorem dX9_unwanted_58 : decode cX9_unwanted 58 = .ok (.iconst 0, 1) := by decide +kernel
theorem dX9_unwanted_59 : decode cX9_unwanted 59 = .ok (.ireturn, 1) := by decide +kernel
theorem dX9_unwanted_60 : decode cX9_unwanted 60 = .ok (.iinc 4 1, 3) := by decide +kernel
theorem dX9_unwanted_63 : decode cX9_unwanted 63 = .ok (.goto (-58), 3) := by decide +kernel
theorem dX9_unwanted_66 : decode cX9_unwanted 66 = .ok (.iload_n 3, 1) := by decide +kernel
theorem dX9_unwanted_67 : decode cX9_unwanted 67 = .ok (.ifCond .eq 7, 3) := by decide +kernel
theorem dX9_unwanted_70 : decode cX9_unwanted 70 = .ok (.iconst 3, 1) := by decide +kernel
theorem dX9_unwanted_71 : decode cX9_unwanted 71 = .ok (.goto 4, 3) := by decide +kernel
theorem dX9_unwanted_74 : decode cX9_unwanted 74 = .ok (.iconst 2, 1) := by decide +kernel
theorem dX9_unwanted_75 : decode cX9_unwanted 75 = .ok (.ireturn, 1) := by decide +kernel
theorem dX9_commit_0 : decode cX9_commit 0 = .ok (.aload_n 0, 1) := by decide +kernel
theorem dX9_commit_1 : decode cX9_commit 1 = .ok (.iconst 0, 1) := by decide +kernel
theorem dX9_commit_2 : decode cX9_commit 2 = .ok (.putfield 97, 3) := by decide +kernel
theorem dX9_commit_5 : decode cX9_commit 5 = .ok (.iload_n 1, 1) := by decide +kernel
theorem dX9_commit_6 : decode cX9_commit 6 = .ok (.invokestatic 112, 3) := by decide +kernel
theorem dX9_commit_9 : decode cX9_commit 9 = .ok (.ifCond .eq 15, 3) := by decide +kernel
theorem dX9_commit_12 : decode cX9_commit 12 = .ok (.iload_n 2, 1) := by decide +kernel
theorem dX9_commit_13 : decode cX9_commit 13 = .ok (.ifCond .lt 11, 3) := by decide +kernel
theorem dX9_commit_16 : decode cX9_commit 16 = .ok (.iload_n 2, 1) := by decide +kernel
theorem dX9_commit_17 : decode cX9_commit 17 = .ok (.aload_n 0, 1) := by decide +kernel
theorem dX9_commit_18 : decode cX9_commit 18 = .ok (.getfield 109, 3) := by decide +kernel
theorem dX9_commit_21 : decode cX9_commit 21 = .ok (.if_icmp .lt 5, 3) := by decide +kernel
theorem dX9_commit_24 : decode cX9_commit 24 = .ok (.iconst (-1), 1) := by decide +kernel
theorem dX9_commit_25 : decode cX9_commit 25 = .ok (.ireturn, 1) := by decide +kernel
theorem dX9_commit_26 : decode cX9_commit 26 = .ok (.aload_n 0, 1) := by decide +kernel
theorem dX9_commit_27 : decode cX9_commit 27 = .ok (.getfield 103, 3) := by decide +kernel
theorem dX9_commit_30 : decode cX9_commit 30 = .ok (.bipush 8, 2) := by decide +kernel
theorem dX9_commit_32 : decode cX9_commit 32 = .ok (.if_icmp .ge 10, 3) := by decide +kernel
theorem dX9_commit_35 : decode cX9_commit 35 = .ok (.aload_n 0, 1) := by decide +kernel
theorem dX9_commit_36 : decode cX9_commit 36 = .ok (.getfield 103, 3) := by decide +kernel
theorem dX9_commit_39 : decode cX9_commit 39 = .ok (.goto 5, 3) := by decide +kernel
theorem dX9_commit_42 : decode cX9_commit 42 = .ok (.bipush 8, 2) := by decide +kernel
theorem dX9_commit_44 : decode cX9_commit 44 = .ok (.istore 6, 2) := by decide +kernel
theorem dX9_commit_46 : decode cX9_commit 46 = .ok (.aload_n 0, 1) := by decide +kernel
theorem dX9_commit_47 : decode cX9_commit 47 = .ok (.getfield 17, 3) := by decide +kernel
theorem dX9_commit_50 : decode cX9_commit 50 = .ok (.iload_n 2, 1) := by decide +kernel
theorem dX9_commit_51 : decode cX9_commit 51 = .ok (.baload, 1) := by decide +kernel
theorem dX9_commit_52 : decode cX9_commit 52 = .ok (.istore 7, 2) := by decide +kernel
theorem dX9_commit_54 : decode cX9_commit 54 = .ok (.aload_n 0, 1) := by decide +kernel
theorem dX9_commit_55 : decode cX9_commit 55 = .ok (.iload 7, 2) := by decide +kernel
theorem dX9_commit_57 : decode cX9_commit 57 = .ok (.ifCond .eq 7, 3) := by decide +kernel
theorem dX9_commit_60 : decode cX9_commit 60 = .ok (.iconst 0, 1) := by decide +kernel
theorem dX9_commit_61 : decode cX9_commit 61 = .ok (.goto 7, 3) := by decide +kernel
theorem dX9_commit_64 : decode cX9_commit 64 = .ok (.aload_n 0, 1) := by decide +kernel
theorem dX9_commit_65 : decode cX9_commit 65 = .ok (.getfield 103, 3) := by decide +kernel
theorem dX9_commit_68 : decode cX9_commit 68 = .ok (.putfield 103, 3) := by decide +kernel
theorem dX9_commit_71 : decode cX9_commit 71 = .ok (.aload_n 0, 1) := by decide +kernel
theorem dX9_commit_72 : decode cX9_commit 72 = .ok (.getfield 27, 3) := by decide +kernel
theorem dX9_commit_75 : decode cX9_commit 75 = .ok (.iload_n 1, 1) := by decide +kernel
theorem dX9_commit_76 : decode cX9_commit 76 = .ok (.iaload, 1) := by decide +kernel
theorem dX9_commit_77 : decode cX9_commit 77 = .ok (.ifCond .ne 5, 3) := by decide +kernel
theorem dX9_commit_80 : decode cX9_commit 80 = .ok (.iconst 1, 1) := by decide +kernel
theorem dX9_commit_81 : decode cX9_commit 81 = .ok (.ireturn, 1) := by decide +kernel
theorem dX9_commit_82 : decode cX9_commit 82 = .ok (.aload_n 0, 1) := by decide +kernel
theorem dX9_commit_83 : decode cX9_commit 83 = .ok (.getfield 27, 3) := by decide +kernel
theorem dX9_commit_86 : decode cX9_commit 86 = .ok (.iload_n 1, 1) := by decide +kernel
theorem dX9_commit_87 : decode cX9_commit 87 = .ok (.dup2, 1) := by decide +kernel
theorem dX9_commit_88 : decode cX9_commit 88 = .ok (.iaload, 1) := by decide +kernel
theorem dX9_commit_89 : decode cX9_commit 89 = .ok (.iconst 1, 1) := by decide +kernel
theorem dX9_commit_90 : decode cX9_commit 90 = .ok (.isub, 1) := by decide +kernel
theorem dX9_commit_91 : decode cX9_commit 91 = .ok (.iastore, 1) := by decide +kernel
theorem dX9_commit_92 : decode cX9_commit 92 = .ok (.aload_n 0, 1) := by decide +kernel
theorem dX9_commit_93 : decode cX9_commit 93 = .ok (.getfield 30, 3) := by decide +kernel
theorem dX9_commit_96 : decode cX9_commit 96 = .ok (.iconst 3, 1) := by decide +kernel
theorem dX9_commit_97 : decode cX9_commit 97 = .ok (.iload_n 1, 1) := by decide +kernel
theorem dX9_commit_98 : decode cX9_commit 98 = .ok (.imul, 1) := by decide +kernel
theorem dX9_commit_99 : decode cX9_commit 99 = .ok (.aload_n 0, 1) := by decide +kernel
theorem dX9_commit_100 : decode cX9_commit 100 = .ok (.getfield 27, 3) := by decide +kernel
theorem dX9_commit_103 : decode cX9_commit 103 = .ok (.iload_n 1, 1) := by decide +kernel
theorem dX9_commit_104 : decode cX9_commit 104 = .ok (.iaload, 1) := by decide +kernel
theorem dX9_commit_105 : decode cX9_commit 105 = .ok (.iadd, 1) := by decide +kernel
theorem dX9_commit_106 : decode cX9_commit 106 = .ok (.iaload, 1) := by decide +kernel
theorem dX9_commit_107 : decode cX9_commit 107 = .ok (.istore 8, 2) := by decide +kernel
theorem dX9_commit_109 : decode cX9_commit 109 = .ok (.aload_n 0, 1) := by decide +kernel
theorem dX9_commit_110 : decode cX9_commit 110 = .ok (.iload_n 2, 1) := by decide +kernel
theorem dX9_commit_111 : decode cX9_commit 111 = .ok (.aload_n 0, 1) := by decide +kernel
theorem dX9_commit_112 : decode cX9_commit 112 = .ok (.getfield 106, 3) := by decide +kernel
theorem dX9_commit_115 : decode cX9_commit 115 = .ok (.iload 8, 2) := by decide +kernel
theorem dX9_commit_117 : decode cX9_commit 117 = .ok (.isub, 1) := by decide +kernel
theorem dX9_commit_118 : decode cX9_commit 118 = .ok (.invokevirtual 122, 3) := by decide +kernel
theorem dX9_commit_121 : decode cX9_commit 121 = .ok (.istore 9, 2) := by decide +kernel
theorem dX9_commit_123 : decode cX9_commit 123 = .ok (.iload 9, 2) := by decide +kernel
theorem dX9_commit_125 : decode cX9_commit 125 = .ok (.ifCond .le 6, 3) := by decide +kernel
theorem dX9_commit_128 : decode cX9_commit 128 = .ok (.iload 9, 2) := by decide +kernel
theorem dX9_commit_130 : decode cX9_commit 130 = .ok (.ireturn, 1) := by decide +kernel
theorem dX9_commit_131 : decode cX9_commit 131 = .ok (.iload 7, 2) := by decide +kernel
theorem dX9_commit_133 : decode cX9_commit 133 = .ok (.ifCond .eq 12, 3) := by decide +kernel
theorem dX9_commit_136 : decode cX9_commit 136 = .ok (.aload_n 0, 1) := by decide +kernel
theorem dX9_commit_137 : decode cX9_commit 137 = .ok (.iload 6, 2) := by decide +kernel
theorem dX9_commit_139 : decode cX9_commit 139 = .ok (.invokevirtual 126, 3) := by decide +kernel
theorem dX9_commit_142 : decode cX9_commit 142 = .ok (.goto 4, 3) := by decide +kernel
theorem dX9_commit_145 : decode cX9_commit 145 = .ok (.iconst 0, 1) := by decide +kernel
theorem dX9_commit_146 : decode cX9_commit 146 = .ok (.istore 10, 2) := by decide +kernel
theorem dX9_commit_148 : decode cX9_commit 148 = .ok (.iload 10, 2) := by decide +kernel
theorem dX9_commit_150 : decode cX9_commit 150 = .ok (.ifCond .ge 10, 3) := by decide +kernel
theorem dX9_commit_153 : decode cX9_commit 153 = .ok (.aload_n 0, 1) := by decide +kernel
theorem dX9_commit_154 : decode cX9_commit 154 = .ok (.getfield 119, 3) := by decide +kernel
theorem dX9_commit_157 : decode cX9_commit 157 = .ok (.goto 5, 3) := by decide +kernel
theorem dX9_commit_160 : decode cX9_commit 160 = .ok (.iload 10, 2) := by decide +kernel
theorem dX9_commit_162 : decode cX9_commit 162 = .ok (.istore 11, 2) := by decide +kernel
theorem dX9_commit_164 : decode cX9_commit 164 = .ok (.iload_n 2, 1) := by decide +kernel
theorem dX9_commit_165 : decode cX9_commit 165 = .ok (.invokestatic 130, 3) := by decide +kernel
theorem dX9_commit_168 : decode cX9_commit 168 = .ok (.iload 8, 2) := by decide +kernel
theorem dX9_commit_170 : decode cX9_commit 170 = .ok (.invokestatic 130, 3) := by decide +kernel
theorem dX9_commit_173 : decode cX9_commit 173 = .ok (.iadd, 1) := by decide +kernel
theorem dX9_commit_174 : decode cX9_commit 174 = .ok (.aload_n 0, 1) := by decide +kernel
theorem dX9_commit_175 : decode cX9_commit 175 = .ok (.getfield 106, 3) := by decide +kernel
theorem dX9_commit_178 : decode cX9_commit 178 = .ok (.iload 8, 2) := by decide +kernel
theorem dX9_commit_180 : decode cX9_commit 180 = .ok (.isub, 1) := by decide +kernel
theorem dX9_commit_181 : decode cX9_commit 181 = .ok (.invokestatic 130, 3) := by decide +kernel
theorem dX9_commit_184 : decode cX9_commit 184 = .ok (.iadd, 1) := by decide +kernel
theorem dX9_commit_185 : decode cX9_commit 185 = .ok (.iload 7, 2) := by decide +kernel
theorem dX9_commit_187 : decode cX9_commit 187 = .ok (.ifCond .eq 11, 3) := by decide +kernel
theorem dX9_commit_190 : decode cX9_commit 190 = .ok (.iload 11, 2) := by decide +kernel
theorem dX9_commit_192 : decode cX9_commit 192 = .ok (.invokestatic 130, 3) := by decide +kernel
theorem dX9_commit_195 : decode cX9_commit 195 = .ok (.goto 4, 3) := by decide +kernel
theorem dX9_commit_198 : decode cX9_commit 198 = .ok (.iconst 0, 1) := by decide +kernel
theorem dX9_commit_199 : decode cX9_commit 199 = .ok (.iadd, 1) := by decide +kernel
theorem dX9_commit_200 : decode cX9_commit 200 = .ok (.istore 12, 2) := by decide +kernel
theorem dX9_commit_202 : decode cX9_commit 202 = .ok (.iconst 0, 1) := by decide +kernel
theorem dX9_commit_203 : decode cX9_commit 203 = .ok (.istore 13, 2) := by decide +kernel
theorem dX9_commit_205 : decode cX9_commit 205 = .ok (.iload 13, 2) := by decide +kernel
theorem dX9_commit_207 : decode cX9_commit 207 = .ok (.aload_n 0, 1) := by decide +kernel
theorem dX9_commit_208 : decode cX9_commit 208 = .ok (.getfield 13, 3) := by decide +kernel
theorem dX9_commit_211 : decode cX9_commit 211 = .ok (.iload_n 2, 1) := by decide +kernel
theorem dX9_commit_212 : decode cX9_commit 212 = .ok (.iaload, 1) := by decide +kernel
theorem dX9_commit_213 : decode cX9_commit 213 = .ok (.if_icmp .ge 42, 3) := by decide +kernel
theorem dX9_commit_216 : decode cX9_commit 216 = .ok (.iload 12, 2) := by decide +kernel
theorem dX9_commit_218 : decode cX9_commit 218 = .ok (.iload 13, 2) := by decide +kernel
theorem dX9_commit_220 : decode cX9_commit 220 = .ok (.ifCond .ne 7, 3) := by decide +kernel
theorem dX9_commit_223 : decode cX9_commit 223 = .ok (.iload_n 3, 1) := by decide +kernel
theorem dX9_commit_224 : decode cX9_commit 224 = .ok (.goto 16, 3) := by decide +kernel
theorem dX9_commit_227 : decode cX9_commit 227 = .ok (.iload 13, 2) := by decide +kernel
theorem dX9_commit_229 : decode cX9_commit 229 = .ok (.iconst 1, 1) := by decide +kernel
theorem dX9_commit_230 : decode cX9_commit 230 = .ok (.if_icmp .ne 8, 3) := by decide +kernel
theorem dX9_commit_233 : decode cX9_commit 233 = .ok (.iload 4, 2) := by decide +kernel
theorem dX9_commit_235 : decode cX9_commit 235 = .ok (.goto 5, 3) := by decide +kernel
theorem dX9_commit_238 : decode cX9_commit 238 = .ok (.iload 5, 2) := by decide +kernel
theorem dX9_commit_240 : decode cX9_commit 240 = .ok (.invokestatic 133, 3) := by decide +kernel
theorem dX9_commit_243 : decode cX9_commit 243 = .ok (.invokestatic 130, 3) := by decide +kernel
theorem dX9_commit_246 : decode cX9_commit 246 = .ok (.iadd, 1) := by decide +kernel
theorem dX9_commit_247 : decode cX9_commit 247 = .ok (.istore 12, 2) := by decide +kernel
theorem dX9_commit_249 : decode cX9_commit 249 = .ok (.iinc 13 1, 3) := by decide +kernel
theorem dX9_commit_252 : decode cX9_commit 252 = .ok (.goto (-47), 3) := by decide +kernel
theorem dX9_commit_255 : decode cX9_commit 255 = .ok (.iload 12, 2) := by decide +kernel
theorem dX9_commit_257 : decode cX9_commit 257 = .ok (.invokestatic 130, 3) := by decide +kernel
theorem dX9_commit_260 : decode cX9_commit 260 = .ok (.iload 12, 2) := by decide +kernel
theorem dX9_commit_262 : decode cX9_commit 262 = .ok (.iadd, 1) := by decide +kernel
theorem dX9_commit_263 : decode cX9_commit 263 = .ok (.istore 13, 2) := by decide +kernel
theorem dX9_commit_265 : decode cX9_commit 265 = .ok (.aload_n 0, 1) := by decide +kernel
theorem dX9_commit_266 : decode cX9_commit 266 = .ok (.getfield 36, 3) := by decide +kernel
theorem dX9_commit_269 : decode cX9_commit 269 = .ok (.iload_n 1, 1) := by decide +kernel
theorem dX9_commit_270 : decode cX9_commit 270 = .ok (.iaload, 1) := by decide +kernel
theorem dX9_commit_271 : decode cX9_commit 271 = .ok (.iload 13, 2) := by decide +kernel
theorem dX9_commit_273 : decode cX9_commit 273 = .ok (.iadd, 1) := by decide +kernel
theorem dX9_commit_274 : decode cX9_commit 274 = .ok (.aload_n 0, 1) := by decide +kernel
theorem dX9_commit_275 : decode cX9_commit 275 = .ok (.getfield 87, 3) := by decide +kernel
theorem dX9_commit_278 : decode cX9_commit 278 = .ok (.if_icmp .le 7, 3) := by decide +kernel
theorem dX9_commit_281 : decode cX9_commit 281 = .ok (.iconst 1, 1) := by decide +kernel
theorem dX9_commit_282 : decode cX9_commit 282 = .ok (.goto 4, 3) := by decide +kernel
theorem dX9_commit_285 : decode cX9_commit 285 = .ok (.iconst 0, 1) := by decide +kernel
theorem dX9_commit_286 : decode cX9_commit 286 = .ok (.istore 14, 2) := by decide +kernel
theorem dX9_commit_288 : decode cX9_commit 288 = .ok (.iload 10, 2) := by decide +kernel
theorem dX9_commit_290 : decode cX9_commit 290 = .ok (.ifCond .ge 12, 3) := by decide +kernel
theorem dX9_commit_293 : decode cX9_commit 293 = .ok (.aload_n 0, 1) := by decide +kernel
theorem dX9_commit_294 : decode cX9_commit 294 = .ok (.getfield 119, 3) := by decide +kernel
theorem dX9_commit_297 : decode cX9_commit 297 = .ok (.bipush 24, 2) := by decide +kernel
theorem dX9_commit_299 : decode cX9_commit 299 = .ok (.if_icmp .eq 28, 3) := by decide +kernel
theorem dX9_commit_302 : decode cX9_commit 302 = .ok (.iload 13, 2) := by decide +kernel
theorem dX9_commit_304 : decode cX9_commit 304 = .ok (.aload_n 0, 1) := by decide +kernel
theorem dX9_commit_305 : decode cX9_commit 305 = .ok (.getfield 87, 3) := by decide +kernel
theorem dX9_commit_308 : decode cX9_commit 308 = .ok (.if_icmp .gt 19, 3) := by decide +kernel
theorem dX9_commit_311 : decode cX9_commit 311 = .ok (.iload 14, 2) := by decide +kernel
theorem dX9_commit_313 : decode cX9_commit 313 = .ok (.ifCond .eq 36, 3) := by decide +kernel
theorem dX9_commit_316 : decode cX9_commit 316 = .ok (.aload_n 0, 1) := by decide +kernel
theorem dX9_commit_317 : decode cX9_commit 317 = .ok (.getfield 136, 3) := by decide +kernel
theorem dX9_commit_320 : decode cX9_commit 320 = .ok (.aload_n 0, 1) := by decide +kernel
theorem dX9_commit_321 : decode cX9_commit 321 = .ok (.getfield 91, 3) := by decide +kernel
theorem dX9_commit_324 : decode cX9_commit 324 = .ok (.if_icmp .ne 25, 3) := by decide +kernel
theorem dX9_commit_327 : decode cX9_commit 327 = .ok (.aload_n 0, 1) := by decide +kernel
theorem dX9_commit_328 : decode cX9_commit 328 = .ok (.getfield 60, 3) := by decide +kernel
theorem dX9_commit_331 : decode cX9_commit 331 = .ok (.iload_n 1, 1) := by decide +kernel
theorem dX9_commit_332 : decode cX9_commit 332 = .ok (.dup2, 1) := by decide +kernel
theorem dX9_commit_333 : decode cX9_commit 333 = .ok (.iaload, 1) := by decide +kernel
theorem dX9_commit_334 : decode cX9_commit 334 = .ok (.iconst 1, 1) := by decide +kernel
theorem dX9_commit_335 : decode cX9_commit 335 = .ok (.iadd, 1) := by decide +kernel
theorem dX9_commit_336 : decode cX9_commit 336 = .ok (.iastore, 1) := by decide +kernel
theorem dX9_commit_337 : decode cX9_commit 337 = .ok (.aload_n 0, 1) := by decide +kernel
theorem dX9_commit_338 : decode cX9_commit 338 = .ok (.getfield 63, 3) := by decide +kernel
theorem dX9_commit_341 : decode cX9_commit 341 = .ok (.iload_n 1, 1) := by decide +kernel
theorem dX9_commit_342 : decode cX9_commit 342 = .ok (.dup2, 1) := by decide +kernel
theorem dX9_commit_343 : decode cX9_commit 343 = .ok (.iaload, 1) := by decide +kernel
theorem dX9_commit_344 : decode cX9_commit 344 = .ok (.iconst 1, 1) := by decide +kernel
theorem dX9_commit_345 : decode cX9_commit 345 = .ok (.iadd, 1) := by decide +kernel
theorem dX9_commit_346 : decode cX9_commit 346 = .ok (.iastore, 1) := by decide +kernel
theorem dX9_commit_347 : decode cX9_commit 347 = .ok (.iconst 4, 1) := by decide +kernel
theorem dX9_commit_348 : decode cX9_commit 348 = .ok (.ireturn, 1) := by decide +kernel
theorem dX9_commit_349 : decode cX9_commit 349 = .ok (.aload_n 0, 1) := by decide +kernel
theorem dX9_commit_350 : decode cX9_commit 350 = .ok (.iconst 0, 1) := by decide +kernel
theorem dX9_commit_351 : decode cX9_commit 351 = .ok (.putfield 116, 3) := by decide +kernel
theorem dX9_commit_354 : decode cX9_commit 354 = .ok (.aload_n 0, 1) := by decide +kernel
theorem dX9_commit_355 : decode cX9_commit 355 = .ok (.iload 12, 2) := by decide +kernel
theorem dX9_commit_357 : decode cX9_commit 357 = .ok (.invokevirtual 139, 3) := by decide +kernel
theorem dX9_commit_360 : decode cX9_commit 360 = .ok (.aload_n 0, 1) := by decide +kernel
theorem dX9_commit_361 : decode cX9_commit 361 = .ok (.iload_n 2, 1) := by decide +kernel
theorem dX9_commit_362 : decode cX9_commit 362 = .ok (.invokevirtual 139, 3) := by decide +kernel
theorem dX9_commit_365 : decode cX9_commit 365 = .ok (.aload_n 0, 1) := by decide +kernel
theorem dX9_commit_366 : decode cX9_commit 366 = .ok (.iload 8, 2) := by decide +kernel
theorem dX9_commit_368 : decode cX9_commit 368 = .ok (.invokevirtual 139, 3) := by decide +kernel
theorem dX9_commit_371 : decode cX9_commit 371 = .ok (.aload_n 0, 1) := by decide +kernel
theorem dX9_commit_372 : decode cX9_commit 372 = .ok (.aload_n 0, 1) := by decide +kernel
theorem dX9_commit_373 : decode cX9_commit 373 = .ok (.getfield 106, 3) := by decide +kernel
theorem dX9_commit_376 : decode cX9_commit 376 = .ok (.iload 8, 2) := by decide +kernel
theorem dX9_commit_378 : decode cX9_commit 378 = .ok (.isub, 1) := by decide +kernel
theorem dX9_commit_379 : decode cX9_commit 379 = .ok (.invokevirtual 139, 3) := by decide +kernel
theorem dX9_commit_382 : decode cX9_commit 382 = .ok (.iconst 0, 1) := by decide +kernel
theorem dX9_commit_383 : decode cX9_commit 383 = .ok (.istore 15, 2) := by decide +kernel
theorem dX9_commit_385 : decode cX9_commit 385 = .ok (.iload 15, 2) := by decide +kernel
theorem dX9_commit_387 : decode cX9_commit 387 = .ok (.aload_n 0, 1) := by decide +kernel
theorem dX9_commit_388 : decode cX9_commit 388 = .ok (.getfield 13, 3) := by decide +kernel
theorem dX9_commit_391 : decode cX9_commit 391 = .ok (.iload_n 2, 1) := by decide +kernel
theorem dX9_commit_392 : decode cX9_commit 392 = .ok (.iaload, 1) := by decide +kernel
theorem dX9_commit_393 : decode cX9_commit 393 = .ok (.if_icmp .ge 38, 3) := by decide +kernel
theorem dX9_commit_396 : decode cX9_commit 396 = .ok (.aload_n 0, 1) := by decide +kernel
theorem dX9_commit_397 : decode cX9_commit 397 = .ok (.iload 15, 2) := by decide +kernel
theorem dX9_commit_399 : decode cX9_commit 399 = .ok (.ifCond .ne 7, 3) := by decide +kernel
theorem dX9_commit_402 : decode cX9_commit 402 = .ok (.iload_n 3, 1) := by decide +kernel
theorem dX9_commit_403 : decode cX9_commit 403 = .ok (.goto 16, 3) := by decide +kernel
theorem dX9_commit_406 : decode cX9_commit 406 = .ok (.iload 15, 2) := by decide +kernel
theorem dX9_commit_408 : decode cX9_commit 408 = .ok (.iconst 1, 1) := by decide +kernel
theorem dX9_commit_409 : decode cX9_commit 409 = .ok (.if_icmp .ne 8, 3) := by decide +kernel
theorem dX9_commit_412 : decode cX9_commit 412 = .ok (.iload 4, 2) := by decide +kernel
theorem dX9_commit_414 : decode cX9_commit 414 = .ok (.goto 5, 3) := by decide +kernel
theorem dX9_commit_417 : decode cX9_commit 417 = .ok (.iload 5, 2) := by decide +kernel
theorem dX9_commit_419 : decode cX9_commit 419 = .ok (.invokestatic 133, 3) := by decide +kernel
theorem dX9_commit_422 : decode cX9_commit 422 = .ok (.invokevirtual 139, 3) := by decide +kernel
theorem dX9_commit_425 : decode cX9_commit 425 = .ok (.iinc 15 1, 3) := by decide +kernel
theorem dX9_commit_428 : decode cX9_commit 428 = .ok (.goto (-43), 3) := by decide +kernel
theorem dX9_commit_431 : decode cX9_commit 431 = .ok (.iload 7, 2) := by decide +kernel
theorem dX9_commit_433 : decode cX9_commit 433 = .ok (.ifCond .eq 36, 3) := by decide +kernel
theorem dX9_commit_436 : decode cX9_commit 436 = .ok (.aload_n 0, 1) := by decide +kernel
theorem dX9_commit_437 : decode cX9_commit 437 = .ok (.iload 11, 2) := by decide +kernel
theorem dX9_commit_439 : decode cX9_commit 439 = .ok (.invokevirtual 139, 3) := by decide +kernel
theorem dX9_commit_442 : decode cX9_commit 442 = .ok (.aload_n 0, 1) := by decide +kernel
theorem dX9_commit_443 : decode cX9_commit 443 = .ok (.iload 10, 2) := by decide +kernel
theorem dX9_commit_445 : decode cX9_commit 445 = .ok (.iload 6, 2) := by decide +kernel
theorem dX9_commit_447 : decode cX9_commit 447 = .ok (.invokevirtual 143, 3) := by decide +kernel
theorem dX9_commit_450 : decode cX9_commit 450 = .ok (.aload_n 0, 1) := by decide +kernel
theorem dX9_commit_451 : decode cX9_commit 451 = .ok (.getfield 57, 3) := by decide +kernel
theorem dX9_commit_454 : decode cX9_commit 454 = .ok (.bipush 6, 2) := by decide +kernel
theorem dX9_commit_456 : decode cX9_commit 456 = .ok (.aload_n 0, 1) := by decide +kernel
theorem dX9_commit_457 : decode cX9_commit 457 = .ok (.getfield 57, 3) := by decide +kernel
theorem dX9_commit_460 : decode cX9_commit 460 = .ok (.bipush 6, 2) := by decide +kernel
theorem dX9_commit_462 : decode cX9_commit 462 = .ok (.iaload, 1) := by decide +kernel
theorem dX9_commit_463 : decode cX9_commit 463 = .ok (.iconst 1, 1) := by decide +kernel
theorem dX9_commit_464 : decode cX9_commit 464 = .ok (.iload 11, 2) := by decide +kernel
theorem dX9_commit_466 : decode cX9_commit 466 = .ok (.ishl, 1) := by decide +kernel
theorem dX9_commit_467 : decode cX9_commit 467 = .ok (.ior, 1) := by decide +kernel
theorem dX9_commit_468 : decode cX9_commit 468 = .ok (.iastore, 1) := by decide +kernel
theorem dX9_commit_469 : decode cX9_commit 469 = .ok (.iload 14, 2) := by decide +kernel
theorem dX9_commit_471 : decode cX9_commit 471 = .ok (.ifCond .eq 24, 3) := by decide +kernel
theorem dX9_commit_474 : decode cX9_commit 474 = .ok (.aload_n 0, 1) := by decide +kernel
theorem dX9_commit_475 : decode cX9_commit 475 = .ok (.iload_n 1, 1) := by decide +kernel
theorem dX9_commit_476 : decode cX9_commit 476 = .ok (.iconst 3, 1) := by decide +kernel
theorem dX9_commit_477 : decode cX9_commit 477 = .ok (.aload_n 0, 1) := by decide +kernel
theorem dX9_commit_478 : decode cX9_commit 478 = .ok (.getfield 136, 3) := by decide +kernel
theorem dX9_commit_481 : decode cX9_commit 481 = .ok (.iadd, 1) := by decide +kernel
theorem dX9_commit_482 : decode cX9_commit 482 = .ok (.invokevirtual 147, 3) := by decide +kernel
theorem dX9_commit_485 : decode cX9_commit 485 = .ok (.aload_n 0, 1) := by decide +kernel
theorem dX9_commit_486 : decode cX9_commit 486 = .ok (.dup, 1) := by decide +kernel
theorem dX9_commit_487 : decode cX9_commit 487 = .ok (.getfield 136, 3) := by decide +kernel
theorem dX9_commit_490 : decode cX9_commit 490 = .ok (.iconst 1, 1) := by decide +kernel
theorem dX9_commit_491 : decode cX9_commit 491 = .ok (.iadd, 1) := by decide +kernel
theorem dX9_commit_492 : decode cX9_commit 492 = .ok (.putfield 136, 3) := by decide +kernel
theorem dX9_commit_495 : decode cX9_commit 495 = .ok (.iconst 0, 1) := by decide +kernel
theorem dX9_commit_496 : decode cX9_commit 496 = .ok (.istore 15, 2) := by decide +kernel
theorem dX9_commit_498 : decode cX9_commit 498 = .ok (.iload 15, 2) := by decide +kernel
theorem dX9_commit_500 : decode cX9_commit 500 = .ok (.aload_n 0, 1) := by decide +kernel
theorem dX9_commit_501 : decode cX9_commit 501 = .ok (.getfield 116, 3) := by decide +kernel
theorem dX9_commit_504 : decode cX9_commit 504 = .ok (.if_icmp .ge 35, 3) := by decide +kernel
theorem dX9_commit_507 : decode cX9_commit 507 = .ok (.aload_n 0, 1) := by decide +kernel
theorem dX9_commit_508 : decode cX9_commit 508 = .ok (.getfield 33, 3) := by decide +kernel
theorem dX9_commit_511 : decode cX9_commit 511 = .ok (.bipush 60, 2) := by decide +kernel
theorem dX9_commit_513 : decode cX9_commit 513 = .ok (.iload_n 1, 1) := by decide +kernel
theorem dX9_commit_514 : decode cX9_commit 514 = .ok (.imul, 1) := by decide +kernel
theorem dX9_commit_515 : decode cX9_commit 515 = .ok (.aload_n 0, 1) := by decide +kernel
theorem dX9_commit_516 : decode cX9_commit 516 = .ok (.getfield 36, 3) := by decide +kernel
theorem dX9_commit_519 : decode cX9_commit 519 = .ok (.iload_n 1, 1) := by decide +kernel
theorem dX9_commit_520 : decode cX9_commit 520 = .ok (.iaload, 1) := by decide +kernel
theorem dX9_commit_521 : decode cX9_commit 521 = .ok (.iadd, 1) := by decide +kernel
theorem dX9_commit_522 : decode cX9_commit 522 = .ok (.iload 15, 2) := by decide +kernel
theorem dX9_commit_524 : decode cX9_commit 524 = .ok (.iadd, 1) := by decide +kernel
theorem dX9_commit_525 : decode cX9_commit 525 = .ok (.aload_n 0, 1) := by decide +kernel
theorem dX9_commit_526 : decode cX9_commit 526 = .ok (.getfield 84, 3) := by decide +kernel
theorem dX9_commit_529 : decode cX9_commit 529 = .ok (.iload 15, 2) := by decide +kernel
theorem dX9_commit_531 : decode cX9_commit 531 = .ok (.iaload, 1) := by decide +kernel
theorem dX9_commit_532 : decode cX9_commit 532 = .ok (.iastore, 1) := by decide +kernel
theorem dX9_commit_533 : decode cX9_commit 533 = .ok (.iinc 15 1, 3) := by decide +kernel
theorem dX9_commit_536 : decode cX9_commit 536 = .ok (.goto (-38), 3) := by decide +kernel
theorem dX9_commit_539 : decode cX9_commit 539 = .ok (.aload_n 0, 1) := by decide +kernel
theorem dX9_commit_540 : decode cX9_commit 540 = .ok (.getfield 36, 3) := by decide +kernel
theorem dX9_commit_543 : decode cX9_commit 543 = .ok (.iload_n 1, 1) := by decide +kernel
theorem dX9_commit_544 : decode cX9_commit 544 = .ok (.dup2, 1) := by decide +kernel
theorem dX9_commit_545 : decode cX9_commit 545 = .ok (.iaload, 1) := by decide +kernel
theorem dX9_commit_546 : decode cX9_commit 546 = .ok (.aload_n 0, 1) := by decide +kernel
theorem dX9_commit_547 : decode cX9_commit 547 = .ok (.getfield 116, 3) := by decide +kernel
theorem dX9_commit_550 : decode cX9_commit 550 = .ok (.iadd, 1) := by decide +kernel
theorem dX9_commit_551 : decode cX9_commit 551 = .ok (.iastore, 1) := by decide +kernel
theorem dX9_commit_552 : decode cX9_commit 552 = .ok (.aload_n 0, 1) := by decide +kernel
theorem dX9_commit_553 : decode cX9_commit 553 = .ok (.getfield 39, 3) := by decide +kernel
theorem dX9_commit_556 : decode cX9_commit 556 = .ok (.iload_n 1, 1) := by decide +kernel
theorem dX9_commit_557 : decode cX9_commit 557 = .ok (.dup2, 1) := by decide +kernel
theorem dX9_commit_558 : decode cX9_commit 558 = .ok (.iaload, 1) := by decide +kernel
theorem dX9_commit_559 : decode cX9_commit 559 = .ok (.iconst 1, 1) := by decide +kernel
theorem dX9_commit_560 : decode cX9_commit 560 = .ok (.iadd, 1) := by decide +kernel
theorem dX9_commit_561 : decode cX9_commit 561 = .ok (.iastore, 1) := by decide +kernel
theorem dX9_commit_562 : decode cX9_commit 562 = .ok (.iconst 0, 1) := by decide +kernel
theorem dX9_commit_563 : decode cX9_commit 563 = .ok (.ireturn, 1) := by decide +kernel
theorem dX9_keepString_0 : decode cX9_keepString 0 = .ok (.iload_n 1, 1) := by decide +kernel
theorem dX9_keepString_1 : decode cX9_keepString 1 = .ok (.ifCond .lt 4, 3) := by decide +kernel
theorem dX9_keepString_4 : decode cX9_keepString 4 = .ok (.return_, 1) := by decide +kernel
theorem dX9_keepString_5 : decode cX9_keepString 5 = .ok (.iconst 0, 1) := by decide +kernel
theorem dX9_keepString_6 : decode cX9_keepString 6 = .ok (.istore_n 3, 1) := by decide +kernel
theorem dX9_keepString_7 : decode cX9_keepString 7 = .ok (.iload_n 3, 1) := by decide +kernel
theorem dX9_keepString_8 : decode cX9_keepString 8 = .ok (.iload_n 2, 1) := by decide +kernel
theorem dX9_keepString_9 : decode cX9_keepString 9 = .ok (.if_icmp .ge 29, 3) := by decide +kernel
theorem dX9_keepString_12 : decode cX9_keepString 12 = .ok (.aload_n 0, 1) := by decide +kernel
theorem dX9_keepString_13 : decode cX9_keepString 13 = .ok (.getfield 21, 3) := by decide +kernel
theorem dX9_keepString_16 : decode cX9_keepString 16 = .ok (.bipush 8, 2) := by decide +kernel
theorem dX9_keepString_18 : decode cX9_keepString 18 = .ok (.aload_n 0, 1) := by decide +kernel
theorem dX9_keepString_19 : decode cX9_keepString 19 = .ok (.getfield 119, 3) := by decide +kernel
theorem dX9_keepString_22 : decode cX9_keepString 22 = .ok (.imul, 1) := by decide +kernel
theorem dX9_keepString_23 : decode cX9_keepString 23 = .ok (.iload_n 3, 1) := by decide +kernel
theorem dX9_keepString_24 : decode cX9_keepString 24 = .ok (.iadd, 1) := by decide +kernel
theorem dX9_keepString_25 : decode cX9_keepString 25 = .ok (.aload_n 0, 1) := by decide +kernel
theorem dX9_keepString_26 : decode cX9_keepString 26 = .ok (.getfield 7, 3) := by decide +kernel
theorem dX9_keepString_29 : decode cX9_keepString 29 = .ok (.iload_n 3, 1) := by decide +kernel
theorem dX9_keepString_30 : decode cX9_keepString 30 = .ok (.caload, 1) := by decide +kernel
theorem dX9_keepString_31 : decode cX9_keepString 31 = .ok (.castore, 1) := by decide +kernel
theorem dX9_keepString_32 : decode cX9_keepString 32 = .ok (.iinc 3 1, 3) := by decide +kernel
theorem dX9_keepString_35 : decode cX9_keepString 35 = .ok (.goto (-28), 3) := by decide +kernel
theorem dX9_keepString_38 : decode cX9_keepString 38 = .ok (.aload_n 0, 1) := by decide +kernel
theorem dX9_keepString_39 : decode cX9_keepString 39 = .ok (.getfield 24, 3) := by decide +kernel
theorem dX9_keepString_42 : decode cX9_keepString 42 = .ok (.aload_n 0, 1) := by decide +kernel
theorem dX9_keepString_43 : decode cX9_keepString 43 = .ok (.getfield 119, 3) := by decide +kernel
theorem dX9_keepString_46 : decode cX9_keepString 46 = .ok (.iload_n 2, 1) := by decide +kernel
theorem dX9_keepString_47 : decode cX9_keepString 47 = .ok (.iastore, 1) := by decide +kernel
theorem dX9_keepString_48 : decode cX9_keepString 48 = .ok (.aload_n 0, 1) := by decide +kernel
theorem dX9_keepString_49 : decode cX9_keepString 49 = .ok (.dup, 1) := by decide +kernel
theorem dX9_keepString_50 : decode cX9_keepString 50 = .ok (.getfield 119, 3) := by decide +kernel
theorem dX9_keepString_53 : decode cX9_keepString 53 = .ok (.iconst 1, 1) := by decide +kernel
theorem dX9_keepString_54 : decode cX9_keepString 54 = .ok (.iadd, 1) := by decide +kernel
theorem dX9_keepString_55 : decode cX9_keepString 55 = .ok (.putfield 119, 3) := by decide +kernel
theorem dX9_keepString_58 : decode cX9_keepString 58 = .ok (.return_, 1) := by decide +kernel
