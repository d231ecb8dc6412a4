theorem dX9_move_0 : decode cX9_move 0 = .ok (.iconst 0, 1) := by decide +kernel
theorem dX9_move_1 : decode cX9_move 1 = .ok (.istore_n 3, 1) := by decide +kernel
theorem dX9_move_2 : decode cX9_move 2 = .ok (.iload_n 3, 1) := by decide +kernel
theorem dX9_move_3 : decode cX9_move 3 = .ok (.aload_n 0, 1) := by decide +kernel
theorem dX9_move_4 : decode cX9_move 4 = .ok (.getfield 36, 3) := by decide +kernel
theorem dX9_move_7 : decode cX9_move 7 = .ok (.iload_n 1, 1) := by decide +kernel
theorem dX9_move_8 : decode cX9_move 8 = .ok (.iaload, 1) := by decide +kernel
theorem dX9_move_9 : decode cX9_move 9 = .ok (.if_icmp .ge 31, 3) := by decide +kernel
theorem dX9_move_12 : decode cX9_move 12 = .ok (.aload_n 0, 1) := by decide +kernel
theorem dX9_move_13 : decode cX9_move 13 = .ok (.getfield 33, 3) := by decide +kernel
theorem dX9_move_16 : decode cX9_move 16 = .ok (.bipush 60, 2) := by decide +kernel
theorem dX9_move_18 : decode cX9_move 18 = .ok (.iload_n 2, 1) := by decide +kernel
theorem dX9_move_19 : decode cX9_move 19 = .ok (.imul, 1) := by decide +kernel
theorem dX9_move_20 : decode cX9_move 20 = .ok (.iload_n 3, 1) := by decide +kernel
theorem dX9_move_21 : decode cX9_move 21 = .ok (.iadd, 1) := by decide +kernel
theorem dX9_move_22 : decode cX9_move 22 = .ok (.aload_n 0, 1) := by decide +kernel
theorem dX9_move_23 : decode cX9_move 23 = .ok (.getfield 33, 3) := by decide +kernel
theorem dX9_move_26 : decode cX9_move 26 = .ok (.bipush 60, 2) := by decide +kernel
theorem dX9_move_28 : decode cX9_move 28 = .ok (.iload_n 1, 1) := by decide +kernel
theorem dX9_move_29 : decode cX9_move 29 = .ok (.imul, 1) := by decide +kernel
theorem dX9_move_30 : decode cX9_move 30 = .ok (.iload_n 3, 1) := by decide +kernel
theorem dX9_move_31 : decode cX9_move 31 = .ok (.iadd, 1) := by decide +kernel
theorem dX9_move_32 : decode cX9_move 32 = .ok (.iaload, 1) := by decide +kernel
theorem dX9_move_33 : decode cX9_move 33 = .ok (.iastore, 1) := by decide +kernel
theorem dX9_move_34 : decode cX9_move 34 = .ok (.iinc 3 1, 3) := by decide +kernel
theorem dX9_move_37 : decode cX9_move 37 = .ok (.goto (-35), 3) := by decide +kernel
theorem dX9_move_40 : decode cX9_move 40 = .ok (.aload_n 0, 1) := by decide +kernel
theorem dX9_move_41 : decode cX9_move 41 = .ok (.getfield 36, 3) := by decide +kernel
theorem dX9_move_44 : decode cX9_move 44 = .ok (.iload_n 2, 1) := by decide +kernel
theorem dX9_move_45 : decode cX9_move 45 = .ok (.aload_n 0, 1) := by decide +kernel
theorem dX9_move_46 : decode cX9_move 46 = .ok (.getfield 36, 3) := by decide +kernel
theorem dX9_move_49 : decode cX9_move 49 = .ok (.iload_n 1, 1) := by decide +kernel
theorem dX9_move_50 : decode cX9_move 50 = .ok (.iaload, 1) := by decide +kernel
theorem dX9_move_51 : decode cX9_move 51 = .ok (.iastore, 1) := by decide +kernel
theorem dX9_move_52 : decode cX9_move 52 = .ok (.aload_n 0, 1) := by decide +kernel
theorem dX9_move_53 : decode cX9_move 53 = .ok (.getfield 39, 3) := by decide +kernel
theorem dX9_move_56 : decode cX9_move 56 = .ok (.iload_n 2, 1) := by decide +kernel
theorem dX9_move_57 : decode cX9_move 57 = .ok (.aload_n 0, 1) := by decide +kernel
theorem dX9_move_58 : decode cX9_move 58 = .ok (.getfield 39, 3) := by decide +kernel
theorem dX9_move_61 : decode cX9_move 61 = .ok (.iload_n 1, 1) := by decide +kernel
theorem dX9_move_62 : decode cX9_move 62 = .ok (.iaload, 1) := by decide +kernel
theorem dX9_move_63 : decode cX9_move 63 = .ok (.iastore, 1) := by decide +kernel
theorem dX9_move_64 : decode cX9_move 64 = .ok (.aload_n 0, 1) := by decide +kernel
theorem dX9_move_65 : decode cX9_move 65 = .ok (.getfield 36, 3) := by decide +kernel
theorem dX9_move_68 : decode cX9_move 68 = .ok (.iload_n 1, 1) := by decide +kernel
theorem dX9_move_69 : decode cX9_move 69 = .ok (.iconst 0, 1) := by decide +kernel
theorem dX9_move_70 : decode cX9_move 70 = .ok (.iastore, 1) := by decide +kernel
theorem dX9_move_71 : decode cX9_move 71 = .ok (.aload_n 0, 1) := by decide +kernel
theorem dX9_move_72 : decode cX9_move 72 = .ok (.getfield 39, 3) := by decide +kernel
theorem dX9_move_75 : decode cX9_move 75 = .ok (.iload_n 1, 1) := by decide +kernel
theorem dX9_move_76 : decode cX9_move 76 = .ok (.iconst 0, 1) := by decide +kernel
theorem dX9_move_77 : decode cX9_move 77 = .ok (.iastore, 1) := by decide +kernel
theorem dX9_move_78 : decode cX9_move 78 = .ok (.return_, 1) := by decide +kernel
theorem dX9_drain_0 : decode cX9_drain 0 = .ok (.aload_n 0, 1) := by decide +kernel
theorem dX9_drain_1 : decode cX9_drain 1 = .ok (.getfield 36, 3) := by decide +kernel
theorem dX9_drain_4 : decode cX9_drain 4 = .ok (.iload_n 1, 1) := by decide +kernel
theorem dX9_drain_5 : decode cX9_drain 5 = .ok (.iaload, 1) := by decide +kernel
theorem dX9_drain_6 : decode cX9_drain 6 = .ok (.istore_n 2, 1) := by decide +kernel
theorem dX9_drain_7 : decode cX9_drain 7 = .ok (.iconst 0, 1) := by decide +kernel
theorem dX9_drain_8 : decode cX9_drain 8 = .ok (.istore_n 3, 1) := by decide +kernel
theorem dX9_drain_9 : decode cX9_drain 9 = .ok (.iload_n 3, 1) := by decide +kernel
theorem dX9_drain_10 : decode cX9_drain 10 = .ok (.iload_n 2, 1) := by decide +kernel
theorem dX9_drain_11 : decode cX9_drain 11 = .ok (.if_icmp .ge 38, 3) := by decide +kernel
theorem dX9_drain_14 : decode cX9_drain 14 = .ok (.aload_n 0, 1) := by decide +kernel
theorem dX9_drain_15 : decode cX9_drain 15 = .ok (.getfield 42, 3) := by decide +kernel
theorem dX9_drain_18 : decode cX9_drain 18 = .ok (.sipush 3600, 3) := by decide +kernel
theorem dX9_drain_21 : decode cX9_drain 21 = .ok (.aload_n 0, 1) := by decide +kernel
theorem dX9_drain_22 : decode cX9_drain 22 = .ok (.getfield 45, 3) := by decide +kernel
theorem dX9_drain_25 : decode cX9_drain 25 = .ok (.bipush 6, 2) := by decide +kernel
theorem dX9_drain_27 : decode cX9_drain 27 = .ok (.iaload, 1) := by decide +kernel
theorem dX9_drain_28 : decode cX9_drain 28 = .ok (.iadd, 1) := by decide +kernel
theorem dX9_drain_29 : decode cX9_drain 29 = .ok (.iload_n 3, 1) := by decide +kernel
theorem dX9_drain_30 : decode cX9_drain 30 = .ok (.iadd, 1) := by decide +kernel
theorem dX9_drain_31 : decode cX9_drain 31 = .ok (.aload_n 0, 1) := by decide +kernel
theorem dX9_drain_32 : decode cX9_drain 32 = .ok (.getfield 33, 3) := by decide +kernel
theorem dX9_drain_35 : decode cX9_drain 35 = .ok (.bipush 60, 2) := by decide +kernel
theorem dX9_drain_37 : decode cX9_drain 37 = .ok (.iload_n 1, 1) := by decide +kernel
theorem dX9_drain_38 : decode cX9_drain 38 = .ok (.imul, 1) := by decide +kernel
theorem dX9_drain_39 : decode cX9_drain 39 = .ok (.iload_n 3, 1) := by decide +kernel
theorem dX9_drain_40 : decode cX9_drain 40 = .ok (.iadd, 1) := by decide +kernel
theorem dX9_drain_41 : decode cX9_drain 41 = .ok (.iaload, 1) := by decide +kernel
theorem dX9_drain_42 : decode cX9_drain 42 = .ok (.iastore, 1) := by decide +kernel
theorem dX9_drain_43 : decode cX9_drain 43 = .ok (.iinc 3 1, 3) := by decide +kernel
theorem dX9_drain_46 : decode cX9_drain 46 = .ok (.goto (-37), 3) := by decide +kernel
theorem dX9_drain_49 : decode cX9_drain 49 = .ok (.aload_n 0, 1) := by decide +kernel
theorem dX9_drain_50 : decode cX9_drain 50 = .ok (.getfield 45, 3) := by decide +kernel
theorem dX9_drain_53 : decode cX9_drain 53 = .ok (.bipush 6, 2) := by decide +kernel
theorem dX9_drain_55 : decode cX9_drain 55 = .ok (.dup2, 1) := by decide +kernel
theorem dX9_drain_56 : decode cX9_drain 56 = .ok (.iaload, 1) := by decide +kernel
theorem dX9_drain_57 : decode cX9_drain 57 = .ok (.iload_n 2, 1) := by decide +kernel
theorem dX9_drain_58 : decode cX9_drain 58 = .ok (.iadd, 1) := by decide +kernel
theorem dX9_drain_59 : decode cX9_drain 59 = .ok (.iastore, 1) := by decide +kernel
theorem dX9_drain_60 : decode cX9_drain 60 = .ok (.aload_n 0, 1) := by decide +kernel
theorem dX9_drain_61 : decode cX9_drain 61 = .ok (.getfield 54, 3) := by decide +kernel
theorem dX9_drain_64 : decode cX9_drain 64 = .ok (.bipush 6, 2) := by decide +kernel
theorem dX9_drain_66 : decode cX9_drain 66 = .ok (.dup2, 1) := by decide +kernel
theorem dX9_drain_67 : decode cX9_drain 67 = .ok (.iaload, 1) := by decide +kernel
theorem dX9_drain_68 : decode cX9_drain 68 = .ok (.aload_n 0, 1) := by decide +kernel
theorem dX9_drain_69 : decode cX9_drain 69 = .ok (.getfield 39, 3) := by decide +kernel
theorem dX9_drain_72 : decode cX9_drain 72 = .ok (.iload_n 1, 1) := by decide +kernel
theorem dX9_drain_73 : decode cX9_drain 73 = .ok (.iaload, 1) := by decide +kernel
theorem dX9_drain_74 : decode cX9_drain 74 = .ok (.iadd, 1) := by decide +kernel
theorem dX9_drain_75 : decode cX9_drain 75 = .ok (.iastore, 1) := by decide +kernel
theorem dX9_drain_76 : decode cX9_drain 76 = .ok (.aload_n 0, 1) := by decide +kernel
theorem dX9_drain_77 : decode cX9_drain 77 = .ok (.getfield 36, 3) := by decide +kernel
theorem dX9_drain_80 : decode cX9_drain 80 = .ok (.iload_n 1, 1) := by decide +kernel
theorem dX9_drain_81 : decode cX9_drain 81 = .ok (.iconst 0, 1) := by decide +kernel
theorem dX9_drain_82 : decode cX9_drain 82 = .ok (.iastore, 1) := by decide +kernel
theorem dX9_drain_83 : decode cX9_drain 83 = .ok (.aload_n 0, 1) := by decide +kernel
theorem dX9_drain_84 : decode cX9_drain 84 = .ok (.getfield 39, 3) := by decide +kernel
theorem dX9_drain_87 : decode cX9_drain 87 = .ok (.iload_n 1, 1) := by decide +kernel
theorem dX9_drain_88 : decode cX9_drain 88 = .ok (.iconst 0, 1) := by decide +kernel
theorem dX9_drain_89 : decode cX9_drain 89 = .ok (.iastore, 1) := by decide +kernel
theorem dX9_drain_90 : decode cX9_drain 90 = .ok (.iload_n 2, 1) := by decide +kernel
theorem dX9_drain_91 : decode cX9_drain 91 = .ok (.ireturn, 1) := by decide +kernel
theorem dX9_put_0 : decode cX9_put 0 = .ok (.aload_n 0, 1) := by decide +kernel
theorem dX9_put_1 : decode cX9_put 1 = .ok (.getfield 42, 3) := by decide +kernel
theorem dX9_put_4 : decode cX9_put 4 = .ok (.sipush 3600, 3) := by decide +kernel
theorem dX9_put_7 : decode cX9_put 7 = .ok (.aload_n 0, 1) := by decide +kernel
theorem dX9_put_8 : decode cX9_put 8 = .ok (.getfield 45, 3) := by decide +kernel
theorem dX9_put_11 : decode cX9_put 11 = .ok (.bipush 6, 2) := by decide +kernel
theorem dX9_put_13 : decode cX9_put 13 = .ok (.iaload, 1) := by decide +kernel
theorem dX9_put_14 : decode cX9_put 14 = .ok (.iadd, 1) := by decide +kernel
theorem dX9_put_15 : decode cX9_put 15 = .ok (.iload_n 1, 1) := by decide +kernel
theorem dX9_put_16 : decode cX9_put 16 = .ok (.iastore, 1) := by decide +kernel
theorem dX9_put_17 : decode cX9_put 17 = .ok (.aload_n 0, 1) := by decide +kernel
theorem dX9_put_18 : decode cX9_put 18 = .ok (.getfield 45, 3) := by decide +kernel
theorem dX9_put_21 : decode cX9_put 21 = .ok (.bipush 6, 2) := by decide +kernel
theorem dX9_put_23 : decode cX9_put 23 = .ok (.dup2, 1) := by decide +kernel
theorem dX9_put_24 : decode cX9_put 24 = .ok (.iaload, 1) := by decide +kernel
theorem dX9_put_25 : decode cX9_put 25 = .ok (.iconst 1, 1) := by decide +kernel
theorem dX9_put_26 : decode cX9_put 26 = .ok (.iadd, 1) := by decide +kernel
theorem dX9_put_27 : decode cX9_put 27 = .ok (.iastore, 1) := by decide +kernel
theorem dX9_put_28 : decode cX9_put 28 = .ok (.return_, 1) := by decide +kernel
theorem dX9_loss_0 : decode cX9_loss 0 = .ok (.aload_n 0, 1) := by decide +kernel
theorem dX9_loss_1 : decode cX9_loss 1 = .ok (.iconst 0, 1) := by decide +kernel
theorem dX9_loss_2 : decode cX9_loss 2 = .ok (.putfield 116, 3) := by decide +kernel
theorem dX9_loss_5 : decode cX9_loss 5 = .ok (.aload_n 0, 1) := by decide +kernel
theorem dX9_loss_6 : decode cX9_loss 6 = .ok (.iconst 2, 1) := by decide +kernel
theorem dX9_loss_7 : decode cX9_loss 7 = .ok (.aload_n 0, 1) := by decide +kernel
theorem dX9_loss_8 : decode cX9_loss 8 = .ok (.getfield 60, 3) := by decide +kernel
theorem dX9_loss_11 : decode cX9_loss 11 = .ok (.iload_n 1, 1) := by decide +kernel
theorem dX9_loss_12 : decode cX9_loss 12 = .ok (.iaload, 1) := by decide +kernel
theorem dX9_loss_13 : decode cX9_loss 13 = .ok (.invokestatic 130, 3) := by decide +kernel
theorem dX9_loss_16 : decode cX9_loss 16 = .ok (.iadd, 1) := by decide +kernel
theorem dX9_loss_17 : decode cX9_loss 17 = .ok (.invokevirtual 139, 3) := by decide +kernel
theorem dX9_loss_20 : decode cX9_loss 20 = .ok (.aload_n 0, 1) := by decide +kernel
theorem dX9_loss_21 : decode cX9_loss 21 = .ok (.bipush 63, 2) := by decide +kernel
theorem dX9_loss_23 : decode cX9_loss 23 = .ok (.invokevirtual 139, 3) := by decide +kernel
theorem dX9_loss_26 : decode cX9_loss 26 = .ok (.aload_n 0, 1) := by decide +kernel
theorem dX9_loss_27 : decode cX9_loss 27 = .ok (.iload_n 1, 1) := by decide +kernel
theorem dX9_loss_28 : decode cX9_loss 28 = .ok (.invokevirtual 139, 3) := by decide +kernel
theorem dX9_loss_31 : decode cX9_loss 31 = .ok (.aload_n 0, 1) := by decide +kernel
theorem dX9_loss_32 : decode cX9_loss 32 = .ok (.aload_n 0, 1) := by decide +kernel
theorem dX9_loss_33 : decode cX9_loss 33 = .ok (.getfield 60, 3) := by decide +kernel
theorem dX9_loss_36 : decode cX9_loss 36 = .ok (.iload_n 1, 1) := by decide +kernel
theorem dX9_loss_37 : decode cX9_loss 37 = .ok (.iaload, 1) := by decide +kernel
theorem dX9_loss_38 : decode cX9_loss 38 = .ok (.invokevirtual 139, 3) := by decide +kernel
theorem dX9_loss_41 : decode cX9_loss 41 = .ok (.iconst 0, 1) := by decide +kernel
theorem dX9_loss_42 : decode cX9_loss 42 = .ok (.istore_n 2, 1) := by decide +kernel
theorem dX9_loss_43 : decode cX9_loss 43 = .ok (.iload_n 2, 1) := by decide +kernel
theorem dX9_loss_44 : decode cX9_loss 44 = .ok (.aload_n 0, 1) := by decide +kernel
theorem dX9_loss_45 : decode cX9_loss 45 = .ok (.getfield 116, 3) := by decide +kernel
theorem dX9_loss_48 : decode cX9_loss 48 = .ok (.if_icmp .ge 19, 3) := by decide +kernel
theorem dX9_loss_51 : decode cX9_loss 51 = .ok (.aload_n 0, 1) := by decide +kernel
theorem dX9_loss_52 : decode cX9_loss 52 = .ok (.aload_n 0, 1) := by decide +kernel
theorem dX9_loss_53 : decode cX9_loss 53 = .ok (.getfield 84, 3) := by decide +kernel
theorem dX9_loss_56 : decode cX9_loss 56 = .ok (.iload_n 2, 1) := by decide +kernel
theorem dX9_loss_57 : decode cX9_loss 57 = .ok (.iaload, 1) := by decide +kernel
theorem dX9_loss_58 : decode cX9_loss 58 = .ok (.invokevirtual 150, 3) := by decide +kernel
theorem dX9_loss_61 : decode cX9_loss 61 = .ok (.iinc 2 1, 3) := by decide +kernel
theorem dX9_loss_64 : decode cX9_loss 64 = .ok (.goto (-21), 3) := by decide +kernel
theorem dX9_loss_67 : decode cX9_loss 67 = .ok (.aload_n 0, 1) := by decide +kernel
theorem dX9_loss_68 : decode cX9_loss 68 = .ok (.getfield 60, 3) := by decide +kernel
theorem dX9_loss_71 : decode cX9_loss 71 = .ok (.iload_n 1, 1) := by decide +kernel
theorem dX9_loss_72 : decode cX9_loss 72 = .ok (.iconst 0, 1) := by decide +kernel
theorem dX9_loss_73 : decode cX9_loss 73 = .ok (.iastore, 1) := by decide +kernel
theorem dX9_loss_74 : decode cX9_loss 74 = .ok (.return_, 1) := by decide +kernel
theorem dX9_copyChunk_0 : decode cX9_copyChunk 0 = .ok (.iconst 0, 1) := by decide +kernel
theorem dX9_copyChunk_1 : decode cX9_copyChunk 1 = .ok (.istore_n 3, 1) := by decide +kernel
theorem dX9_copyChunk_2 : decode cX9_copyChunk 2 = .ok (.iload_n 3, 1) := by decide +kernel
theorem dX9_copyChunk_3 : decode cX9_copyChunk 3 = .ok (.aload_n 0, 1) := by decide +kernel
theorem dX9_copyChunk_4 : decode cX9_copyChunk 4 = .ok (.getfield 45, 3) := by decide +kernel
theorem dX9_copyChunk_7 : decode cX9_copyChunk 7 = .ok (.iload_n 1, 1) := by decide +kernel
theorem dX9_copyChunk_8 : decode cX9_copyChunk 8 = .ok (.iaload, 1) := by decide +kernel
theorem dX9_copyChunk_9 : decode cX9_copyChunk 9 = .ok (.if_icmp .ge 33, 3) := by decide +kernel
theorem dX9_copyChunk_12 : decode cX9_copyChunk 12 = .ok (.aload_n 0, 1) := by decide +kernel
theorem dX9_copyChunk_13 : decode cX9_copyChunk 13 = .ok (.getfield 42, 3) := by decide +kernel
theorem dX9_copyChunk_16 : decode cX9_copyChunk 16 = .ok (.sipush 600, 3) := by decide +kernel
theorem dX9_copyChunk_19 : decode cX9_copyChunk 19 = .ok (.iload_n 2, 1) := by decide +kernel
theorem dX9_copyChunk_20 : decode cX9_copyChunk 20 = .ok (.imul, 1) := by decide +kernel
theorem dX9_copyChunk_21 : decode cX9_copyChunk 21 = .ok (.iload_n 3, 1) := by decide +kernel
theorem dX9_copyChunk_22 : decode cX9_copyChunk 22 = .ok (.iadd, 1) := by decide +kernel
theorem dX9_copyChunk_23 : decode cX9_copyChunk 23 = .ok (.aload_n 0, 1) := by decide +kernel
theorem dX9_copyChunk_24 : decode cX9_copyChunk 24 = .ok (.getfield 42, 3) := by decide +kernel
theorem dX9_copyChunk_27 : decode cX9_copyChunk 27 = .ok (.sipush 600, 3) := by decide +kernel
theorem dX9_copyChunk_30 : decode cX9_copyChunk 30 = .ok (.iload_n 1, 1) := by decide +kernel
theorem dX9_copyChunk_31 : decode cX9_copyChunk 31 = .ok (.imul, 1) := by decide +kernel
theorem dX9_copyChunk_32 : decode cX9_copyChunk 32 = .ok (.iload_n 3, 1) := by decide +kernel
theorem dX9_copyChunk_33 : decode cX9_copyChunk 33 = .ok (.iadd, 1) := by decide +kernel
theorem dX9_copyChunk_34 : decode cX9_copyChunk 34 = .ok (.iaload, 1) := by decide +kernel
theorem dX9_copyChunk_35 : decode cX9_copyChunk 35 = .ok (.iastore, 1) := by decide +kernel
theorem dX9_copyChunk_36 : decode cX9_copyChunk 36 = .ok (.iinc 3 1, 3) := by decide +kernel
theorem dX9_copyChunk_39 : decode cX9_copyChunk 39 = .ok (.goto (-37), 3) := by decide +kernel
theorem dX9_copyChunk_42 : decode cX9_copyChunk 42 = .ok (.aload_n 0, 1) := by decide +kernel
theorem dX9_copyChunk_43 : decode cX9_copyChunk 43 = .ok (.getfield 45, 3) := by decide +kernel
theorem dX9_copyChunk_46 : decode cX9_copyChunk 46 = .ok (.iload_n 2, 1) := by decide +kernel
theorem dX9_copyChunk_47 : decode cX9_copyChunk 47 = .ok (.aload_n 0, 1) := by decide +kernel
theorem dX9_copyChunk_48 : decode cX9_copyChunk 48 = .ok (.getfield 45, 3) := by decide +kernel
theorem dX9_copyChunk_51 : decode cX9_copyChunk 51 = .ok (.iload_n 1, 1) := by decide +kernel
theorem dX9_copyChunk_52 : decode cX9_copyChunk 52 = .ok (.iaload, 1) := by decide +kernel
theorem dX9_copyChunk_53 : decode cX9_copyChunk 53 = .ok (.iastore, 1) := by decide +kernel
theorem dX9_copyChunk_54 : decode cX9_copyChunk 54 = .ok (.aload_n 0, 1) := by decide +kernel
theorem dX9_copyChunk_55 : decode cX9_copyChunk 55 = .ok (.getfield 48, 3) := by decide +kernel
theorem dX9_copyChunk_58 : decode cX9_copyChunk 58 = .ok (.iload_n 2, 1) := by decide +kernel
theorem dX9_copyChunk_59 : decode cX9_copyChunk 59 = .ok (.aload_n 0, 1) := by decide +kernel
theorem dX9_copyChunk_60 : decode cX9_copyChunk 60 = .ok (.getfield 48, 3) := by decide +kernel
theorem dX9_copyChunk_63 : decode cX9_copyChunk 63 = .ok (.iload_n 1, 1) := by decide +kernel
theorem dX9_copyChunk_64 : decode cX9_copyChunk 64 = .ok (.iaload, 1) := by decide +kernel
theorem dX9_copyChunk_65 : decode cX9_copyChunk 65 = .ok (.iastore, 1) := by decide +kernel
theorem dX9_copyChunk_66 : decode cX9_copyChunk 66 = .ok (.aload_n 0, 1) := by decide +kernel
theorem dX9_copyChunk_67 : decode cX9_copyChunk 67 = .ok (.getfield 51, 3) := by decide +kernel
theorem dX9_copyChunk_70 : decode cX9_copyChunk 70 = .ok (.iload_n 2, 1) := by decide +kernel
theorem dX9_copyChunk_71 : decode cX9_copyChunk 71 = .ok (.aload_n 0, 1) := by decide +kernel
theorem dX9_copyChunk_72 : decode cX9_copyChunk 72 = .ok (.getfield 51, 3) := by decide +kernel
theorem dX9_copyChunk_75 : decode cX9_copyChunk 75 = .ok (.iload_n 1, 1) := by decide +kernel
theorem dX9_copyChunk_76 : decode cX9_copyChunk 76 = .ok (.iaload, 1) := by decide +kernel
theorem dX9_copyChunk_77 : decode cX9_copyChunk 77 = .ok (.iastore, 1) := by decide +kernel
theorem dX9_copyChunk_78 : decode cX9_copyChunk 78 = .ok (.aload_n 0, 1) := by decide +kernel
theorem dX9_copyChunk_79 : decode cX9_copyChunk 79 = .ok (.getfield 54, 3) := by decide +kernel
theorem dX9_copyChunk_82 : decode cX9_copyChunk 82 = .ok (.iload_n 2, 1) := by decide +kernel
theorem dX9_copyChunk_83 : decode cX9_copyChunk 83 = .ok (.aload_n 0, 1) := by decide +kernel
theorem dX9_copyChunk_84 : decode cX9_copyChunk 84 = .ok (.getfield 54, 3) := by decide +kernel
theorem dX9_copyChunk_87 : decode cX9_copyChunk 87 = .ok (.iload_n 1, 1) := by decide +kernel
theorem dX9_copyChunk_88 : decode cX9_copyChunk 88 = .ok (.iaload, 1) := by decide +kernel
theorem dX9_copyChunk_89 : decode cX9_copyChunk 89 = .ok (.iastore, 1) := by decide +kernel
theorem dX9_copyChunk_90 : decode cX9_copyChunk 90 = .ok (.aload_n 0, 1) := by decide +kernel
theorem dX9_copyChunk_91 : decode cX9_copyChunk 91 = .ok (.getfield 57, 3) := by decide +kernel
theorem dX9_copyChunk_94 : decode cX9_copyChunk 94 = .ok (.iload_n 2, 1) := by decide +kernel
theorem dX9_copyChunk_95 : decode cX9_copyChunk 95 = .ok (.aload_n 0, 1) := by decide +kernel
theorem dX9_copyChunk_96 : decode cX9_copyChunk 96 = .ok (.getfield 57, 3) := by decide +kernel
theorem dX9_copyChunk_99 : decode cX9_copyChunk 99 = .ok (.iload_n 1, 1) := by decide +kernel
theorem dX9_copyChunk_100 : decode cX9_copyChunk 100 = .ok (.iaload, 1) := by decide +kernel
theorem dX9_copyChunk_101 : decode cX9_copyChunk 101 = .ok (.iastore, 1) := by decide +kernel
theorem dX9_copyChunk_102 : decode cX9_copyChunk 102 = .ok (.return_, 1) := by decide +kernel
theorem dX9_rotate_0 : decode cX9_rotate 0 = .ok (.iconst 0, 1) := by decide +kernel
theorem dX9_rotate_1 : decode cX9_rotate 1 = .ok (.istore_n 1, 1) := by decide +kernel
theorem dX9_rotate_2 : decode cX9_rotate 2 = .ok (.iload_n 1, 1) := by decide +kernel
theorem dX9_rotate_3 : decode cX9_rotate 3 = .ok (.aload_n 0, 1) := by decide +kernel
theorem dX9_rotate_4 : decode cX9_rotate 4 = .ok (.getfield 136, 3) := by decide +kernel
theorem dX9_rotate_7 : decode cX9_rotate 7 = .ok (.if_icmp .ge 17, 3) := by decide +kernel
theorem dX9_rotate_10 : decode cX9_rotate 10 = .ok (.aload_n 0, 1) := by decide +kernel
theorem dX9_rotate_11 : decode cX9_rotate 11 = .ok (.iconst 3, 1) := by decide +kernel
theorem dX9_rotate_12 : decode cX9_rotate 12 = .ok (.iload_n 1, 1) := by decide +kernel
theorem dX9_rotate_13 : decode cX9_rotate 13 = .ok (.iadd, 1) := by decide +kernel
theorem dX9_rotate_14 : decode cX9_rotate 14 = .ok (.invokevirtual 153, 3) := by decide +kernel
theorem dX9_rotate_17 : decode cX9_rotate 17 = .ok (.istore_n 2, 1) := by decide +kernel
theorem dX9_rotate_18 : decode cX9_rotate 18 = .ok (.iinc 1 1, 3) := by decide +kernel
theorem dX9_rotate_21 : decode cX9_rotate 21 = .ok (.goto (-19), 3) := by decide +kernel
theorem dX9_rotate_24 : decode cX9_rotate 24 = .ok (.aload_n 0, 1) := by decide +kernel
theorem dX9_rotate_25 : decode cX9_rotate 25 = .ok (.iconst 0, 1) := by decide +kernel
theorem dX9_rotate_26 : decode cX9_rotate 26 = .ok (.putfield 136, 3) := by decide +kernel
theorem dX9_rotate_29 : decode cX9_rotate 29 = .ok (.iconst 0, 1) := by decide +kernel
theorem dX9_rotate_30 : decode cX9_rotate 30 = .ok (.istore_n 1, 1) := by decide +kernel
theorem dX9_rotate_31 : decode cX9_rotate 31 = .ok (.iload_n 1, 1) := by decide +kernel
theorem dX9_rotate_32 : decode cX9_rotate 32 = .ok (.iconst 3, 1) := by decide +kernel
theorem dX9_rotate_33 : decode cX9_rotate 33 = .ok (.if_icmp .ge 15, 3) := by decide +kernel
theorem dX9_rotate_36 : decode cX9_rotate 36 = .ok (.aload_n 0, 1) := by decide +kernel
theorem dX9_rotate_37 : decode cX9_rotate 37 = .ok (.iload_n 1, 1) := by decide +kernel
theorem dX9_rotate_38 : decode cX9_rotate 38 = .ok (.invokevirtual 153, 3) := by decide +kernel
theorem dX9_rotate_41 : decode cX9_rotate 41 = .ok (.istore_n 2, 1) := by decide +kernel
theorem dX9_rotate_42 : decode cX9_rotate 42 = .ok (.iinc 1 1, 3) := by decide +kernel
theorem dX9_rotate_45 : decode cX9_rotate 45 = .ok (.goto (-14), 3) := by decide +kernel
theorem dX9_rotate_48 : decode cX9_rotate 48 = .ok (.iconst 0, 1) := by decide +kernel
theorem dX9_rotate_49 : decode cX9_rotate 49 = .ok (.istore_n 1, 1) := by decide +kernel
theorem dX9_rotate_50 : decode cX9_rotate 50 = .ok (.iload_n 1, 1) := by decide +kernel
theorem dX9_rotate_51 : decode cX9_rotate 51 = .ok (.iconst 3, 1) := by decide +kernel
theorem dX9_rotate_52 : decode cX9_rotate 52 = .ok (.if_icmp .ge 23, 3) := by decide +kernel
theorem dX9_rotate_55 : decode cX9_rotate 55 = .ok (.aload_n 0, 1) := by decide +kernel
theorem dX9_rotate_56 : decode cX9_rotate 56 = .ok (.getfield 60, 3) := by decide +kernel
theorem dX9_rotate_59 : decode cX9_rotate 59 = .ok (.iload_n 1, 1) := by decide +kernel
theorem dX9_rotate_60 : decode cX9_rotate 60 = .ok (.iaload, 1) := by decide +kernel
theorem dX9_rotate_61 : decode cX9_rotate 61 = .ok (.ifCond .le 8, 3) := by decide +kernel
theorem dX9_rotate_64 : decode cX9_rotate 64 = .ok (.aload_n 0, 1) := by decide +kernel
theorem dX9_rotate_65 : decode cX9_rotate 65 = .ok (.iload_n 1, 1) := by decide +kernel
theorem dX9_rotate_66 : decode cX9_rotate 66 = .ok (.invokevirtual 156, 3) := by decide +kernel
theorem dX9_rotate_69 : decode cX9_rotate 69 = .ok (.iinc 1 1, 3) := by decide +kernel
theorem dX9_rotate_72 : decode cX9_rotate 72 = .ok (.goto (-22), 3) := by decide +kernel
theorem dX9_rotate_75 : decode cX9_rotate 75 = .ok (.aload_n 0, 1) := by decide +kernel
theorem dX9_rotate_76 : decode cX9_rotate 76 = .ok (.getfield 45, 3) := by decide +kernel
theorem dX9_rotate_79 : decode cX9_rotate 79 = .ok (.bipush 6, 2) := by decide +kernel
theorem dX9_rotate_81 : decode cX9_rotate 81 = .ok (.iaload, 1) := by decide +kernel
theorem dX9_rotate_82 : decode cX9_rotate 82 = .ok (.ifCond .le 23, 3) := by decide +kernel
theorem dX9_rotate_85 : decode cX9_rotate 85 = .ok (.aload_n 0, 1) := by decide +kernel
theorem dX9_rotate_86 : decode cX9_rotate 86 = .ok (.bipush 6, 2) := by decide +kernel
theorem dX9_rotate_88 : decode cX9_rotate 88 = .ok (.aload_n 0, 1) := by decide +kernel
theorem dX9_rotate_89 : decode cX9_rotate 89 = .ok (.getfield 159, 3) := by decide +kernel
theorem dX9_rotate_92 : decode cX9_rotate 92 = .ok (.invokevirtual 162, 3) := by decide +kernel
theorem dX9_rotate_95 : decode cX9_rotate 95 = .ok (.aload_n 0, 1) := by decide +kernel
theorem dX9_rotate_96 : decode cX9_rotate 96 = .ok (.dup, 1) := by decide +kernel
theorem dX9_rotate_97 : decode cX9_rotate 97 = .ok (.getfield 159, 3) := by decide +kernel
theorem dX9_rotate_100 : decode cX9_rotate 100 = .ok (.iconst 1, 1) := by decide +kernel
theorem dX9_rotate_101 : decode cX9_rotate 101 = .ok (.iadd, 1) := by decide +kernel
theorem dX9_rotate_102 : decode cX9_rotate 102 = .ok (.putfield 159, 3) := by decide +kernel
theorem dX9_rotate_105 : decode cX9_rotate 105 = .ok (.aload_n 0, 1) := by decide +kernel
theorem dX9_rotate_106 : decode cX9_rotate 106 = .ok (.getfield 159, 3) := by decide +kernel
theorem dX9_rotate_109 : decode cX9_rotate 109 = .ok (.aload_n 0, 1) := by decide +kernel
theorem dX9_rotate_110 : decode cX9_rotate 110 = .ok (.getfield 94, 3) := by decide +kernel
theorem dX9_rotate_113 : decode cX9_rotate 113 = .ok (.if_icmp .le 49, 3) := by decide +kernel
theorem dX9_rotate_116 : decode cX9_rotate 116 = .ok (.iconst 0, 1) := by decide +kernel
theorem dX9_rotate_117 : decode cX9_rotate 117 = .ok (.istore_n 1, 1) := by decide +kernel
theorem dX9_rotate_118 : decode cX9_rotate 118 = .ok (.iload_n 1, 1) := by decide +kernel
theorem dX9_rotate_119 : decode cX9_rotate 119 = .ok (.iconst 1, 1) := by decide +kernel
theorem dX9_rotate_120 : decode cX9_rotate 120 = .ok (.iadd, 1) := by decide +kernel
theorem dX9_rotate_121 : decode cX9_rotate 121 = .ok (.aload_n 0, 1) := by decide +kernel
theorem dX9_rotate_122 : decode cX9_rotate 122 = .ok (.getfield 159, 3) := by decide +kernel
theorem dX9_rotate_125 : decode cX9_rotate 125 = .ok (.if_icmp .ge 17, 3) := by decide +kernel
theorem dX9_rotate_128 : decode cX9_rotate 128 = .ok (.aload_n 0, 1) := by decide +kernel
theorem dX9_rotate_129 : decode cX9_rotate 129 = .ok (.iload_n 1, 1) := by decide +kernel
theorem dX9_rotate_130 : decode cX9_rotate 130 = .ok (.iconst 1, 1) := by decide +kernel
theorem dX9_rotate_131 : decode cX9_rotate 131 = .ok (.iadd, 1) := by decide +kernel
theorem dX9_rotate_132 : decode cX9_rotate 132 = .ok (.iload_n 1, 1) := by decide +kernel
theorem dX9_rotate_133 : decode cX9_rotate 133 = .ok (.invokevirtual 162, 3) := by decide +kernel
theorem dX9_rotate_136 : decode cX9_rotate 136 = .ok (.iinc 1 1, 3) := by decide +kernel
theorem dX9_rotate_139 : decode cX9_rotate 139 = .ok (.goto (-21), 3) := by decide +kernel
theorem dX9_rotate_142 : decode cX9_rotate 142 = .ok (.aload_n 0, 1) := by decide +kernel
theorem dX9_rotate_143 : decode cX9_rotate 143 = .ok (.dup, 1) := by decide +kernel
theorem dX9_rotate_144 : decode cX9_rotate 144 = .ok (.getfield 159, 3) := by decide +kernel
theorem dX9_rotate_147 : decode cX9_rotate 147 = .ok (.iconst 1, 1) := by decide +kernel
theorem dX9_rotate_148 : decode cX9_rotate 148 = .ok (.isub, 1) := by decide +kernel
theorem dX9_rotate_149 : decode cX9_rotate 149 = .ok (.putfield 159, 3) := by decide +kernel
theorem dX9_rotate_152 : decode cX9_rotate 152 = .ok (.aload_n 0, 1) := by decide +kernel
theorem dX9_rotate_153 : decode cX9_rotate 153 = .ok (.dup, 1) := by decide +kernel
theorem dX9_rotate_154 : decode cX9_rotate 154 = .ok (.getfield 165, 3) := by decide +kernel
theorem dX9_rotate_157 : decode cX9_rotate 157 = .ok (.iconst 1, 1) := by decide +kernel
theorem dX9_rotate_158 : decode cX9_rotate 158 = .ok (.iadd, 1) := by decide +kernel
theorem dX9_rotate_159 : decode cX9_rotate 159 = .ok (.putfield 165, 3) := by decide +kernel
theorem dX9_rotate_162 : decode cX9_rotate 162 = .ok (.aload_n 0, 1) := by decide +kernel
theorem dX9_rotate_163 : decode cX9_rotate 163 = .ok (.getfield 48, 3) := by decide +kernel
theorem dX9_rotate_166 : decode cX9_rotate 166 = .ok (.bipush 6, 2) := by decide +kernel
theorem dX9_rotate_168 : decode cX9_rotate 168 = .ok (.dup2, 1) := by decide +kernel
theorem dX9_rotate_169 : decode cX9_rotate 169 = .ok (.iaload, 1) := by decide +kernel
theorem dX9_rotate_170 : decode cX9_rotate 170 = .ok (.iconst 1, 1) := by decide +kernel
theorem dX9_rotate_171 : decode cX9_rotate 171 = .ok (.iadd, 1) := by decide +kernel
theorem dX9_rotate_172 : decode cX9_rotate 172 = .ok (.iastore, 1) := by decide +kernel
theorem dX9_rotate_173 : decode cX9_rotate 173 = .ok (.aload_n 0, 1) := by decide +kernel
theorem dX9_rotate_174 : decode cX9_rotate 174 = .ok (.getfield 51, 3) := by decide +kernel
theorem dX9_rotate_177 : decode cX9_rotate 177 = .ok (.bipush 6, 2) := by decide +kernel
theorem dX9_rotate_179 : decode cX9_rotate 179 = .ok (.aload_n 0, 1) := by decide +kernel
theorem dX9_rotate_180 : decode cX9_rotate 180 = .ok (.getfield 106, 3) := by decide +kernel
theorem dX9_rotate_183 : decode cX9_rotate 183 = .ok (.iastore, 1) := by decide +kernel
theorem dX9_rotate_184 : decode cX9_rotate 184 = .ok (.aload_n 0, 1) := by decide +kernel
theorem dX9_rotate_185 : decode cX9_rotate 185 = .ok (.getfield 45, 3) := by decide +kernel
theorem dX9_rotate_188 : decode cX9_rotate 188 = .ok (.bipush 6, 2) := by decide +kernel
theorem dX9_rotate_190 : decode cX9_rotate 190 = .ok (.iconst 0, 1) := by decide +kernel
theorem dX9_rotate_191 : decode cX9_rotate 191 = .ok (.iastore, 1) := by decide +kernel
theorem dX9_rotate_192 : decode cX9_rotate 192 = .ok (.aload_n 0, 1) := by decide +kernel
theorem dX9_rotate_193 : decode cX9_rotate 193 = .ok (.getfield 54, 3) := by decide +kernel
theorem dX9_rotate_196 : decode cX9_rotate 196 = .ok (.bipush 6, 2) := by decide +kernel
theorem dX9_rotate_198 : decode cX9_rotate 198 = .ok (.iconst 0, 1) := by decide +kernel
theorem dX9_rotate_199 : decode cX9_rotate 199 = .ok (.iastore, 1) := by decide +kernel
theorem dX9_rotate_200 : decode cX9_rotate 200 = .ok (.aload_n 0, 1) := by decide +kernel
theorem dX9_rotate_201 : decode cX9_rotate 201 = .ok (.getfield 57, 3) := by decide +kernel
theorem dX9_rotate_204 : decode cX9_rotate 204 = .ok (.bipush 6, 2) := by decide +kernel
theorem dX9_rotate_206 : decode cX9_rotate 206 = .ok (.iconst 0, 1) := by decide +kernel
theorem dX9_rotate_207 : decode cX9_rotate 207 = .ok (.iastore, 1) := by decide +kernel
theorem dX9_rotate_208 : decode cX9_rotate 208 = .ok (.return_, 1) := by decide +kernel
theorem dX9_flush_0 : decode cX9_flush 0 = .ok (.aload_n 0, 1) := by decide +kernel
theorem dX9_flush_1 : decode cX9_flush 1 = .ok (.iconst 0, 1) := by decide +kernel
theorem dX9_flush_2 : decode cX9_flush 2 = .ok (.putfield 97, 3) := by decide +kernel
theorem dX9_flush_5 : decode cX9_flush 5 = .ok (.aload_n 0, 1) := by decide +kernel
theorem dX9_flush_6 : decode cX9_flush 6 = .ok (.getfield 136, 3) := by decide +kernel
theorem dX9_flush_9 : decode cX9_flush 9 = .ok (.ifCond .ne 5, 3) := by decide +kernel
theorem dX9_flush_12 : decode cX9_flush 12 = .ok (.iconst 0, 1) := by decide +kernel
theorem dX9_flush_13 : decode cX9_flush 13 = .ok (.ireturn, 1) := by decide +kernel
theorem dX9_flush_14 : decode cX9_flush 14 = .ok (.aload_n 0, 1) := by decide +kernel
theorem dX9_flush_15 : decode cX9_flush 15 = .ok (.iconst 3, 1) := by decide +kernel
theorem dX9_flush_16 : decode cX9_flush 16 = .ok (.invokevirtual 153, 3) := by decide +kernel
theorem dX9_flush_19 : decode cX9_flush 19 = .ok (.istore_n 1, 1) := by decide +kernel
theorem dX9_flush_20 : decode cX9_flush 20 = .ok (.iconst 1, 1) := by decide +kernel
theorem dX9_flush_21 : decode cX9_flush 21 = .ok (.istore_n 2, 1) := by decide +kernel
theorem dX9_flush_22 : decode cX9_flush 22 = .ok (.iload_n 2, 1) := by decide +kernel
theorem dX9_flush_23 : decode cX9_flush 23 = .ok (.aload_n 0, 1) := by decide +kernel
theorem dX9_flush_24 : decode cX9_flush 24 = .ok (.getfield 136, 3) := by decide +kernel
theorem dX9_flush_27 : decode cX9_flush 27 = .ok (.if_icmp .ge 19, 3) := by decide +kernel
theorem dX9_flush_30 : decode cX9_flush 30 = .ok (.aload_n 0, 1) := by decide +kernel
theorem dX9_flush_31 : decode cX9_flush 31 = .ok (.iconst 3, 1) := by decide +kernel
theorem dX9_flush_32 : decode cX9_flush 32 = .ok (.iload_n 2, 1) := by decide +kernel
theorem dX9_flush_33 : decode cX9_flush 33 = .ok (.iadd, 1) := by decide +kernel
theorem dX9_flush_34 : decode cX9_flush 34 = .ok (.iconst 2, 1) := by decide +kernel
theorem dX9_flush_35 : decode cX9_flush 35 = .ok (.iload_n 2, 1) := by decide +kernel
theorem dX9_flush_36 : decode cX9_flush 36 = .ok (.iadd, 1) := by decide +kernel
theorem dX9_flush_37 : decode cX9_flush 37 = .ok (.invokevirtual 147, 3) := by decide +kernel
theorem dX9_flush_40 : decode cX9_flush 40 = .ok (.iinc 2 1, 3) := by decide +kernel
theorem dX9_flush_43 : decode cX9_flush 43 = .ok (.goto (-21), 3) := by decide +kernel
theorem dX9_flush_46 : decode cX9_flush 46 = .ok (.aload_n 0, 1) := by decide +kernel
theorem dX9_flush_47 : decode cX9_flush 47 = .ok (.dup, 1) := by decide +kernel
theorem dX9_flush_48 : decode cX9_flush 48 = .ok (.getfield 136, 3) := by decide +kernel
theorem dX9_flush_51 : decode cX9_flush 51 = .ok (.iconst 1, 1) := by decide +kernel
theorem dX9_flush_52 : decode cX9_flush 52 = .ok (.isub, 1) := by decide +kernel
theorem dX9_flush_53 : decode cX9_flush 53 = .ok (.putfield 136, 3) := by decide +kernel
theorem dX9_flush_56 : decode cX9_flush 56 = .ok (.aload_n 0, 1) := by decide +kernel
theorem dX9_flush_57 : decode cX9_flush 57 = .ok (.getfield 45, 3) := by decide +kernel
theorem dX9_flush_60 : decode cX9_flush 60 = .ok (.bipush 6, 2) := by decide +kernel
theorem dX9_flush_62 : decode cX9_flush 62 = .ok (.iaload, 1) := by decide +kernel
theorem dX9_flush_63 : decode cX9_flush 63 = .ok (.sipush 150, 3) := by decide +kernel
theorem dX9_flush_66 : decode cX9_flush 66 = .ok (.if_icmp .le 7, 3) := by decide +kernel
theorem dX9_flush_69 : decode cX9_flush 69 = .ok (.aload_n 0, 1) := by decide +kernel
theorem dX9_flush_70 : decode cX9_flush 70 = .ok (.invokevirtual 168, 3) := by decide +kernel
theorem dX9_flush_73 : decode cX9_flush 73 = .ok (.iload_n 1, 1) := by decide +kernel
theorem dX9_flush_74 : decode cX9_flush 74 = .ok (.ireturn, 1) := by decide +kernel
theorem dX9_digit_0 : decode cX9_digit 0 = .ok (.iload_n 1, 1) := by decide +kernel
theorem dX9_digit_1 : decode cX9_digit 1 = .ok (.iload_n 2, 1) := by decide +kernel
theorem dX9_digit_2 : decode cX9_digit 2 = .ok (.if_icmp .ge 29, 3) := by decide +kernel
theorem dX9_digit_5 : decode cX9_digit 5 = .ok (.aload_n 0, 1) := by decide +kernel
theorem dX9_digit_6 : decode cX9_digit 6 = .ok (.getfield 7, 3) := by decide +kernel
theorem dX9_digit_9 : decode cX9_digit 9 = .ok (.iload_n 1, 1) := by decide +kernel
theorem dX9_digit_10 : decode cX9_digit 10 = .ok (.caload, 1) := by decide +kernel
theorem dX9_digit_11 : decode cX9_digit 11 = .ok (.bipush 48, 2) := by decide +kernel
theorem dX9_digit_13 : decode cX9_digit 13 = .ok (.if_icmp .lt 18, 3) := by decide +kernel
theorem dX9_digit_16 : decode cX9_digit 16 = .ok (.aload_n 0, 1) := by decide +kernel
theorem dX9_digit_17 : decode cX9_digit 17 = .ok (.getfield 7, 3) := by decide +kernel
theorem dX9_digit_20 : decode cX9_digit 20 = .ok (.iload_n 1, 1) := by decide +kernel
theorem dX9_digit_21 : decode cX9_digit 21 = .ok (.caload, 1) := by decide +kernel
theorem dX9_digit_22 : decode cX9_digit 22 = .ok (.bipush 57, 2) := by decide +kernel
theorem dX9_digit_24 : decode cX9_digit 24 = .ok (.if_icmp .gt 7, 3) := by decide +kernel
theorem dX9_digit_27 : decode cX9_digit 27 = .ok (.iconst 1, 1) := by decide +kernel
theorem dX9_digit_28 : decode cX9_digit 28 = .ok (.goto 4, 3) := by decide +kernel
theorem dX9_digit_31 : decode cX9_digit 31 = .ok (.iconst 0, 1) := by decide +kernel
theorem dX9_digit_32 : decode cX9_digit 32 = .ok (.ireturn, 1) := by decide +kernel
theorem dX9_itemEnd_0 : decode cX9_itemEnd 0 = .ok (.aload_n 0, 1) := by decide +kernel
theorem dX9_itemEnd_1 : decode cX9_itemEnd 1 = .ok (.iload_n 1, 1) := by decide +kernel
theorem dX9_itemEnd_2 : decode cX9_itemEnd 2 = .ok (.iload_n 2, 1) := by decide +kernel
theorem dX9_itemEnd_3 : decode cX9_itemEnd 3 = .ok (.invokevirtual 171, 3) := by decide +kernel
theorem dX9_itemEnd_6 : decode cX9_itemEnd 6 = .ok (.ifCond .eq 52, 3) := by decide +kernel
theorem dX9_itemEnd_9 : decode cX9_itemEnd 9 = .ok (.aload_n 0, 1) := by decide +kernel
theorem dX9_itemEnd_10 : decode cX9_itemEnd 10 = .ok (.getfield 7, 3) := by decide +kernel
theorem dX9_itemEnd_13 : decode cX9_itemEnd 13 = .ok (.iload_n 1, 1) := by decide +kernel
theorem dX9_itemEnd_14 : decode cX9_itemEnd 14 = .ok (.caload, 1) := by decide +kernel
theorem dX9_itemEnd_15 : decode cX9_itemEnd 15 = .ok (.bipush 48, 2) := by decide +kernel
theorem dX9_itemEnd_17 : decode cX9_itemEnd 17 = .ok (.isub, 1) := by decide +kernel
theorem dX9_itemEnd_18 : decode cX9_itemEnd 18 = .ok (.aload_n 0, 1) := by decide +kernel
theorem dX9_itemEnd_19 : decode cX9_itemEnd 19 = .ok (.getfield 109, 3) := by decide +kernel
theorem dX9_itemEnd_22 : decode cX9_itemEnd 22 = .ok (.if_icmp .ge 36, 3) := by decide +kernel
theorem dX9_itemEnd_25 : decode cX9_itemEnd 25 = .ok (.iload_n 1, 1) := by decide +kernel
theorem dX9_itemEnd_26 : decode cX9_itemEnd 26 = .ok (.iconst 1, 1) := by decide +kernel
theorem dX9_itemEnd_27 : decode cX9_itemEnd 27 = .ok (.iadd, 1) := by decide +kernel
theorem dX9_itemEnd_28 : decode cX9_itemEnd 28 = .ok (.iload_n 2, 1) := by decide +kernel
theorem dX9_itemEnd_29 : decode cX9_itemEnd 29 = .ok (.if_icmp .ge 29, 3) := by decide +kernel
theorem dX9_itemEnd_32 : decode cX9_itemEnd 32 = .ok (.aload_n 0, 1) := by decide +kernel
theorem dX9_itemEnd_33 : decode cX9_itemEnd 33 = .ok (.getfield 7, 3) := by decide +kernel
theorem dX9_itemEnd_36 : decode cX9_itemEnd 36 = .ok (.iload_n 1, 1) := by decide +kernel
theorem dX9_itemEnd_37 : decode cX9_itemEnd 37 = .ok (.iconst 1, 1) := by decide +kernel
theorem dX9_itemEnd_38 : decode cX9_itemEnd 38 = .ok (.iadd, 1) := by decide +kernel
theorem dX9_itemEnd_39 : decode cX9_itemEnd 39 = .ok (.caload, 1) := by decide +kernel
theorem dX9_itemEnd_40 : decode cX9_itemEnd 40 = .ok (.bipush 43, 2) := by decide +kernel
theorem dX9_itemEnd_42 : decode cX9_itemEnd 42 = .ok (.if_icmp .eq 18, 3) := by decide +kernel
theorem dX9_itemEnd_45 : decode cX9_itemEnd 45 = .ok (.aload_n 0, 1) := by decide +kernel
theorem dX9_itemEnd_46 : decode cX9_itemEnd 46 = .ok (.getfield 7, 3) := by decide +kernel
theorem dX9_itemEnd_49 : decode cX9_itemEnd 49 = .ok (.iload_n 1, 1) := by decide +kernel
theorem dX9_itemEnd_50 : decode cX9_itemEnd 50 = .ok (.iconst 1, 1) := by decide +kernel
theorem dX9_itemEnd_51 : decode cX9_itemEnd 51 = .ok (.iadd, 1) := by decide +kernel
theorem dX9_itemEnd_52 : decode cX9_itemEnd 52 = .ok (.caload, 1) := by decide +kernel
theorem dX9_itemEnd_53 : decode cX9_itemEnd 53 = .ok (.bipush 45, 2) := by decide +kernel
theorem dX9_itemEnd_55 : decode cX9_itemEnd 55 = .ok (.if_icmp .eq 5, 3) := by decide +kernel
theorem dX9_itemEnd_58 : decode cX9_itemEnd 58 = .ok (.iconst (-1), 1) := by decide +kernel
theorem dX9_itemEnd_59 : decode cX9_itemEnd 59 = .ok (.ireturn, 1) := by decide +kernel
theorem dX9_itemEnd_60 : decode cX9_itemEnd 60 = .ok (.iload_n 1, 1) := by decide +kernel
theorem dX9_itemEnd_61 : decode cX9_itemEnd 61 = .ok (.iconst 2, 1) := by decide +kernel
theorem dX9_itemEnd_62 : decode cX9_itemEnd 62 = .ok (.iadd, 1) := by decide +kernel
theorem dX9_itemEnd_63 : decode cX9_itemEnd 63 = .ok (.istore_n 3, 1) := by decide +kernel
theorem dX9_itemEnd_64 : decode cX9_itemEnd 64 = .ok (.aload_n 0, 1) := by decide +kernel
theorem dX9_itemEnd_65 : decode cX9_itemEnd 65 = .ok (.iload_n 3, 1) := by decide +kernel
theorem dX9_itemEnd_66 : decode cX9_itemEnd 66 = .ok (.iload_n 2, 1) := by decide +kernel
theorem dX9_itemEnd_67 : decode cX9_itemEnd 67 = .ok (.invokevirtual 171, 3) := by decide +kernel
theorem dX9_itemEnd_70 : decode cX9_itemEnd 70 = .ok (.ifCond .eq 9, 3) := by decide +kernel
theorem dX9_itemEnd_73 : decode cX9_itemEnd 73 = .ok (.iinc 3 1, 3) := by decide +kernel
theorem dX9_itemEnd_76 : decode cX9_itemEnd 76 = .ok (.goto (-12), 3) := by decide +kernel
theorem dX9_itemEnd_79 : decode cX9_itemEnd 79 = .ok (.iload_n 3, 1) := by decide +kernel
theorem dX9_itemEnd_80 : decode cX9_itemEnd 80 = .ok (.iload_n 1, 1) := by decide +kernel
theorem dX9_itemEnd_81 : decode cX9_itemEnd 81 = .ok (.iconst 5, 1) := by decide +kernel
theorem dX9_itemEnd_82 : decode cX9_itemEnd 82 = .ok (.iadd, 1) := by decide +kernel
theorem dX9_itemEnd_83 : decode cX9_itemEnd 83 = .ok (.if_icmp .le 7, 3) := by decide +kernel
theorem dX9_itemEnd_86 : decode cX9_itemEnd 86 = .ok (.iconst (-1), 1) := by decide +kernel
theorem dX9_itemEnd_87 : decode cX9_itemEnd 87 = .ok (.goto 4, 3) := by decide +kernel
theorem dX9_itemEnd_90 : decode cX9_itemEnd 90 = .ok (.iload_n 3, 1) := by decide +kernel
theorem dX9_itemEnd_91 : decode cX9_itemEnd 91 = .ok (.ireturn, 1) := by decide +kernel
theorem dX9_items_0 : decode cX9_items 0 = .ok (.iconst 0, 1) := by decide +kernel
theorem dX9_items_1 : decode cX9_items 1 = .ok (.istore_n 3, 1) := by decide +kernel
theorem dX9_items_2 : decode cX9_items 2 = .ok (.iload_n 1, 1) := by decide +kernel
theorem dX9_items_3 : decode cX9_items 3 = .ok (.istore 4, 2) := by decide +kernel
theorem dX9_items_5 : decode cX9_items 5 = .ok (.iload 4, 2) := by decide +kernel
theorem dX9_items_7 : decode cX9_items 7 = .ok (.iload_n 2, 1) := by decide +kernel
theorem dX9_items_8 : decode cX9_items 8 = .ok (.if_icmp .gt 46, 3) := by decide +kernel
theorem dX9_items_11 : decode cX9_items 11 = .ok (.aload_n 0, 1) := by decide +kernel
theorem dX9_items_12 : decode cX9_items 12 = .ok (.iload 4, 2) := by decide +kernel
theorem dX9_items_14 : decode cX9_items 14 = .ok (.iload_n 2, 1) := by decide +kernel
theorem dX9_items_15 : decode cX9_items 15 = .ok (.invokevirtual 175, 3) := by decide +kernel
theorem dX9_items_18 : decode cX9_items 18 = .ok (.istore 4, 2) := by decide +kernel
theorem dX9_items_20 : decode cX9_items 20 = .ok (.iload 4, 2) := by decide +kernel
theorem dX9_items_22 : decode cX9_items 22 = .ok (.ifCond .lt 21, 3) := by decide +kernel
theorem dX9_items_25 : decode cX9_items 25 = .ok (.iload 4, 2) := by decide +kernel
theorem dX9_items_27 : decode cX9_items 27 = .ok (.iload_n 2, 1) := by decide +kernel
theorem dX9_items_28 : decode cX9_items 28 = .ok (.if_icmp .ge 17, 3) := by decide +kernel
theorem dX9_items_31 : decode cX9_items 31 = .ok (.aload_n 0, 1) := by decide +kernel
theorem dX9_items_32 : decode cX9_items 32 = .ok (.getfield 7, 3) := by decide +kernel
theorem dX9_items_35 : decode cX9_items 35 = .ok (.iload 4, 2) := by decide +kernel
theorem dX9_items_37 : decode cX9_items 37 = .ok (.caload, 1) := by decide +kernel
theorem dX9_items_38 : decode cX9_items 38 = .ok (.bipush 44, 2) := by decide +kernel
theorem dX9_items_40 : decode cX9_items 40 = .ok (.if_icmp .eq 5, 3) := by decide +kernel
theorem dX9_items_43 : decode cX9_items 43 = .ok (.iconst (-1), 1) := by decide +kernel
theorem dX9_items_44 : decode cX9_items 44 = .ok (.ireturn, 1) := by decide +kernel
theorem dX9_items_45 : decode cX9_items 45 = .ok (.iinc 3 1, 3) := by decide +kernel
theorem dX9_items_48 : decode cX9_items 48 = .ok (.iinc 4 1, 3) := by decide +kernel
theorem dX9_items_51 : decode cX9_items 51 = .ok (.goto (-46), 3) := by decide +kernel
theorem dX9_items_54 : decode cX9_items 54 = .ok (.iload_n 3, 1) := by decide +kernel
theorem dX9_items_55 : decode cX9_items 55 = .ok (.ireturn, 1) := by decide +kernel
theorem dX9_set_0 : decode cX9_set 0 = .ok (.iload_n 2, 1) := by decide +kernel
theorem dX9_set_1 : decode cX9_set 1 = .ok (.istore 4, 2) := by decide +kernel
theorem dX9_set_3 : decode cX9_set 3 = .ok (.iload 4, 2) := by decide +kernel
theorem dX9_set_5 : decode cX9_set 5 = .ok (.iload_n 3, 1) := by decide +kernel
theorem dX9_set_6 : decode cX9_set 6 = .ok (.if_icmp .ge 142, 3) := by decide +kernel
theorem dX9_set_9 : decode cX9_set 9 = .ok (.aload_n 0, 1) := by decide +kernel
theorem dX9_set_10 : decode cX9_set 10 = .ok (.getfield 7, 3) := by decide +kernel
theorem dX9_set_13 : decode cX9_set 13 = .ok (.iload 4, 2) := by decide +kernel
theorem dX9_set_15 : decode cX9_set 15 = .ok (.caload, 1) := by decide +kernel
theorem dX9_set_16 : decode cX9_set 16 = .ok (.bipush 48, 2) := by decide +kernel
theorem dX9_set_18 : decode cX9_set 18 = .ok (.isub, 1) := by decide +kernel
theorem dX9_set_19 : decode cX9_set 19 = .ok (.istore 5, 2) := by decide +kernel
theorem dX9_set_21 : decode cX9_set 21 = .ok (.aload_n 0, 1) := by decide +kernel
theorem dX9_set_22 : decode cX9_set 22 = .ok (.iload 4, 2) := by decide +kernel
theorem dX9_set_24 : decode cX9_set 24 = .ok (.iload_n 3, 1) := by decide +kernel
theorem dX9_set_25 : decode cX9_set 25 = .ok (.invokevirtual 175, 3) := by decide +kernel
theorem dX9_set_28 : decode cX9_set 28 = .ok (.istore 6, 2) := by decide +kernel
theorem dX9_set_30 : decode cX9_set 30 = .ok (.aload_n 0, 1) := by decide +kernel
theorem dX9_set_31 : decode cX9_set 31 = .ok (.getfield 69, 3) := by decide +kernel
theorem dX9_set_34 : decode cX9_set 34 = .ok (.bipush 6, 2) := by decide +kernel
theorem dX9_set_36 : decode cX9_set 36 = .ok (.iload_n 1, 1) := by decide +kernel
theorem dX9_set_37 : decode cX9_set 37 = .ok (.imul, 1) := by decide +kernel
theorem dX9_set_38 : decode cX9_set 38 = .ok (.iload 5, 2) := by decide +kernel
theorem dX9_set_40 : decode cX9_set 40 = .ok (.iadd, 1) := by decide +kernel
theorem dX9_set_41 : decode cX9_set 41 = .ok (.aload_n 0, 1) := by decide +kernel
theorem dX9_set_42 : decode cX9_set 42 = .ok (.getfield 7, 3) := by decide +kernel
theorem dX9_set_45 : decode cX9_set 45 = .ok (.iload 4, 2) := by decide +kernel
theorem dX9_set_47 : decode cX9_set 47 = .ok (.iconst 1, 1) := by decide +kernel
theorem dX9_set_48 : decode cX9_set 48 = .ok (.iadd, 1) := by decide +kernel
theorem dX9_set_49 : decode cX9_set 49 = .ok (.caload, 1) := by decide +kernel
theorem dX9_set_50 : decode cX9_set 50 = .ok (.bipush 45, 2) := by decide +kernel
theorem dX9_set_52 : decode cX9_set 52 = .ok (.if_icmp .ne 7, 3) := by decide +kernel
theorem dX9_set_55 : decode cX9_set 55 = .ok (.iconst 1, 1) := by decide +kernel
theorem dX9_set_56 : decode cX9_set 56 = .ok (.goto 4, 3) := by decide +kernel
theorem dX9_set_59 : decode cX9_set 59 = .ok (.iconst 0, 1) := by decide +kernel
theorem dX9_set_60 : decode cX9_set 60 = .ok (.bastore, 1) := by decide +kernel
theorem dX9_set_61 : decode cX9_set 61 = .ok (.iconst 0, 1) := by decide +kernel
theorem dX9_set_62 : decode cX9_set 62 = .ok (.istore 7, 2) := by decide +kernel
theorem dX9_set_64 : decode cX9_set 64 = .ok (.iload 4, 2) := by decide +kernel
theorem dX9_set_66 : decode cX9_set 66 = .ok (.iconst 2, 1) := by decide +kernel
theorem dX9_set_67 : decode cX9_set 67 = .ok (.iadd, 1) := by decide +kernel
theorem dX9_set_68 : decode cX9_set 68 = .ok (.istore 8, 2) := by decide +kernel
theorem dX9_set_70 : decode cX9_set 70 = .ok (.iload 8, 2) := by decide +kernel
theorem dX9_set_72 : decode cX9_set 72 = .ok (.iload 6, 2) := by decide +kernel
theorem dX9_set_74 : decode cX9_set 74 = .ok (.if_icmp .ge 27, 3) := by decide +kernel
theorem dX9_set_77 : decode cX9_set 77 = .ok (.bipush 10, 2) := by decide +kernel
theorem dX9_set_79 : decode cX9_set 79 = .ok (.iload 7, 2) := by decide +kernel
theorem dX9_set_81 : decode cX9_set 81 = .ok (.imul, 1) := by decide +kernel
theorem dX9_set_82 : decode cX9_set 82 = .ok (.aload_n 0, 1) := by decide +kernel
theorem dX9_set_83 : decode cX9_set 83 = .ok (.getfield 7, 3) := by decide +kernel
theorem dX9_set_86 : decode cX9_set 86 = .ok (.iload 8, 2) := by decide +kernel
theorem dX9_set_88 : decode cX9_set 88 = .ok (.caload, 1) := by decide +kernel
theorem dX9_set_89 : decode cX9_set 89 = .ok (.iadd, 1) := by decide +kernel
theorem dX9_set_90 : decode cX9_set 90 = .ok (.bipush 48, 2) := by decide +kernel
theorem dX9_set_92 : decode cX9_set 92 = .ok (.isub, 1) := by decide +kernel
theorem dX9_set_93 : decode cX9_set 93 = .ok (.istore 7, 2) := by decide +kernel
theorem dX9_set_95 : decode cX9_set 95 = .ok (.iinc 8 1, 3) := by decide +kernel
theorem dX9_set_98 : decode cX9_set 98 = .ok (.goto (-28), 3) := by decide +kernel
theorem dX9_set_101 : decode cX9_set 101 = .ok (.aload_n 0, 1) := by decide +kernel
theorem dX9_set_102 : decode cX9_set 102 = .ok (.getfield 72, 3) := by decide +kernel
theorem dX9_set_105 : decode cX9_set 105 = .ok (.bipush 6, 2) := by decide +kernel
theorem dX9_set_107 : decode cX9_set 107 = .ok (.iload_n 1, 1) := by decide +kernel
theorem dX9_set_108 : decode cX9_set 108 = .ok (.imul, 1) := by decide +kernel
theorem dX9_set_109 : decode cX9_set 109 = .ok (.iload 5, 2) := by decide +kernel
theorem dX9_set_111 : decode cX9_set 111 = .ok (.iadd, 1) := by decide +kernel
theorem dX9_set_112 : decode cX9_set 112 = .ok (.iload 6, 2) := by decide +kernel
theorem dX9_set_114 : decode cX9_set 114 = .ok (.iload 4, 2) := by decide +kernel
theorem dX9_set_116 : decode cX9_set 116 = .ok (.iconst 2, 1) := by decide +kernel
theorem dX9_set_117 : decode cX9_set 117 = .ok (.iadd, 1) := by decide +kernel
theorem dX9_set_118 : decode cX9_set 118 = .ok (.if_icmp .le 8, 3) := by decide +kernel
theorem dX9_set_121 : decode cX9_set 121 = .ok (.iload 7, 2) := by decide +kernel
theorem dX9_set_123 : decode cX9_set 123 = .ok (.goto 15, 3) := by decide +kernel
theorem dX9_set_126 : decode cX9_set 126 = .ok (.aload_n 0, 1) := by decide +kernel
theorem dX9_set_127 : decode cX9_set 127 = .ok (.getfield 72, 3) := by decide +kernel
theorem dX9_set_130 : decode cX9_set 130 = .ok (.bipush 6, 2) := by decide +kernel
theorem dX9_set_132 : decode cX9_set 132 = .ok (.iload_n 1, 1) := by decide +kernel
theorem dX9_set_133 : decode cX9_set 133 = .ok (.imul, 1) := by decide +kernel
theorem dX9_set_134 : decode cX9_set 134 = .ok (.iload 5, 2) := by decide +kernel
theorem dX9_set_136 : decode cX9_set 136 = .ok (.iadd, 1) := by decide +kernel
theorem dX9_set_137 : decode cX9_set 137 = .ok (.iaload, 1) := by decide +kernel
theorem dX9_set_138 : decode cX9_set 138 = .ok (.iastore, 1) := by decide +kernel
theorem dX9_set_139 : decode cX9_set 139 = .ok (.iload 6, 2) := by decide +kernel
theorem dX9_set_141 : decode cX9_set 141 = .ok (.iconst 1, 1) := by decide +kernel
theorem dX9_set_142 : decode cX9_set 142 = .ok (.iadd, 1) := by decide +kernel
theorem dX9_set_143 : decode cX9_set 143 = .ok (.istore 4, 2) := by decide +kernel
theorem dX9_set_145 : decode cX9_set 145 = .ok (.goto (-142), 3) := by decide +kernel
theorem dX9_set_148 : decode cX9_set 148 = .ok (.return_, 1) := by decide +kernel
theorem dX9_record_0 : decode cX9_record 0 = .ok (.aload_n 0, 1) := by decide +kernel
theorem dX9_record_1 : decode cX9_record 1 = .ok (.aload_n 0, 1) := by decide +kernel
theorem dX9_record_2 : decode cX9_record 2 = .ok (.getfield 100, 3) := by decide +kernel
theorem dX9_record_5 : decode cX9_record 5 = .ok (.iconst 4, 1) := by decide +kernel
theorem dX9_record_6 : decode cX9_record 6 = .ok (.if_icmp .ne 7, 3) := by decide +kernel
theorem dX9_record_9 : decode cX9_record 9 = .ok (.iconst 1, 1) := by decide +kernel
theorem dX9_record_10 : decode cX9_record 10 = .ok (.goto 4, 3) := by decide +kernel
theorem dX9_record_13 : decode cX9_record 13 = .ok (.iconst 0, 1) := by decide +kernel
theorem dX9_record_14 : decode cX9_record 14 = .ok (.putfield 97, 3) := by decide +kernel
theorem dX9_record_17 : decode cX9_record 17 = .ok (.aload_n 0, 1) := by decide +kernel
theorem dX9_record_18 : decode cX9_record 18 = .ok (.getfield 97, 3) := by decide +kernel
theorem dX9_record_21 : decode cX9_record 21 = .ok (.ifCond .le 5, 3) := by decide +kernel
theorem dX9_record_24 : decode cX9_record 24 = .ok (.iconst 0, 1) := by decide +kernel
theorem dX9_record_25 : decode cX9_record 25 = .ok (.ireturn, 1) := by decide +kernel
theorem dX9_record_26 : decode cX9_record 26 = .ok (.aload_n 0, 1) := by decide +kernel
theorem dX9_record_27 : decode cX9_record 27 = .ok (.dup, 1) := by decide +kernel
theorem dX9_record_28 : decode cX9_record 28 = .ok (.getfield 100, 3) := by decide +kernel
theorem dX9_record_31 : decode cX9_record 31 = .ok (.iconst 1, 1) := by decide +kernel
theorem dX9_record_32 : decode cX9_record 32 = .ok (.iadd, 1) := by decide +kernel
theorem dX9_record_33 : decode cX9_record 33 = .ok (.putfield 100, 3) := by decide +kernel
theorem dX9_record_36 : decode cX9_record 36 = .ok (.aload_n 0, 1) := by decide +kernel
theorem dX9_record_37 : decode cX9_record 37 = .ok (.getfield 100, 3) := by decide +kernel
theorem dX9_record_40 : decode cX9_record 40 = .ok (.iconst 1, 1) := by decide +kernel
theorem dX9_record_41 : decode cX9_record 41 = .ok (.isub, 1) := by decide +kernel
theorem dX9_record_42 : decode cX9_record 42 = .ok (.ireturn, 1) := by decide +kernel
theorem dX9_settings_0 : decode cX9_settings 0 = .ok (.aload_n 0, 1) := by decide +kernel
theorem dX9_settings_1 : decode cX9_settings 1 = .ok (.getfield 103, 3) := by decide +kernel
theorem dX9_settings_4 : decode cX9_settings 4 = .ok (.istore_n 2, 1) := by decide +kernel
theorem dX9_settings_5 : decode cX9_settings 5 = .ok (.aload_n 0, 1) := by decide +kernel
theorem dX9_settings_6 : decode cX9_settings 6 = .ok (.iconst 0, 1) := by decide +kernel
theorem dX9_settings_7 : decode cX9_settings 7 = .ok (.putfield 103, 3) := by decide +kernel
theorem dX9_settings_10 : decode cX9_settings 10 = .ok (.aload_n 0, 1) := by decide +kernel
theorem dX9_settings_11 : decode cX9_settings 11 = .ok (.iconst 0, 1) := by decide +kernel
theorem dX9_settings_12 : decode cX9_settings 12 = .ok (.iload_n 2, 1) := by decide +kernel
theorem dX9_settings_13 : decode cX9_settings 13 = .ok (.invokevirtual 178, 3) := by decide +kernel
theorem dX9_settings_16 : decode cX9_settings 16 = .ok (.istore_n 3, 1) := by decide +kernel
theorem dX9_settings_17 : decode cX9_settings 17 = .ok (.aload_n 0, 1) := by decide +kernel
theorem dX9_settings_18 : decode cX9_settings 18 = .ok (.aload_n 0, 1) := by decide +kernel
theorem dX9_settings_19 : decode cX9_settings 19 = .ok (.iload_n 1, 1) := by decide +kernel
theorem dX9_settings_20 : decode cX9_settings 20 = .ok (.invokevirtual 181, 3) := by decide +kernel
theorem dX9_settings_23 : decode cX9_settings 23 = .ok (.ifCond .eq 7, 3) := by decide +kernel
theorem dX9_settings_26 : decode cX9_settings 26 = .ok (.iload_n 3, 1) := by decide +kernel
theorem dX9_settings_27 : decode cX9_settings 27 = .ok (.ifCond .ge 7, 3) := by decide +kernel
theorem dX9_settings_30 : decode cX9_settings 30 = .ok (.iconst 1, 1) := by decide +kernel
theorem dX9_settings_31 : decode cX9_settings 31 = .ok (.goto 18, 3) := by decide +kernel
theorem dX9_settings_34 : decode cX9_settings 34 = .ok (.aload_n 0, 1) := by decide +kernel
theorem dX9_settings_35 : decode cX9_settings 35 = .ok (.getfield 66, 3) := by decide +kernel
theorem dX9_settings_38 : decode cX9_settings 38 = .ok (.iload_n 1, 1) := by decide +kernel
theorem dX9_settings_39 : decode cX9_settings 39 = .ok (.iaload, 1) := by decide +kernel
theorem dX9_settings_40 : decode cX9_settings 40 = .ok (.iconst 3, 1) := by decide +kernel
theorem dX9_settings_41 : decode cX9_settings 41 = .ok (.if_icmp .ne 7, 3) := by decide +kernel
theorem dX9_settings_44 : decode cX9_settings 44 = .ok (.iconst 2, 1) := by decide +kernel
theorem dX9_settings_45 : decode cX9_settings 45 = .ok (.goto 4, 3) := by decide +kernel
theorem dX9_settings_48 : decode cX9_settings 48 = .ok (.iconst 0, 1) := by decide +kernel
theorem dX9_settings_49 : decode cX9_settings 49 = .ok (.putfield 97, 3) := by decide +kernel
theorem dX9_settings_52 : decode cX9_settings 52 = .ok (.aload_n 0, 1) := by decide +kernel
theorem dX9_settings_53 : decode cX9_settings 53 = .ok (.getfield 97, 3) := by decide +kernel
theorem dX9_settings_56 : decode cX9_settings 56 = .ok (.ifCond .le 5, 3) := by decide +kernel
theorem dX9_settings_59 : decode cX9_settings 59 = .ok (.iconst 0, 1) := by decide +kernel
theorem dX9_settings_60 : decode cX9_settings 60 = .ok (.ireturn, 1) := by decide +kernel
theorem dX9_settings_61 : decode cX9_settings 61 = .ok (.aload_n 0, 1) := by decide +kernel
theorem dX9_settings_62 : decode cX9_settings 62 = .ok (.iload_n 1, 1) := by decide +kernel
theorem dX9_settings_63 : decode cX9_settings 63 = .ok (.iconst 0, 1) := by decide +kernel
theorem dX9_settings_64 : decode cX9_settings 64 = .ok (.iload_n 2, 1) := by decide +kernel
theorem dX9_settings_65 : decode cX9_settings 65 = .ok (.invokevirtual 184, 3) := by decide +kernel
theorem dX9_settings_68 : decode cX9_settings 68 = .ok (.iload_n 3, 1) := by decide +kernel
theorem dX9_settings_69 : decode cX9_settings 69 = .ok (.ireturn, 1) := by decide +kernel
theorem dX9_profile_0 : decode cX9_profile 0 = .ok (.aload_n 0, 1) := by decide +kernel
theorem dX9_profile_1 : decode cX9_profile 1 = .ok (.iconst 0, 1) := by decide +kernel
theorem dX9_profile_2 : decode cX9_profile 2 = .ok (.putfield 97, 3) := by decide +kernel
theorem dX9_profile_5 : decode cX9_profile 5 = .ok (.aload_n 0, 1) := by decide +kernel
theorem dX9_profile_6 : decode cX9_profile 6 = .ok (.getfield 103, 3) := by decide +kernel
theorem dX9_profile_9 : decode cX9_profile 9 = .ok (.istore_n 1, 1) := by decide +kernel
theorem dX9_profile_10 : decode cX9_profile 10 = .ok (.aload_n 0, 1) := by decide +kernel
theorem dX9_profile_11 : decode cX9_profile 11 = .ok (.iconst 0, 1) := by decide +kernel
theorem dX9_profile_12 : decode cX9_profile 12 = .ok (.putfield 103, 3) := by decide +kernel
theorem dX9_profile_15 : decode cX9_profile 15 = .ok (.iconst 0, 1) := by decide +kernel
theorem dX9_profile_16 : decode cX9_profile 16 = .ok (.istore_n 2, 1) := by decide +kernel
theorem dX9_profile_17 : decode cX9_profile 17 = .ok (.iconst 0, 1) := by decide +kernel
theorem dX9_profile_18 : decode cX9_profile 18 = .ok (.istore_n 3, 1) := by decide +kernel
theorem dX9_profile_19 : decode cX9_profile 19 = .ok (.iconst 0, 1) := by decide +kernel
theorem dX9_profile_20 : decode cX9_profile 20 = .ok (.istore 4, 2) := by decide +kernel
theorem dX9_profile_22 : decode cX9_profile 22 = .ok (.iload 4, 2) := by decide +kernel
theorem dX9_profile_24 : decode cX9_profile 24 = .ok (.iload_n 1, 1) := by decide +kernel
theorem dX9_profile_25 : decode cX9_profile 25 = .ok (.if_icmp .gt 188, 3) := by decide +kernel
theorem dX9_profile_28 : decode cX9_profile 28 = .ok (.iload 4, 2) := by decide +kernel
theorem dX9_profile_30 : decode cX9_profile 30 = .ok (.istore 5, 2) := by decide +kernel
theorem dX9_profile_32 : decode cX9_profile 32 = .ok (.iload 5, 2) := by decide +kernel
theorem dX9_profile_34 : decode cX9_profile 34 = .ok (.iload_n 1, 1) := by decide +kernel
theorem dX9_profile_35 : decode cX9_profile 35 = .ok (.if_icmp .ge 21, 3) := by decide +kernel
theorem dX9_profile_38 : decode cX9_profile 38 = .ok (.aload_n 0, 1) := by decide +kernel
theorem dX9_profile_39 : decode cX9_profile 39 = .ok (.getfield 7, 3) := by decide +kernel
theorem dX9_profile_42 : decode cX9_profile 42 = .ok (.iload 5, 2) := by decide +kernel
theorem dX9_profile_44 : decode cX9_profile 44 = .ok (.caload, 1) := by decide +kernel
theorem dX9_profile_45 : decode cX9_profile 45 = .ok (.bipush 124, 2) := by decide +kernel
theorem dX9_profile_47 : decode cX9_profile 47 = .ok (.if_icmp .eq 9, 3) := by decide +kernel
theorem dX9_profile_50 : decode cX9_profile 50 = .ok (.iinc 5 1, 3) := by decide +kernel
theorem dX9_profile_53 : decode cX9_profile 53 = .ok (.goto (-21), 3) := by decide +kernel
theorem dX9_profile_56 : decode cX9_profile 56 = .ok (.aload_n 0, 1) := by decide +kernel
theorem dX9_profile_57 : decode cX9_profile 57 = .ok (.iload 4, 2) := by decide +kernel
theorem dX9_profile_59 : decode cX9_profile 59 = .ok (.iload 5, 2) := by decide +kernel
theorem dX9_profile_61 : decode cX9_profile 61 = .ok (.invokevirtual 171, 3) := by decide +kernel
theorem dX9_profile_64 : decode cX9_profile 64 = .ok (.ifCond .eq 16, 3) := by decide +kernel
theorem dX9_profile_67 : decode cX9_profile 67 = .ok (.aload_n 0, 1) := by decide +kernel
theorem dX9_profile_68 : decode cX9_profile 68 = .ok (.getfield 7, 3) := by decide +kernel
theorem dX9_profile_71 : decode cX9_profile 71 = .ok (.iload 4, 2) := by decide +kernel
theorem dX9_profile_73 : decode cX9_profile 73 = .ok (.caload, 1) := by decide +kernel
theorem dX9_profile_74 : decode cX9_profile 74 = .ok (.bipush 48, 2) := by decide +kernel
theorem dX9_profile_76 : decode cX9_profile 76 = .ok (.isub, 1) := by decide +kernel
theorem dX9_profile_77 : decode cX9_profile 77 = .ok (.goto 4, 3) := by decide +kernel
theorem dX9_profile_80 : decode cX9_profile 80 = .ok (.iconst (-1), 1) := by decide +kernel
theorem dX9_profile_81 : decode cX9_profile 81 = .ok (.istore 6, 2) := by decide +kernel
theorem dX9_profile_83 : decode cX9_profile 83 = .ok (.aload_n 0, 1) := by decide +kernel
theorem dX9_profile_84 : decode cX9_profile 84 = .ok (.iload 6, 2) := by decide +kernel
theorem dX9_profile_86 : decode cX9_profile 86 = .ok (.invokevirtual 181, 3) := by decide +kernel
theorem dX9_profile_89 : decode cX9_profile 89 = .ok (.ifCond .eq 69, 3) := by decide +kernel
theorem dX9_profile_92 : decode cX9_profile 92 = .ok (.aload_n 0, 1) := by decide +kernel
theorem dX9_profile_93 : decode cX9_profile 93 = .ok (.getfield 66, 3) := by decide +kernel
theorem dX9_profile_96 : decode cX9_profile 96 = .ok (.iload 6, 2) := by decide +kernel
theorem dX9_profile_98 : decode cX9_profile 98 = .ok (.ifCond .lt 9, 3) := by decide +kernel
theorem dX9_profile_101 : decode cX9_profile 101 = .ok (.iload 6, 2) := by decide +kernel
theorem dX9_profile_103 : decode cX9_profile 103 = .ok (.iconst 3, 1) := by decide +kernel
theorem dX9_profile_104 : decode cX9_profile 104 = .ok (.if_icmp .le 7, 3) := by decide +kernel
theorem dX9_profile_107 : decode cX9_profile 107 = .ok (.iconst 0, 1) := by decide +kernel
theorem dX9_profile_108 : decode cX9_profile 108 = .ok (.goto 5, 3) := by decide +kernel
theorem dX9_profile_111 : decode cX9_profile 111 = .ok (.iload 6, 2) := by decide +kernel
theorem dX9_profile_113 : decode cX9_profile 113 = .ok (.iaload, 1) := by decide +kernel
theorem dX9_profile_114 : decode cX9_profile 114 = .ok (.iconst 3, 1) := by decide +kernel
theorem dX9_profile_115 : decode cX9_profile 115 = .ok (.if_icmp .eq 43, 3) := by decide +kernel
theorem dX9_profile_118 : decode cX9_profile 118 = .ok (.iload 4, 2) := by decide +kernel
theorem dX9_profile_120 : decode cX9_profile 120 = .ok (.iconst 1, 1) := by decide +kernel
theorem dX9_profile_121 : decode cX9_profile 121 = .ok (.iadd, 1) := by decide +kernel
theorem dX9_profile_122 : decode cX9_profile 122 = .ok (.iload 5, 2) := by decide +kernel
theorem dX9_profile_124 : decode cX9_profile 124 = .ok (.if_icmp .ge 34, 3) := by decide +kernel
theorem dX9_profile_127 : decode cX9_profile 127 = .ok (.aload_n 0, 1) := by decide +kernel
theorem dX9_profile_128 : decode cX9_profile 128 = .ok (.getfield 7, 3) := by decide +kernel
theorem dX9_profile_131 : decode cX9_profile 131 = .ok (.iload 4, 2) := by decide +kernel
theorem dX9_profile_133 : decode cX9_profile 133 = .ok (.iconst 1, 1) := by decide +kernel
theorem dX9_profile_134 : decode cX9_profile 134 = .ok (.iadd, 1) := by decide +kernel
theorem dX9_profile_135 : decode cX9_profile 135 = .ok (.caload, 1) := by decide +kernel
theorem dX9_profile_136 : decode cX9_profile 136 = .ok (.bipush 58, 2) := by decide +kernel
theorem dX9_profile_138 : decode cX9_profile 138 = .ok (.if_icmp .ne 20, 3) := by decide +kernel
theorem dX9_profile_141 : decode cX9_profile 141 = .ok (.aload_n 0, 1) := by decide +kernel
theorem dX9_profile_142 : decode cX9_profile 142 = .ok (.iload 4, 2) := by decide +kernel
theorem dX9_profile_144 : decode cX9_profile 144 = .ok (.iconst 2, 1) := by decide +kernel
theorem dX9_profile_145 : decode cX9_profile 145 = .ok (.iadd, 1) := by decide +kernel
theorem dX9_profile_146 : decode cX9_profile 146 = .ok (.iload 5, 2) := by decide +kernel
theorem dX9_profile_148 : decode cX9_profile 148 = .ok (.invokevirtual 178, 3) := by decide +kernel
theorem dX9_profile_151 : decode cX9_profile 151 = .ok (.ifCond .le 7, 3) := by decide +kernel
theorem dX9_profile_154 : decode cX9_profile 154 = .ok (.iconst 1, 1) := by decide +kernel
theorem dX9_profile_155 : decode cX9_profile 155 = .ok (.goto 4, 3) := by decide +kernel
theorem dX9_profile_158 : decode cX9_profile 158 = .ok (.iconst 0, 1) := by decide +kernel
theorem dX9_profile_159 : decode cX9_profile 159 = .ok (.istore 7, 2) := by decide +kernel
theorem dX9_profile_161 : decode cX9_profile 161 = .ok (.iload 7, 2) := by decide +kernel
theorem dX9_profile_163 : decode cX9_profile 163 = .ok (.ifCond .eq 15, 3) := by decide +kernel
theorem dX9_profile_166 : decode cX9_profile 166 = .ok (.aload_n 0, 1) := by decide +kernel
theorem dX9_profile_167 : decode cX9_profile 167 = .ok (.iload 6, 2) := by decide +kernel
theorem dX9_profile_169 : decode cX9_profile 169 = .ok (.iload 4, 2) := by decide +kernel
theorem dX9_profile_171 : decode cX9_profile 171 = .ok (.iconst 2, 1) := by decide +kernel
theorem dX9_profile_172 : decode cX9_profile 172 = .ok (.iadd, 1) := by decide +kernel
theorem dX9_profile_173 : decode cX9_profile 173 = .ok (.iload 5, 2) := by decide +kernel
theorem dX9_profile_175 : decode cX9_profile 175 = .ok (.invokevirtual 184, 3) := by decide +kernel
theorem dX9_profile_178 : decode cX9_profile 178 = .ok (.iload 7, 2) := by decide +kernel
theorem dX9_profile_180 : decode cX9_profile 180 = .ok (.ifCond .eq 9, 3) := by decide +kernel
theorem dX9_profile_183 : decode cX9_profile 183 = .ok (.iload_n 2, 1) := by decide +kernel
theorem dX9_profile_184 : decode cX9_profile 184 = .ok (.iconst 1, 1) := by decide +kernel
theorem dX9_profile_185 : decode cX9_profile 185 = .ok (.iadd, 1) := by decide +kernel
theorem dX9_profile_186 : decode cX9_profile 186 = .ok (.goto 4, 3) := by decide +kernel
theorem dX9_profile_189 : decode cX9_profile 189 = .ok (.iload_n 2, 1) := by decide +kernel
theorem dX9_profile_190 : decode cX9_profile 190 = .ok (.istore_n 2, 1) := by decide +kernel
theorem dX9_profile_191 : decode cX9_profile 191 = .ok (.iload 7, 2) := by decide +kernel
theorem dX9_profile_193 : decode cX9_profile 193 = .ok (.ifCond .eq 7, 3) := by decide +kernel
theorem dX9_profile_196 : decode cX9_profile 196 = .ok (.iload_n 3, 1) := by decide +kernel
theorem dX9_profile_197 : decode cX9_profile 197 = .ok (.goto 6, 3) := by decide +kernel
theorem dX9_profile_200 : decode cX9_profile 200 = .ok (.iload_n 3, 1) := by decide +kernel
theorem dX9_profile_201 : decode cX9_profile 201 = .ok (.iconst 1, 1) := by decide +kernel
theorem dX9_profile_202 : decode cX9_profile 202 = .ok (.iadd, 1) := by decide +kernel
theorem dX9_profile_203 : decode cX9_profile 203 = .ok (.istore_n 3, 1) := by decide +kernel
theorem dX9_profile_204 : decode cX9_profile 204 = .ok (.iload 5, 2) := by decide +kernel
theorem dX9_profile_206 : decode cX9_profile 206 = .ok (.iconst 1, 1) := by decide +kernel
theorem dX9_profile_207 : decode cX9_profile 207 = .ok (.iadd, 1) := by decide +kernel
theorem dX9_profile_208 : decode cX9_profile 208 = .ok (.istore 4, 2) := by decide +kernel
theorem dX9_profile_210 : decode cX9_profile 210 = .ok (.goto (-188), 3) := by decide +kernel
theorem dX9_profile_213 : decode cX9_profile 213 = .ok (.bipush 10, 2) := by decide +kernel
theorem dX9_profile_215 : decode cX9_profile 215 = .ok (.iload_n 2, 1) := by decide +kernel
theorem dX9_profile_216 : decode cX9_profile 216 = .ok (.imul, 1) := by decide +kernel
theorem dX9_profile_217 : decode cX9_profile 217 = .ok (.iload_n 3, 1) := by decide +kernel
theorem dX9_profile_218 : decode cX9_profile 218 = .ok (.iadd, 1) := by decide +kernel
theorem dX9_profile_219 : decode cX9_profile 219 = .ok (.ireturn, 1) := by decide +kernel
theorem dX9_start_0 : decode cX9_start 0 = .ok (.aload_n 0, 1) := by decide +kernel
theorem dX9_start_1 : decode cX9_start 1 = .ok (.aload_n 0, 1) := by decide +kernel
theorem dX9_start_2 : decode cX9_start 2 = .ok (.iload_n 1, 1) := by decide +kernel
theorem dX9_start_3 : decode cX9_start 3 = .ok (.invokevirtual 181, 3) := by decide +kernel
theorem dX9_start_6 : decode cX9_start 6 = .ok (.ifCond .ne 7, 3) := by decide +kernel
theorem dX9_start_9 : decode cX9_start 9 = .ok (.iconst 1, 1) := by decide +kernel
theorem dX9_start_10 : decode cX9_start 10 = .ok (.goto 17, 3) := by decide +kernel
theorem dX9_start_13 : decode cX9_start 13 = .ok (.aload_n 0, 1) := by decide +kernel
theorem dX9_start_14 : decode cX9_start 14 = .ok (.getfield 66, 3) := by decide +kernel
theorem dX9_start_17 : decode cX9_start 17 = .ok (.iload_n 1, 1) := by decide +kernel
theorem dX9_start_18 : decode cX9_start 18 = .ok (.iaload, 1) := by decide +kernel
theorem dX9_start_19 : decode cX9_start 19 = .ok (.ifCond .eq 7, 3) := by decide +kernel
theorem dX9_start_22 : decode cX9_start 22 = .ok (.iconst 2, 1) := by decide +kernel
theorem dX9_start_23 : decode cX9_start 23 = .ok (.goto 4, 3) := by decide +kernel
theorem dX9_start_26 : decode cX9_start 26 = .ok (.iconst 0, 1) := by decide +kernel
theorem dX9_start_27 : decode cX9_start 27 = .ok (.putfield 97, 3) := by decide +kernel
theorem dX9_start_30 : decode cX9_start 30 = .ok (.aload_n 0, 1) := by decide +kernel
theorem dX9_start_31 : decode cX9_start 31 = .ok (.getfield 97, 3) := by decide +kernel
theorem dX9_start_34 : decode cX9_start 34 = .ok (.ifCond .le 5, 3) := by decide +kernel
theorem dX9_start_37 : decode cX9_start 37 = .ok (.iconst 0, 1) := by decide +kernel
theorem dX9_start_38 : decode cX9_start 38 = .ok (.ireturn, 1) := by decide +kernel
theorem dX9_start_39 : decode cX9_start 39 = .ok (.aload_n 0, 1) := by decide +kernel
theorem dX9_start_40 : decode cX9_start 40 = .ok (.invokevirtual 168, 3) := by decide +kernel
theorem dX9_start_43 : decode cX9_start 43 = .ok (.aload_n 0, 1) := by decide +kernel
theorem dX9_start_44 : decode cX9_start 44 = .ok (.getfield 66, 3) := by decide +kernel
theorem dX9_start_47 : decode cX9_start 47 = .ok (.iload_n 1, 1) := by decide +kernel
theorem dX9_start_48 : decode cX9_start 48 = .ok (.iconst 1, 1) := by decide +kernel
theorem dX9_start_49 : decode cX9_start 49 = .ok (.iastore, 1) := by decide +kernel
theorem dX9_start_50 : decode cX9_start 50 = .ok (.aload_n 0, 1) := by decide +kernel
theorem dX9_start_51 : decode cX9_start 51 = .ok (.getfield 75, 3) := by decide +kernel
theorem dX9_start_54 : decode cX9_start 54 = .ok (.iload_n 1, 1) := by decide +kernel
theorem dX9_start_55 : decode cX9_start 55 = .ok (.aload_n 0, 1) := by decide +kernel
theorem dX9_start_56 : decode cX9_start 56 = .ok (.getfield 48, 3) := by decide +kernel
theorem dX9_start_59 : decode cX9_start 59 = .ok (.bipush 6, 2) := by decide +kernel
theorem dX9_start_61 : decode cX9_start 61 = .ok (.iaload, 1) := by decide +kernel
theorem dX9_start_62 : decode cX9_start 62 = .ok (.iastore, 1) := by decide +kernel
theorem dX9_start_63 : decode cX9_start 63 = .ok (.aload_n 0, 1) := by decide +kernel
theorem dX9_start_64 : decode cX9_start 64 = .ok (.getfield 48, 3) := by decide +kernel
theorem dX9_start_67 : decode cX9_start 67 = .ok (.bipush 6, 2) := by decide +kernel
theorem dX9_start_69 : decode cX9_start 69 = .ok (.iaload, 1) := by decide +kernel
theorem dX9_start_70 : decode cX9_start 70 = .ok (.ireturn, 1) := by decide +kernel
theorem dX9_end_0 : decode cX9_end 0 = .ok (.aload_n 0, 1) := by decide +kernel
theorem dX9_end_1 : decode cX9_end 1 = .ok (.getfield 78, 3) := by decide +kernel
theorem dX9_end_4 : decode cX9_end 4 = .ok (.iload_n 1, 1) := by decide +kernel
theorem dX9_end_5 : decode cX9_end 5 = .ok (.aload_n 0, 1) := by decide +kernel
theorem dX9_end_6 : decode cX9_end 6 = .ok (.getfield 48, 3) := by decide +kernel
theorem dX9_end_9 : decode cX9_end 9 = .ok (.bipush 6, 2) := by decide +kernel
theorem dX9_end_11 : decode cX9_end 11 = .ok (.iaload, 1) := by decide +kernel
theorem dX9_end_12 : decode cX9_end 12 = .ok (.iastore, 1) := by decide +kernel
theorem dX9_end_13 : decode cX9_end 13 = .ok (.aload_n 0, 1) := by decide +kernel
theorem dX9_end_14 : decode cX9_end 14 = .ok (.invokevirtual 168, 3) := by decide +kernel
theorem dX9_end_17 : decode cX9_end 17 = .ok (.aload_n 0, 1) := by decide +kernel
theorem dX9_end_18 : decode cX9_end 18 = .ok (.getfield 66, 3) := by decide +kernel
theorem dX9_end_21 : decode cX9_end 21 = .ok (.iload_n 1, 1) := by decide +kernel
theorem dX9_end_22 : decode cX9_end 22 = .ok (.iconst 2, 1) := by decide +kernel
theorem dX9_end_23 : decode cX9_end 23 = .ok (.iastore, 1) := by decide +kernel
theorem dX9_end_24 : decode cX9_end 24 = .ok (.aload_n 0, 1) := by decide +kernel
theorem dX9_end_25 : decode cX9_end 25 = .ok (.getfield 78, 3) := by decide +kernel
theorem dX9_end_28 : decode cX9_end 28 = .ok (.iload_n 1, 1) := by decide +kernel
theorem dX9_end_29 : decode cX9_end 29 = .ok (.iaload, 1) := by decide +kernel
theorem dX9_end_30 : decode cX9_end 30 = .ok (.ireturn, 1) := by decide +kernel
theorem dX9_stop_0 : decode cX9_stop 0 = .ok (.aload_n 0, 1) := by decide +kernel
theorem dX9_stop_1 : decode cX9_stop 1 = .ok (.aload_n 0, 1) := by decide +kernel
theorem dX9_stop_2 : decode cX9_stop 2 = .ok (.iload_n 1, 1) := by decide +kernel
theorem dX9_stop_3 : decode cX9_stop 3 = .ok (.invokevirtual 181, 3) := by decide +kernel
theorem dX9_stop_6 : decode cX9_stop 6 = .ok (.ifCond .ne 7, 3) := by decide +kernel
theorem dX9_stop_9 : decode cX9_stop 9 = .ok (.iconst 1, 1) := by decide +kernel
theorem dX9_stop_10 : decode cX9_stop 10 = .ok (.goto 18, 3) := by decide +kernel
theorem dX9_stop_13 : decode cX9_stop 13 = .ok (.aload_n 0, 1) := by decide +kernel
theorem dX9_stop_14 : decode cX9_stop 14 = .ok (.getfield 66, 3) := by decide +kernel
theorem dX9_stop_17 : decode cX9_stop 17 = .ok (.iload_n 1, 1) := by decide +kernel
theorem dX9_stop_18 : decode cX9_stop 18 = .ok (.iaload, 1) := by decide +kernel
theorem dX9_stop_19 : decode cX9_stop 19 = .ok (.iconst 1, 1) := by decide +kernel
theorem dX9_stop_20 : decode cX9_stop 20 = .ok (.if_icmp .eq 7, 3) := by decide +kernel
theorem dX9_stop_23 : decode cX9_stop 23 = .ok (.iconst 2, 1) := by decide +kernel
theorem dX9_stop_24 : decode cX9_stop 24 = .ok (.goto 4, 3) := by decide +kernel
theorem dX9_stop_27 : decode cX9_stop 27 = .ok (.iconst 0, 1) := by decide +kernel
theorem dX9_stop_28 : decode cX9_stop 28 = .ok (.putfield 97, 3) := by decide +kernel
theorem dX9_stop_31 : decode cX9_stop 31 = .ok (.aload_n 0, 1) := by decide +kernel
theorem dX9_stop_32 : decode cX9_stop 32 = .ok (.getfield 97, 3) := by decide +kernel
theorem dX9_stop_35 : decode cX9_stop 35 = .ok (.ifCond .le 7, 3) := by decide +kernel
theorem dX9_stop_38 : decode cX9_stop 38 = .ok (.iconst 0, 1) := by decide +kernel
theorem dX9_stop_39 : decode cX9_stop 39 = .ok (.goto 8, 3) := by decide +kernel
theorem dX9_stop_42 : decode cX9_stop 42 = .ok (.aload_n 0, 1) := by decide +kernel
theorem dX9_stop_43 : decode cX9_stop 43 = .ok (.iload_n 1, 1) := by decide +kernel
theorem dX9_stop_44 : decode cX9_stop 44 = .ok (.invokevirtual 188, 3) := by decide +kernel
theorem dX9_stop_47 : decode cX9_stop 47 = .ok (.ireturn, 1) := by decide +kernel
theorem dX9_close_0 : decode cX9_close 0 = .ok (.aload_n 0, 1) := by decide +kernel
theorem dX9_close_1 : decode cX9_close 1 = .ok (.aload_n 0, 1) := by decide +kernel
theorem dX9_close_2 : decode cX9_close 2 = .ok (.iload_n 1, 1) := by decide +kernel
theorem dX9_close_3 : decode cX9_close 3 = .ok (.invokevirtual 181, 3) := by decide +kernel
theorem dX9_close_6 : decode cX9_close 6 = .ok (.ifCond .ne 7, 3) := by decide +kernel
theorem dX9_close_9 : decode cX9_close 9 = .ok (.iconst 1, 1) := by decide +kernel
theorem dX9_close_10 : decode cX9_close 10 = .ok (.goto 18, 3) := by decide +kernel
theorem dX9_close_13 : decode cX9_close 13 = .ok (.aload_n 0, 1) := by decide +kernel
theorem dX9_close_14 : decode cX9_close 14 = .ok (.getfield 66, 3) := by decide +kernel
theorem dX9_close_17 : decode cX9_close 17 = .ok (.iload_n 1, 1) := by decide +kernel
theorem dX9_close_18 : decode cX9_close 18 = .ok (.iaload, 1) := by decide +kernel
theorem dX9_close_19 : decode cX9_close 19 = .ok (.iconst 3, 1) := by decide +kernel
theorem dX9_close_20 : decode cX9_close 20 = .ok (.if_icmp .ne 7, 3) := by decide +kernel
theorem dX9_close_23 : decode cX9_close 23 = .ok (.iconst 2, 1) := by decide +kernel
theorem dX9_close_24 : decode cX9_close 24 = .ok (.goto 4, 3) := by decide +kernel
theorem dX9_close_27 : decode cX9_close 27 = .ok (.iconst 0, 1) := by decide +kernel
theorem dX9_close_28 : decode cX9_close 28 = .ok (.putfield 97, 3) := by decide +kernel
theorem dX9_close_31 : decode cX9_close 31 = .ok (.aload_n 0, 1) := by decide +kernel
theorem dX9_close_32 : decode cX9_close 32 = .ok (.getfield 97, 3) := by decide +kernel
theorem dX9_close_35 : decode cX9_close 35 = .ok (.ifCond .le 5, 3) := by decide +kernel
theorem dX9_close_38 : decode cX9_close 38 = .ok (.iconst 0, 1) := by decide +kernel
theorem dX9_close_39 : decode cX9_close 39 = .ok (.ireturn, 1) := by decide +kernel
theorem dX9_close_40 : decode cX9_close 40 = .ok (.aload_n 0, 1) := by decide +kernel
theorem dX9_close_41 : decode cX9_close 41 = .ok (.getfield 66, 3) := by decide +kernel
theorem dX9_close_44 : decode cX9_close 44 = .ok (.iload_n 1, 1) := by decide +kernel
theorem dX9_close_45 : decode cX9_close 45 = .ok (.iaload, 1) := by decide +kernel
theorem dX9_close_46 : decode cX9_close 46 = .ok (.iconst 1, 1) := by decide +kernel
theorem dX9_close_47 : decode cX9_close 47 = .ok (.if_icmp .ne 7, 3) := by decide +kernel
theorem dX9_close_50 : decode cX9_close 50 = .ok (.iconst 1, 1) := by decide +kernel
theorem dX9_close_51 : decode cX9_close 51 = .ok (.goto 4, 3) := by decide +kernel
theorem dX9_close_54 : decode cX9_close 54 = .ok (.iconst 0, 1) := by decide +kernel
theorem dX9_close_55 : decode cX9_close 55 = .ok (.istore_n 2, 1) := by decide +kernel
theorem dX9_close_56 : decode cX9_close 56 = .ok (.iload_n 2, 1) := by decide +kernel
theorem dX9_close_57 : decode cX9_close 57 = .ok (.ifCond .eq 9, 3) := by decide +kernel
theorem dX9_close_60 : decode cX9_close 60 = .ok (.aload_n 0, 1) := by decide +kernel
theorem dX9_close_61 : decode cX9_close 61 = .ok (.iload_n 1, 1) := by decide +kernel
theorem dX9_close_62 : decode cX9_close 62 = .ok (.invokevirtual 188, 3) := by decide +kernel
theorem dX9_close_65 : decode cX9_close 65 = .ok (.istore_n 3, 1) := by decide +kernel
theorem dX9_close_66 : decode cX9_close 66 = .ok (.aload_n 0, 1) := by decide +kernel
theorem dX9_close_67 : decode cX9_close 67 = .ok (.getfield 66, 3) := by decide +kernel
theorem dX9_close_70 : decode cX9_close 70 = .ok (.iload_n 1, 1) := by decide +kernel
theorem dX9_close_71 : decode cX9_close 71 = .ok (.iconst 3, 1) := by decide +kernel
theorem dX9_close_72 : decode cX9_close 72 = .ok (.iastore, 1) := by decide +kernel
theorem dX9_close_73 : decode cX9_close 73 = .ok (.iload_n 2, 1) := by decide +kernel
theorem dX9_close_74 : decode cX9_close 74 = .ok (.ireturn, 1) := by decide +kernel
theorem dX9_out_0 : decode cX9_out 0 = .ok (.aload_n 0, 1) := by decide +kernel
theorem dX9_out_1 : decode cX9_out 1 = .ok (.getfield 81, 3) := by decide +kernel
theorem dX9_out_4 : decode cX9_out 4 = .ok (.aload_n 0, 1) := by decide +kernel
theorem dX9_out_5 : decode cX9_out 5 = .ok (.getfield 191, 3) := by decide +kernel
theorem dX9_out_8 : decode cX9_out 8 = .ok (.iload_n 1, 1) := by decide +kernel
theorem dX9_out_9 : decode cX9_out 9 = .ok (.iastore, 1) := by decide +kernel
theorem dX9_out_10 : decode cX9_out 10 = .ok (.aload_n 0, 1) := by decide +kernel
theorem dX9_out_11 : decode cX9_out 11 = .ok (.dup, 1) := by decide +kernel
theorem dX9_out_12 : decode cX9_out 12 = .ok (.getfield 191, 3) := by decide +kernel
theorem dX9_out_15 : decode cX9_out 15 = .ok (.iconst 1, 1) := by decide +kernel
theorem dX9_out_16 : decode cX9_out 16 = .ok (.iadd, 1) := by decide +kernel
theorem dX9_out_17 : decode cX9_out 17 = .ok (.putfield 191, 3) := by decide +kernel
theorem dX9_out_20 : decode cX9_out 20 = .ok (.return_, 1) := by decide +kernel
theorem dX9_outVariable_0 : decode cX9_outVariable 0 = .ok (.aload_n 0, 1) := by decide +kernel
theorem dX9_outVariable_1 : decode cX9_outVariable 1 = .ok (.iconst 0, 1) := by decide +kernel
theorem dX9_outVariable_2 : decode cX9_outVariable 2 = .ok (.putfield 116, 3) := by decide +kernel
theorem dX9_outVariable_5 : decode cX9_outVariable 5 = .ok (.aload_n 0, 1) := by decide +kernel
theorem dX9_outVariable_6 : decode cX9_outVariable 6 = .ok (.iload_n 1, 1) := by decide +kernel
theorem dX9_outVariable_7 : decode cX9_outVariable 7 = .ok (.invokevirtual 139, 3) := by decide +kernel
theorem dX9_outVariable_10 : decode cX9_outVariable 10 = .ok (.iconst 0, 1) := by decide +kernel
theorem dX9_outVariable_11 : decode cX9_outVariable 11 = .ok (.istore_n 2, 1) := by decide +kernel
theorem dX9_outVariable_12 : decode cX9_outVariable 12 = .ok (.iload_n 2, 1) := by decide +kernel
theorem dX9_outVariable_13 : decode cX9_outVariable 13 = .ok (.aload_n 0, 1) := by decide +kernel
theorem dX9_outVariable_14 : decode cX9_outVariable 14 = .ok (.getfield 116, 3) := by decide +kernel
theorem dX9_outVariable_17 : decode cX9_outVariable 17 = .ok (.if_icmp .ge 19, 3) := by decide +kernel
theorem dX9_outVariable_20 : decode cX9_outVariable 20 = .ok (.aload_n 0, 1) := by decide +kernel
theorem dX9_outVariable_21 : decode cX9_outVariable 21 = .ok (.aload_n 0, 1) := by decide +kernel
theorem dX9_outVariable_22 : decode cX9_outVariable 22 = .ok (.getfield 84, 3) := by decide +kernel
theorem dX9_outVariable_25 : decode cX9_outVariable 25 = .ok (.iload_n 2, 1) := by decide +kernel
theorem dX9_outVariable_26 : decode cX9_outVariable 26 = .ok (.iaload, 1) := by decide +kernel
theorem dX9_outVariable_27 : decode cX9_outVariable 27 = .ok (.invokevirtual 194, 3) := by decide +kernel
theorem dX9_outVariable_30 : decode cX9_outVariable 30 = .ok (.iinc 2 1, 3) := by decide +kernel
theorem dX9_outVariable_33 : decode cX9_outVariable 33 = .ok (.goto (-21), 3) := by decide +kernel
theorem dX9_outVariable_36 : decode cX9_outVariable 36 = .ok (.return_, 1) := by decide +kernel
