theorem dX9_init_188 : decode cX9_init 188 = .ok (.iconst 1, 1) := by decide +kernel
theorem dX9_init_189 : decode cX9_init 189 = .ok (.iastore, 1) := by decide +kernel
theorem dX9_init_190 : decode cX9_init 190 = .ok (.return_, 1) := by decide +kernel
theorem dX9_in_0 : decode cX9_in 0 = .ok (.iload_n 0, 1) := by decide +kernel
theorem dX9_in_1 : decode cX9_in 1 = .ok (.iload_n 1, 1) := by decide +kernel
theorem dX9_in_2 : decode cX9_in 2 = .ok (.if_icmp .lt 12, 3) := by decide +kernel
theorem dX9_in_5 : decode cX9_in 5 = .ok (.iload_n 0, 1) := by decide +kernel
theorem dX9_in_6 : decode cX9_in 6 = .ok (.iload_n 2, 1) := by decide +kernel
theorem dX9_in_7 : decode cX9_in 7 = .ok (.if_icmp .gt 7, 3) := by decide +kernel
theorem dX9_in_10 : decode cX9_in 10 = .ok (.iconst 1, 1) := by decide +kernel
theorem dX9_in_11 : decode cX9_in 11 = .ok (.goto 4, 3) := by decide +kernel
theorem dX9_in_14 : decode cX9_in 14 = .ok (.iconst 0, 1) := by decide +kernel
theorem dX9_in_15 : decode cX9_in 15 = .ok (.ireturn, 1) := by decide +kernel
theorem dX9_bring_0 : decode cX9_bring 0 = .ok (.iconst 0, 1) := by decide +kernel
theorem dX9_bring_1 : decode cX9_bring 1 = .ok (.istore 5, 2) := by decide +kernel
theorem dX9_bring_3 : decode cX9_bring 3 = .ok (.iload 5, 2) := by decide +kernel
theorem dX9_bring_5 : decode cX9_bring 5 = .ok (.iload 4, 2) := by decide +kernel
theorem dX9_bring_7 : decode cX9_bring 7 = .ok (.if_icmp .ge 21, 3) := by decide +kernel
theorem dX9_bring_10 : decode cX9_bring 10 = .ok (.aload_n 2, 1) := by decide +kernel
theorem dX9_bring_11 : decode cX9_bring 11 = .ok (.iload_n 3, 1) := by decide +kernel
theorem dX9_bring_12 : decode cX9_bring 12 = .ok (.iload 5, 2) := by decide +kernel
theorem dX9_bring_14 : decode cX9_bring 14 = .ok (.iadd, 1) := by decide +kernel
theorem dX9_bring_15 : decode cX9_bring 15 = .ok (.aload_n 0, 1) := by decide +kernel
theorem dX9_bring_16 : decode cX9_bring 16 = .ok (.iload_n 1, 1) := by decide +kernel
theorem dX9_bring_17 : decode cX9_bring 17 = .ok (.iload 5, 2) := by decide +kernel
theorem dX9_bring_19 : decode cX9_bring 19 = .ok (.iadd, 1) := by decide +kernel
theorem dX9_bring_20 : decode cX9_bring 20 = .ok (.iaload, 1) := by decide +kernel
theorem dX9_bring_21 : decode cX9_bring 21 = .ok (.iastore, 1) := by decide +kernel
theorem dX9_bring_22 : decode cX9_bring 22 = .ok (.iinc 5 1, 3) := by decide +kernel
theorem dX9_bring_25 : decode cX9_bring 25 = .ok (.goto (-22), 3) := by decide +kernel
theorem dX9_bring_28 : decode cX9_bring 28 = .ok (.return_, 1) := by decide +kernel
theorem dX9_refuse_0 : decode cX9_refuse 0 = .ok (.aload_n 0, 1) := by decide +kernel
theorem dX9_refuse_1 : decode cX9_refuse 1 = .ok (.getfield 22, 3) := by decide +kernel
theorem dX9_refuse_4 : decode cX9_refuse 4 = .ok (.bipush (-2), 2) := by decide +kernel
theorem dX9_refuse_6 : decode cX9_refuse 6 = .ok (.iload_n 1, 1) := by decide +kernel
theorem dX9_refuse_7 : decode cX9_refuse 7 = .ok (.isub, 1) := by decide +kernel
theorem dX9_refuse_8 : decode cX9_refuse 8 = .ok (.dup2, 1) := by decide +kernel
theorem dX9_refuse_9 : decode cX9_refuse 9 = .ok (.iaload, 1) := by decide +kernel
theorem dX9_refuse_10 : decode cX9_refuse 10 = .ok (.iconst 1, 1) := by decide +kernel
theorem dX9_refuse_11 : decode cX9_refuse 11 = .ok (.iadd, 1) := by decide +kernel
theorem dX9_refuse_12 : decode cX9_refuse 12 = .ok (.iastore, 1) := by decide +kernel
theorem dX9_refuse_13 : decode cX9_refuse 13 = .ok (.iload_n 1, 1) := by decide +kernel
theorem dX9_refuse_14 : decode cX9_refuse 14 = .ok (.ireturn, 1) := by decide +kernel
theorem dX9_save_0 : decode cX9_save 0 = .ok (.aload_n 0, 1) := by decide +kernel
theorem dX9_save_1 : decode cX9_save 1 = .ok (.getfield 7, 3) := by decide +kernel
theorem dX9_save_4 : decode cX9_save 4 = .ok (.iconst 0, 1) := by decide +kernel
theorem dX9_save_5 : decode cX9_save 5 = .ok (.aload_n 0, 1) := by decide +kernel
theorem dX9_save_6 : decode cX9_save 6 = .ok (.getfield 13, 3) := by decide +kernel
theorem dX9_save_9 : decode cX9_save 9 = .ok (.iconst 0, 1) := by decide +kernel
theorem dX9_save_10 : decode cX9_save 10 = .ok (.sipush 258, 3) := by decide +kernel
theorem dX9_save_13 : decode cX9_save 13 = .ok (.invokestatic 52, 3) := by decide +kernel
theorem dX9_save_16 : decode cX9_save 16 = .ok (.return_, 1) := by decide +kernel
theorem dX9_isRefused_0 : decode cX9_isRefused 0 = .ok (.iload_n 0, 1) := by decide +kernel
theorem dX9_isRefused_1 : decode cX9_isRefused 1 = .ok (.bipush (-2), 2) := by decide +kernel
theorem dX9_isRefused_3 : decode cX9_isRefused 3 = .ok (.if_icmp .gt 13, 3) := by decide +kernel
theorem dX9_isRefused_6 : decode cX9_isRefused 6 = .ok (.iload_n 0, 1) := by decide +kernel
theorem dX9_isRefused_7 : decode cX9_isRefused 7 = .ok (.bipush (-4), 2) := by decide +kernel
theorem dX9_isRefused_9 : decode cX9_isRefused 9 = .ok (.if_icmp .lt 7, 3) := by decide +kernel
theorem dX9_isRefused_12 : decode cX9_isRefused 12 = .ok (.iconst 1, 1) := by decide +kernel
theorem dX9_isRefused_13 : decode cX9_isRefused 13 = .ok (.goto 4, 3) := by decide +kernel
theorem dX9_isRefused_16 : decode cX9_isRefused 16 = .ok (.iconst 0, 1) := by decide +kernel
theorem dX9_isRefused_17 : decode cX9_isRefused 17 = .ok (.ireturn, 1) := by decide +kernel
theorem dX9_finish_0 : decode cX9_finish 0 = .ok (.iload_n 1, 1) := by decide +kernel
theorem dX9_finish_1 : decode cX9_finish 1 = .ok (.invokestatic 56, 3) := by decide +kernel
theorem dX9_finish_4 : decode cX9_finish 4 = .ok (.ifCond .eq 9, 3) := by decide +kernel
theorem dX9_finish_7 : decode cX9_finish 7 = .ok (.aload_n 0, 1) := by decide +kernel
theorem dX9_finish_8 : decode cX9_finish 8 = .ok (.iload_n 1, 1) := by decide +kernel
theorem dX9_finish_9 : decode cX9_finish 9 = .ok (.invokevirtual 60, 3) := by decide +kernel
theorem dX9_finish_12 : decode cX9_finish 12 = .ok (.ireturn, 1) := by decide +kernel
theorem dX9_finish_13 : decode cX9_finish 13 = .ok (.aload_n 0, 1) := by decide +kernel
theorem dX9_finish_14 : decode cX9_finish 14 = .ok (.getfield 64, 3) := by decide +kernel
theorem dX9_finish_17 : decode cX9_finish 17 = .ok (.iconst 5, 1) := by decide +kernel
theorem dX9_finish_18 : decode cX9_finish 18 = .ok (.if_icmp .ne 31, 3) := by decide +kernel
theorem dX9_finish_21 : decode cX9_finish 21 = .ok (.aload_n 0, 1) := by decide +kernel
theorem dX9_finish_22 : decode cX9_finish 22 = .ok (.getfield 19, 3) := by decide +kernel
theorem dX9_finish_25 : decode cX9_finish 25 = .ok (.sipush 258, 3) := by decide +kernel
theorem dX9_finish_28 : decode cX9_finish 28 = .ok (.aload_n 0, 1) := by decide +kernel
theorem dX9_finish_29 : decode cX9_finish 29 = .ok (.getfield 19, 3) := by decide +kernel
theorem dX9_finish_32 : decode cX9_finish 32 = .ok (.iconst 0, 1) := by decide +kernel
theorem dX9_finish_33 : decode cX9_finish 33 = .ok (.sipush 1032, 3) := by decide +kernel
theorem dX9_finish_36 : decode cX9_finish 36 = .ok (.invokestatic 52, 3) := by decide +kernel
theorem dX9_finish_39 : decode cX9_finish 39 = .ok (.aload_n 0, 1) := by decide +kernel
theorem dX9_finish_40 : decode cX9_finish 40 = .ok (.dup, 1) := by decide +kernel
theorem dX9_finish_41 : decode cX9_finish 41 = .ok (.getfield 64, 3) := by decide +kernel
theorem dX9_finish_44 : decode cX9_finish 44 = .ok (.iconst 1, 1) := by decide +kernel
theorem dX9_finish_45 : decode cX9_finish 45 = .ok (.isub, 1) := by decide +kernel
theorem dX9_finish_46 : decode cX9_finish 46 = .ok (.putfield 64, 3) := by decide +kernel
theorem dX9_finish_49 : decode cX9_finish 49 = .ok (.aload_n 0, 1) := by decide +kernel
theorem dX9_finish_50 : decode cX9_finish 50 = .ok (.getfield 13, 3) := by decide +kernel
theorem dX9_finish_53 : decode cX9_finish 53 = .ok (.iconst 0, 1) := by decide +kernel
theorem dX9_finish_54 : decode cX9_finish 54 = .ok (.aload_n 0, 1) := by decide +kernel
theorem dX9_finish_55 : decode cX9_finish 55 = .ok (.getfield 19, 3) := by decide +kernel
theorem dX9_finish_58 : decode cX9_finish 58 = .ok (.sipush 258, 3) := by decide +kernel
theorem dX9_finish_61 : decode cX9_finish 61 = .ok (.aload_n 0, 1) := by decide +kernel
theorem dX9_finish_62 : decode cX9_finish 62 = .ok (.getfield 64, 3) := by decide +kernel
theorem dX9_finish_65 : decode cX9_finish 65 = .ok (.imul, 1) := by decide +kernel
theorem dX9_finish_66 : decode cX9_finish 66 = .ok (.sipush 258, 3) := by decide +kernel
theorem dX9_finish_69 : decode cX9_finish 69 = .ok (.invokestatic 52, 3) := by decide +kernel
theorem dX9_finish_72 : decode cX9_finish 72 = .ok (.aload_n 0, 1) := by decide +kernel
theorem dX9_finish_73 : decode cX9_finish 73 = .ok (.dup, 1) := by decide +kernel
theorem dX9_finish_74 : decode cX9_finish 74 = .ok (.getfield 64, 3) := by decide +kernel
theorem dX9_finish_77 : decode cX9_finish 77 = .ok (.iconst 1, 1) := by decide +kernel
theorem dX9_finish_78 : decode cX9_finish 78 = .ok (.iadd, 1) := by decide +kernel
theorem dX9_finish_79 : decode cX9_finish 79 = .ok (.putfield 64, 3) := by decide +kernel
theorem dX9_finish_82 : decode cX9_finish 82 = .ok (.iload_n 1, 1) := by decide +kernel
theorem dX9_finish_83 : decode cX9_finish 83 = .ok (.ireturn, 1) := by decide +kernel
theorem dX9_isIn_0 : decode cX9_isIn 0 = .ok (.aload_n 0, 1) := by decide +kernel
theorem dX9_isIn_1 : decode cX9_isIn 1 = .ok (.getfield 7, 3) := by decide +kernel
theorem dX9_isIn_4 : decode cX9_isIn 4 = .ok (.bipush 64, 2) := by decide +kernel
theorem dX9_isIn_6 : decode cX9_isIn 6 = .ok (.iload_n 1, 1) := by decide +kernel
theorem dX9_isIn_7 : decode cX9_isIn 7 = .ok (.imul, 1) := by decide +kernel
theorem dX9_isIn_8 : decode cX9_isIn 8 = .ok (.iload_n 2, 1) := by decide +kernel
theorem dX9_isIn_9 : decode cX9_isIn 9 = .ok (.iadd, 1) := by decide +kernel
theorem dX9_isIn_10 : decode cX9_isIn 10 = .ok (.iaload, 1) := by decide +kernel
theorem dX9_isIn_11 : decode cX9_isIn 11 = .ok (.bipush (-9), 2) := by decide +kernel
theorem dX9_isIn_13 : decode cX9_isIn 13 = .ok (.if_icmp .eq 7, 3) := by decide +kernel
theorem dX9_isIn_16 : decode cX9_isIn 16 = .ok (.iconst 1, 1) := by decide +kernel
theorem dX9_isIn_17 : decode cX9_isIn 17 = .ok (.goto 4, 3) := by decide +kernel
theorem dX9_isIn_20 : decode cX9_isIn 20 = .ok (.iconst 0, 1) := by decide +kernel
theorem dX9_isIn_21 : decode cX9_isIn 21 = .ok (.ireturn, 1) := by decide +kernel
theorem dX9_isThere_0 : decode cX9_isThere 0 = .ok (.iload_n 2, 1) := by decide +kernel
theorem dX9_isThere_1 : decode cX9_isThere 1 = .ok (.iconst 0, 1) := by decide +kernel
theorem dX9_isThere_2 : decode cX9_isThere 2 = .ok (.bipush 15, 2) := by decide +kernel
theorem dX9_isThere_4 : decode cX9_isThere 4 = .ok (.invokestatic 68, 3) := by decide +kernel
theorem dX9_isThere_7 : decode cX9_isThere 7 = .ok (.ifCond .eq 16, 3) := by decide +kernel
theorem dX9_isThere_10 : decode cX9_isThere 10 = .ok (.aload_n 0, 1) := by decide +kernel
theorem dX9_isThere_11 : decode cX9_isThere 11 = .ok (.iload_n 1, 1) := by decide +kernel
theorem dX9_isThere_12 : decode cX9_isThere 12 = .ok (.iload_n 2, 1) := by decide +kernel
theorem dX9_isThere_13 : decode cX9_isThere 13 = .ok (.invokevirtual 72, 3) := by decide +kernel
theorem dX9_isThere_16 : decode cX9_isThere 16 = .ok (.ifCond .eq 7, 3) := by decide +kernel
theorem dX9_isThere_19 : decode cX9_isThere 19 = .ok (.iconst 1, 1) := by decide +kernel
theorem dX9_isThere_20 : decode cX9_isThere 20 = .ok (.goto 4, 3) := by decide +kernel
theorem dX9_isThere_23 : decode cX9_isThere 23 = .ok (.iconst 0, 1) := by decide +kernel
theorem dX9_isThere_24 : decode cX9_isThere 24 = .ok (.ireturn, 1) := by decide +kernel
theorem dX9_parentOf_0 : decode cX9_parentOf 0 = .ok (.aload_n 0, 1) := by decide +kernel
theorem dX9_parentOf_1 : decode cX9_parentOf 1 = .ok (.getfield 7, 3) := by decide +kernel
theorem dX9_parentOf_4 : decode cX9_parentOf 4 = .ok (.bipush 64, 2) := by decide +kernel
theorem dX9_parentOf_6 : decode cX9_parentOf 6 = .ok (.iload_n 1, 1) := by decide +kernel
theorem dX9_parentOf_7 : decode cX9_parentOf 7 = .ok (.imul, 1) := by decide +kernel
theorem dX9_parentOf_8 : decode cX9_parentOf 8 = .ok (.iload_n 2, 1) := by decide +kernel
theorem dX9_parentOf_9 : decode cX9_parentOf 9 = .ok (.iadd, 1) := by decide +kernel
theorem dX9_parentOf_10 : decode cX9_parentOf 10 = .ok (.iaload, 1) := by decide +kernel
theorem dX9_parentOf_11 : decode cX9_parentOf 11 = .ok (.ireturn, 1) := by decide +kernel
theorem dX9_placeOf_0 : decode cX9_placeOf 0 = .ok (.aload_n 0, 1) := by decide +kernel
theorem dX9_placeOf_1 : decode cX9_placeOf 1 = .ok (.getfield 7, 3) := by decide +kernel
theorem dX9_placeOf_4 : decode cX9_placeOf 4 = .ok (.bipush 64, 2) := by decide +kernel
theorem dX9_placeOf_6 : decode cX9_placeOf 6 = .ok (.iload_n 1, 1) := by decide +kernel
theorem dX9_placeOf_7 : decode cX9_placeOf 7 = .ok (.imul, 1) := by decide +kernel
theorem dX9_placeOf_8 : decode cX9_placeOf 8 = .ok (.bipush 16, 2) := by decide +kernel
theorem dX9_placeOf_10 : decode cX9_placeOf 10 = .ok (.iadd, 1) := by decide +kernel
theorem dX9_placeOf_11 : decode cX9_placeOf 11 = .ok (.iload_n 2, 1) := by decide +kernel
theorem dX9_placeOf_12 : decode cX9_placeOf 12 = .ok (.iadd, 1) := by decide +kernel
theorem dX9_placeOf_13 : decode cX9_placeOf 13 = .ok (.iaload, 1) := by decide +kernel
theorem dX9_placeOf_14 : decode cX9_placeOf 14 = .ok (.ireturn, 1) := by decide +kernel
theorem dX9_nameOf_0 : decode cX9_nameOf 0 = .ok (.aload_n 0, 1) := by decide +kernel
theorem dX9_nameOf_1 : decode cX9_nameOf 1 = .ok (.getfield 7, 3) := by decide +kernel
theorem dX9_nameOf_4 : decode cX9_nameOf 4 = .ok (.bipush 64, 2) := by decide +kernel
theorem dX9_nameOf_6 : decode cX9_nameOf 6 = .ok (.iload_n 1, 1) := by decide +kernel
theorem dX9_nameOf_7 : decode cX9_nameOf 7 = .ok (.imul, 1) := by decide +kernel
theorem dX9_nameOf_8 : decode cX9_nameOf 8 = .ok (.bipush 32, 2) := by decide +kernel
theorem dX9_nameOf_10 : decode cX9_nameOf 10 = .ok (.iadd, 1) := by decide +kernel
theorem dX9_nameOf_11 : decode cX9_nameOf 11 = .ok (.iload_n 2, 1) := by decide +kernel
theorem dX9_nameOf_12 : decode cX9_nameOf 12 = .ok (.iadd, 1) := by decide +kernel
theorem dX9_nameOf_13 : decode cX9_nameOf 13 = .ok (.iaload, 1) := by decide +kernel
theorem dX9_nameOf_14 : decode cX9_nameOf 14 = .ok (.ireturn, 1) := by decide +kernel
theorem dX9_textOf_0 : decode cX9_textOf 0 = .ok (.aload_n 0, 1) := by decide +kernel
theorem dX9_textOf_1 : decode cX9_textOf 1 = .ok (.getfield 7, 3) := by decide +kernel
theorem dX9_textOf_4 : decode cX9_textOf 4 = .ok (.bipush 64, 2) := by decide +kernel
theorem dX9_textOf_6 : decode cX9_textOf 6 = .ok (.iload_n 1, 1) := by decide +kernel
theorem dX9_textOf_7 : decode cX9_textOf 7 = .ok (.imul, 1) := by decide +kernel
theorem dX9_textOf_8 : decode cX9_textOf 8 = .ok (.bipush 48, 2) := by decide +kernel
theorem dX9_textOf_10 : decode cX9_textOf 10 = .ok (.iadd, 1) := by decide +kernel
theorem dX9_textOf_11 : decode cX9_textOf 11 = .ok (.iload_n 2, 1) := by decide +kernel
theorem dX9_textOf_12 : decode cX9_textOf 12 = .ok (.iadd, 1) := by decide +kernel
theorem dX9_textOf_13 : decode cX9_textOf 13 = .ok (.iaload, 1) := by decide +kernel
theorem dX9_textOf_14 : decode cX9_textOf 14 = .ok (.ireturn, 1) := by decide +kernel
theorem dX9_childrenOf_0 : decode cX9_childrenOf 0 = .ok (.iconst 0, 1) := by decide +kernel
theorem dX9_childrenOf_1 : decode cX9_childrenOf 1 = .ok (.istore_n 3, 1) := by decide +kernel
theorem dX9_childrenOf_2 : decode cX9_childrenOf 2 = .ok (.iconst 1, 1) := by decide +kernel
theorem dX9_childrenOf_3 : decode cX9_childrenOf 3 = .ok (.istore 4, 2) := by decide +kernel
theorem dX9_childrenOf_5 : decode cX9_childrenOf 5 = .ok (.iload 4, 2) := by decide +kernel
theorem dX9_childrenOf_7 : decode cX9_childrenOf 7 = .ok (.bipush 16, 2) := by decide +kernel
theorem dX9_childrenOf_9 : decode cX9_childrenOf 9 = .ok (.if_icmp .ge 28, 3) := by decide +kernel
theorem dX9_childrenOf_12 : decode cX9_childrenOf 12 = .ok (.iload_n 3, 1) := by decide +kernel
theorem dX9_childrenOf_13 : decode cX9_childrenOf 13 = .ok (.aload_n 0, 1) := by decide +kernel
theorem dX9_childrenOf_14 : decode cX9_childrenOf 14 = .ok (.iload_n 1, 1) := by decide +kernel
theorem dX9_childrenOf_15 : decode cX9_childrenOf 15 = .ok (.iload 4, 2) := by decide +kernel
theorem dX9_childrenOf_17 : decode cX9_childrenOf 17 = .ok (.invokevirtual 76, 3) := by decide +kernel
theorem dX9_childrenOf_20 : decode cX9_childrenOf 20 = .ok (.iload_n 2, 1) := by decide +kernel
theorem dX9_childrenOf_21 : decode cX9_childrenOf 21 = .ok (.if_icmp .ne 7, 3) := by decide +kernel
theorem dX9_childrenOf_24 : decode cX9_childrenOf 24 = .ok (.iconst 1, 1) := by decide +kernel
theorem dX9_childrenOf_25 : decode cX9_childrenOf 25 = .ok (.goto 4, 3) := by decide +kernel
theorem dX9_childrenOf_28 : decode cX9_childrenOf 28 = .ok (.iconst 0, 1) := by decide +kernel
theorem dX9_childrenOf_29 : decode cX9_childrenOf 29 = .ok (.iadd, 1) := by decide +kernel
theorem dX9_childrenOf_30 : decode cX9_childrenOf 30 = .ok (.istore_n 3, 1) := by decide +kernel
theorem dX9_childrenOf_31 : decode cX9_childrenOf 31 = .ok (.iinc 4 1, 3) := by decide +kernel
theorem dX9_childrenOf_34 : decode cX9_childrenOf 34 = .ok (.goto (-29), 3) := by decide +kernel
theorem dX9_childrenOf_37 : decode cX9_childrenOf 37 = .ok (.iload_n 3, 1) := by decide +kernel
theorem dX9_childrenOf_38 : decode cX9_childrenOf 38 = .ok (.ireturn, 1) := by decide +kernel
theorem dX9_manyIn_0 : decode cX9_manyIn 0 = .ok (.iconst 0, 1) := by decide +kernel
theorem dX9_manyIn_1 : decode cX9_manyIn 1 = .ok (.istore_n 2, 1) := by decide +kernel
theorem dX9_manyIn_2 : decode cX9_manyIn 2 = .ok (.iconst 0, 1) := by decide +kernel
theorem dX9_manyIn_3 : decode cX9_manyIn 3 = .ok (.istore_n 3, 1) := by decide +kernel
theorem dX9_manyIn_4 : decode cX9_manyIn 4 = .ok (.iload_n 3, 1) := by decide +kernel
theorem dX9_manyIn_5 : decode cX9_manyIn 5 = .ok (.bipush 16, 2) := by decide +kernel
theorem dX9_manyIn_7 : decode cX9_manyIn 7 = .ok (.if_icmp .ge 26, 3) := by decide +kernel
theorem dX9_manyIn_10 : decode cX9_manyIn 10 = .ok (.iload_n 2, 1) := by decide +kernel
theorem dX9_manyIn_11 : decode cX9_manyIn 11 = .ok (.aload_n 0, 1) := by decide +kernel
theorem dX9_manyIn_12 : decode cX9_manyIn 12 = .ok (.iload_n 1, 1) := by decide +kernel
theorem dX9_manyIn_13 : decode cX9_manyIn 13 = .ok (.iload_n 3, 1) := by decide +kernel
theorem dX9_manyIn_14 : decode cX9_manyIn 14 = .ok (.invokevirtual 72, 3) := by decide +kernel
theorem dX9_manyIn_17 : decode cX9_manyIn 17 = .ok (.ifCond .eq 7, 3) := by decide +kernel
theorem dX9_manyIn_20 : decode cX9_manyIn 20 = .ok (.iconst 1, 1) := by decide +kernel
theorem dX9_manyIn_21 : decode cX9_manyIn 21 = .ok (.goto 4, 3) := by decide +kernel
theorem dX9_manyIn_24 : decode cX9_manyIn 24 = .ok (.iconst 0, 1) := by decide +kernel
theorem dX9_manyIn_25 : decode cX9_manyIn 25 = .ok (.iadd, 1) := by decide +kernel
theorem dX9_manyIn_26 : decode cX9_manyIn 26 = .ok (.istore_n 2, 1) := by decide +kernel
theorem dX9_manyIn_27 : decode cX9_manyIn 27 = .ok (.iinc 3 1, 3) := by decide +kernel
theorem dX9_manyIn_30 : decode cX9_manyIn 30 = .ok (.goto (-26), 3) := by decide +kernel
theorem dX9_manyIn_33 : decode cX9_manyIn 33 = .ok (.iload_n 2, 1) := by decide +kernel
theorem dX9_manyIn_34 : decode cX9_manyIn 34 = .ok (.ireturn, 1) := by decide +kernel
theorem dX9_belowOf_0 : decode cX9_belowOf 0 = .ok (.iconst 1, 1) := by decide +kernel
theorem dX9_belowOf_1 : decode cX9_belowOf 1 = .ok (.iload_n 2, 1) := by decide +kernel
theorem dX9_belowOf_2 : decode cX9_belowOf 2 = .ok (.ishl, 1) := by decide +kernel
theorem dX9_belowOf_3 : decode cX9_belowOf 3 = .ok (.istore_n 3, 1) := by decide +kernel
theorem dX9_belowOf_4 : decode cX9_belowOf 4 = .ok (.iconst 0, 1) := by decide +kernel
theorem dX9_belowOf_5 : decode cX9_belowOf 5 = .ok (.istore 4, 2) := by decide +kernel
theorem dX9_belowOf_7 : decode cX9_belowOf 7 = .ok (.iload_n 3, 1) := by decide +kernel
theorem dX9_belowOf_8 : decode cX9_belowOf 8 = .ok (.iload 4, 2) := by decide +kernel
theorem dX9_belowOf_10 : decode cX9_belowOf 10 = .ok (.if_icmp .eq 62, 3) := by decide +kernel
theorem dX9_belowOf_13 : decode cX9_belowOf 13 = .ok (.iload_n 3, 1) := by decide +kernel
theorem dX9_belowOf_14 : decode cX9_belowOf 14 = .ok (.istore 4, 2) := by decide +kernel
theorem dX9_belowOf_16 : decode cX9_belowOf 16 = .ok (.iconst 1, 1) := by decide +kernel
theorem dX9_belowOf_17 : decode cX9_belowOf 17 = .ok (.istore 5, 2) := by decide +kernel
theorem dX9_belowOf_19 : decode cX9_belowOf 19 = .ok (.iload 5, 2) := by decide +kernel
theorem dX9_belowOf_21 : decode cX9_belowOf 21 = .ok (.bipush 16, 2) := by decide +kernel
theorem dX9_belowOf_23 : decode cX9_belowOf 23 = .ok (.if_icmp .ge 46, 3) := by decide +kernel
theorem dX9_belowOf_26 : decode cX9_belowOf 26 = .ok (.iload_n 3, 1) := by decide +kernel
theorem dX9_belowOf_27 : decode cX9_belowOf 27 = .ok (.aload_n 0, 1) := by decide +kernel
theorem dX9_belowOf_28 : decode cX9_belowOf 28 = .ok (.iload_n 1, 1) := by decide +kernel
theorem dX9_belowOf_29 : decode cX9_belowOf 29 = .ok (.iload 5, 2) := by decide +kernel
theorem dX9_belowOf_31 : decode cX9_belowOf 31 = .ok (.invokevirtual 72, 3) := by decide +kernel
theorem dX9_belowOf_34 : decode cX9_belowOf 34 = .ok (.ifCond .eq 26, 3) := by decide +kernel
theorem dX9_belowOf_37 : decode cX9_belowOf 37 = .ok (.iload 4, 2) := by decide +kernel
theorem dX9_belowOf_39 : decode cX9_belowOf 39 = .ok (.aload_n 0, 1) := by decide +kernel
theorem dX9_belowOf_40 : decode cX9_belowOf 40 = .ok (.iload_n 1, 1) := by decide +kernel
theorem dX9_belowOf_41 : decode cX9_belowOf 41 = .ok (.iload 5, 2) := by decide +kernel
theorem dX9_belowOf_43 : decode cX9_belowOf 43 = .ok (.invokevirtual 76, 3) := by decide +kernel
theorem dX9_belowOf_46 : decode cX9_belowOf 46 = .ok (.ishr, 1) := by decide +kernel
theorem dX9_belowOf_47 : decode cX9_belowOf 47 = .ok (.iconst 1, 1) := by decide +kernel
theorem dX9_belowOf_48 : decode cX9_belowOf 48 = .ok (.iand, 1) := by decide +kernel
theorem dX9_belowOf_49 : decode cX9_belowOf 49 = .ok (.iconst 1, 1) := by decide +kernel
theorem dX9_belowOf_50 : decode cX9_belowOf 50 = .ok (.if_icmp .ne 10, 3) := by decide +kernel
theorem dX9_belowOf_53 : decode cX9_belowOf 53 = .ok (.iconst 1, 1) := by decide +kernel
theorem dX9_belowOf_54 : decode cX9_belowOf 54 = .ok (.iload 5, 2) := by decide +kernel
theorem dX9_belowOf_56 : decode cX9_belowOf 56 = .ok (.ishl, 1) := by decide +kernel
theorem dX9_belowOf_57 : decode cX9_belowOf 57 = .ok (.goto 4, 3) := by decide +kernel
theorem dX9_belowOf_60 : decode cX9_belowOf 60 = .ok (.iconst 0, 1) := by decide +kernel
theorem dX9_belowOf_61 : decode cX9_belowOf 61 = .ok (.ior, 1) := by decide +kernel
theorem dX9_belowOf_62 : decode cX9_belowOf 62 = .ok (.istore_n 3, 1) := by decide +kernel
theorem dX9_belowOf_63 : decode cX9_belowOf 63 = .ok (.iinc 5 1, 3) := by decide +kernel
theorem dX9_belowOf_66 : decode cX9_belowOf 66 = .ok (.goto (-47), 3) := by decide +kernel
theorem dX9_belowOf_69 : decode cX9_belowOf 69 = .ok (.goto (-62), 3) := by decide +kernel
theorem dX9_belowOf_72 : decode cX9_belowOf 72 = .ok (.iload_n 3, 1) := by decide +kernel
theorem dX9_belowOf_73 : decode cX9_belowOf 73 = .ok (.ireturn, 1) := by decide +kernel
theorem dX9_ones_0 : decode cX9_ones 0 = .ok (.iconst 0, 1) := by decide +kernel
theorem dX9_ones_1 : decode cX9_ones 1 = .ok (.istore_n 1, 1) := by decide +kernel
theorem dX9_ones_2 : decode cX9_ones 2 = .ok (.iconst 0, 1) := by decide +kernel
theorem dX9_ones_3 : decode cX9_ones 3 = .ok (.istore_n 2, 1) := by decide +kernel
theorem dX9_ones_4 : decode cX9_ones 4 = .ok (.iload_n 2, 1) := by decide +kernel
theorem dX9_ones_5 : decode cX9_ones 5 = .ok (.bipush 16, 2) := by decide +kernel
theorem dX9_ones_7 : decode cX9_ones 7 = .ok (.if_icmp .ge 17, 3) := by decide +kernel
theorem dX9_ones_10 : decode cX9_ones 10 = .ok (.iload_n 1, 1) := by decide +kernel
theorem dX9_ones_11 : decode cX9_ones 11 = .ok (.iload_n 0, 1) := by decide +kernel
theorem dX9_ones_12 : decode cX9_ones 12 = .ok (.iload_n 2, 1) := by decide +kernel
theorem dX9_ones_13 : decode cX9_ones 13 = .ok (.ishr, 1) := by decide +kernel
theorem dX9_ones_14 : decode cX9_ones 14 = .ok (.iconst 1, 1) := by decide +kernel
theorem dX9_ones_15 : decode cX9_ones 15 = .ok (.iand, 1) := by decide +kernel
theorem dX9_ones_16 : decode cX9_ones 16 = .ok (.iadd, 1) := by decide +kernel
theorem dX9_ones_17 : decode cX9_ones 17 = .ok (.istore_n 1, 1) := by decide +kernel
theorem dX9_ones_18 : decode cX9_ones 18 = .ok (.iinc 2 1, 3) := by decide +kernel
theorem dX9_ones_21 : decode cX9_ones 21 = .ok (.goto (-17), 3) := by decide +kernel
theorem dX9_ones_24 : decode cX9_ones 24 = .ok (.iload_n 1, 1) := by decide +kernel
theorem dX9_ones_25 : decode cX9_ones 25 = .ok (.ireturn, 1) := by decide +kernel
theorem dX9_push_0 : decode cX9_push 0 = .ok (.iconst 1, 1) := by decide +kernel
theorem dX9_push_1 : decode cX9_push 1 = .ok (.istore 5, 2) := by decide +kernel
theorem dX9_push_3 : decode cX9_push 3 = .ok (.iload 5, 2) := by decide +kernel
theorem dX9_push_5 : decode cX9_push 5 = .ok (.bipush 16, 2) := by decide +kernel
theorem dX9_push_7 : decode cX9_push 7 = .ok (.if_icmp .ge 55, 3) := by decide +kernel
theorem dX9_push_10 : decode cX9_push 10 = .ok (.aload_n 0, 1) := by decide +kernel
theorem dX9_push_11 : decode cX9_push 11 = .ok (.getfield 7, 3) := by decide +kernel
theorem dX9_push_14 : decode cX9_push 14 = .ok (.bipush 64, 2) := by decide +kernel
theorem dX9_push_16 : decode cX9_push 16 = .ok (.iload_n 1, 1) := by decide +kernel
theorem dX9_push_17 : decode cX9_push 17 = .ok (.imul, 1) := by decide +kernel
theorem dX9_push_18 : decode cX9_push 18 = .ok (.bipush 16, 2) := by decide +kernel
theorem dX9_push_20 : decode cX9_push 20 = .ok (.iadd, 1) := by decide +kernel
theorem dX9_push_21 : decode cX9_push 21 = .ok (.iload 5, 2) := by decide +kernel
theorem dX9_push_23 : decode cX9_push 23 = .ok (.iadd, 1) := by decide +kernel
theorem dX9_push_24 : decode cX9_push 24 = .ok (.dup2, 1) := by decide +kernel
theorem dX9_push_25 : decode cX9_push 25 = .ok (.iaload, 1) := by decide +kernel
theorem dX9_push_26 : decode cX9_push 26 = .ok (.aload_n 0, 1) := by decide +kernel
theorem dX9_push_27 : decode cX9_push 27 = .ok (.iload_n 1, 1) := by decide +kernel
theorem dX9_push_28 : decode cX9_push 28 = .ok (.iload 5, 2) := by decide +kernel
theorem dX9_push_30 : decode cX9_push 30 = .ok (.invokevirtual 76, 3) := by decide +kernel
theorem dX9_push_33 : decode cX9_push 33 = .ok (.iload_n 2, 1) := by decide +kernel
theorem dX9_push_34 : decode cX9_push 34 = .ok (.if_icmp .ne 19, 3) := by decide +kernel
theorem dX9_push_37 : decode cX9_push 37 = .ok (.aload_n 0, 1) := by decide +kernel
theorem dX9_push_38 : decode cX9_push 38 = .ok (.iload_n 1, 1) := by decide +kernel
theorem dX9_push_39 : decode cX9_push 39 = .ok (.iload 5, 2) := by decide +kernel
theorem dX9_push_41 : decode cX9_push 41 = .ok (.invokevirtual 80, 3) := by decide +kernel
theorem dX9_push_44 : decode cX9_push 44 = .ok (.iload_n 3, 1) := by decide +kernel
theorem dX9_push_45 : decode cX9_push 45 = .ok (.if_icmp .lt 8, 3) := by decide +kernel
theorem dX9_push_48 : decode cX9_push 48 = .ok (.iload 4, 2) := by decide +kernel
theorem dX9_push_50 : decode cX9_push 50 = .ok (.goto 4, 3) := by decide +kernel
theorem dX9_push_53 : decode cX9_push 53 = .ok (.iconst 0, 1) := by decide +kernel
theorem dX9_push_54 : decode cX9_push 54 = .ok (.iadd, 1) := by decide +kernel
theorem dX9_push_55 : decode cX9_push 55 = .ok (.iastore, 1) := by decide +kernel
theorem dX9_push_56 : decode cX9_push 56 = .ok (.iinc 5 1, 3) := by decide +kernel
theorem dX9_push_59 : decode cX9_push 59 = .ok (.goto (-56), 3) := by decide +kernel
theorem dX9_push_62 : decode cX9_push 62 = .ok (.return_, 1) := by decide +kernel
theorem dX9_hang_0 : decode cX9_hang 0 = .ok (.aload_n 0, 1) := by decide +kernel
theorem dX9_hang_1 : decode cX9_hang 1 = .ok (.iload_n 1, 1) := by decide +kernel
theorem dX9_hang_2 : decode cX9_hang 2 = .ok (.iload_n 3, 1) := by decide +kernel
theorem dX9_hang_3 : decode cX9_hang 3 = .ok (.iload 4, 2) := by decide +kernel
theorem dX9_hang_5 : decode cX9_hang 5 = .ok (.iconst 1, 1) := by decide +kernel
theorem dX9_hang_6 : decode cX9_hang 6 = .ok (.invokevirtual 83, 3) := by decide +kernel
theorem dX9_hang_9 : decode cX9_hang 9 = .ok (.aload_n 0, 1) := by decide +kernel
theorem dX9_hang_10 : decode cX9_hang 10 = .ok (.getfield 7, 3) := by decide +kernel
theorem dX9_hang_13 : decode cX9_hang 13 = .ok (.bipush 64, 2) := by decide +kernel
theorem dX9_hang_15 : decode cX9_hang 15 = .ok (.iload_n 1, 1) := by decide +kernel
theorem dX9_hang_16 : decode cX9_hang 16 = .ok (.imul, 1) := by decide +kernel
theorem dX9_hang_17 : decode cX9_hang 17 = .ok (.iload_n 2, 1) := by decide +kernel
theorem dX9_hang_18 : decode cX9_hang 18 = .ok (.iadd, 1) := by decide +kernel
theorem dX9_hang_19 : decode cX9_hang 19 = .ok (.iload_n 3, 1) := by decide +kernel
theorem dX9_hang_20 : decode cX9_hang 20 = .ok (.iastore, 1) := by decide +kernel
theorem dX9_hang_21 : decode cX9_hang 21 = .ok (.aload_n 0, 1) := by decide +kernel
theorem dX9_hang_22 : decode cX9_hang 22 = .ok (.getfield 7, 3) := by decide +kernel
theorem dX9_hang_25 : decode cX9_hang 25 = .ok (.bipush 64, 2) := by decide +kernel
theorem dX9_hang_27 : decode cX9_hang 27 = .ok (.iload_n 1, 1) := by decide +kernel
theorem dX9_hang_28 : decode cX9_hang 28 = .ok (.imul, 1) := by decide +kernel
theorem dX9_hang_29 : decode cX9_hang 29 = .ok (.bipush 16, 2) := by decide +kernel
theorem dX9_hang_31 : decode cX9_hang 31 = .ok (.iadd, 1) := by decide +kernel
theorem dX9_hang_32 : decode cX9_hang 32 = .ok (.iload_n 2, 1) := by decide +kernel
theorem dX9_hang_33 : decode cX9_hang 33 = .ok (.iadd, 1) := by decide +kernel
theorem dX9_hang_34 : decode cX9_hang 34 = .ok (.iload 4, 2) := by decide +kernel
theorem dX9_hang_36 : decode cX9_hang 36 = .ok (.iastore, 1) := by decide +kernel
theorem dX9_hang_37 : decode cX9_hang 37 = .ok (.return_, 1) := by decide +kernel
theorem dX9_unhang_0 : decode cX9_unhang 0 = .ok (.aload_n 0, 1) := by decide +kernel
theorem dX9_unhang_1 : decode cX9_unhang 1 = .ok (.iload_n 1, 1) := by decide +kernel
theorem dX9_unhang_2 : decode cX9_unhang 2 = .ok (.iload_n 2, 1) := by decide +kernel
theorem dX9_unhang_3 : decode cX9_unhang 3 = .ok (.invokevirtual 76, 3) := by decide +kernel
theorem dX9_unhang_6 : decode cX9_unhang 6 = .ok (.istore_n 3, 1) := by decide +kernel
theorem dX9_unhang_7 : decode cX9_unhang 7 = .ok (.aload_n 0, 1) := by decide +kernel
theorem dX9_unhang_8 : decode cX9_unhang 8 = .ok (.iload_n 1, 1) := by decide +kernel
theorem dX9_unhang_9 : decode cX9_unhang 9 = .ok (.iload_n 2, 1) := by decide +kernel
theorem dX9_unhang_10 : decode cX9_unhang 10 = .ok (.invokevirtual 80, 3) := by decide +kernel
theorem dX9_unhang_13 : decode cX9_unhang 13 = .ok (.istore 4, 2) := by decide +kernel
theorem dX9_unhang_15 : decode cX9_unhang 15 = .ok (.aload_n 0, 1) := by decide +kernel
theorem dX9_unhang_16 : decode cX9_unhang 16 = .ok (.getfield 7, 3) := by decide +kernel
theorem dX9_unhang_19 : decode cX9_unhang 19 = .ok (.bipush 64, 2) := by decide +kernel
theorem dX9_unhang_21 : decode cX9_unhang 21 = .ok (.iload_n 1, 1) := by decide +kernel
theorem dX9_unhang_22 : decode cX9_unhang 22 = .ok (.imul, 1) := by decide +kernel
theorem dX9_unhang_23 : decode cX9_unhang 23 = .ok (.iload_n 2, 1) := by decide +kernel
theorem dX9_unhang_24 : decode cX9_unhang 24 = .ok (.iadd, 1) := by decide +kernel
theorem dX9_unhang_25 : decode cX9_unhang 25 = .ok (.bipush (-9), 2) := by decide +kernel
theorem dX9_unhang_27 : decode cX9_unhang 27 = .ok (.iastore, 1) := by decide +kernel
theorem dX9_unhang_28 : decode cX9_unhang 28 = .ok (.aload_n 0, 1) := by decide +kernel
theorem dX9_unhang_29 : decode cX9_unhang 29 = .ok (.iload_n 1, 1) := by decide +kernel
theorem dX9_unhang_30 : decode cX9_unhang 30 = .ok (.iload_n 3, 1) := by decide +kernel
theorem dX9_unhang_31 : decode cX9_unhang 31 = .ok (.iload 4, 2) := by decide +kernel
theorem dX9_unhang_33 : decode cX9_unhang 33 = .ok (.iconst (-1), 1) := by decide +kernel
theorem dX9_unhang_34 : decode cX9_unhang 34 = .ok (.invokevirtual 83, 3) := by decide +kernel
theorem dX9_unhang_37 : decode cX9_unhang 37 = .ok (.return_, 1) := by decide +kernel
theorem dX9_isOutline_0 : decode cX9_isOutline 0 = .ok (.iload_n 0, 1) := by decide +kernel
theorem dX9_isOutline_1 : decode cX9_isOutline 1 = .ok (.iconst 0, 1) := by decide +kernel
theorem dX9_isOutline_2 : decode cX9_isOutline 2 = .ok (.iconst 2, 1) := by decide +kernel
theorem dX9_isOutline_3 : decode cX9_isOutline 3 = .ok (.invokestatic 68, 3) := by decide +kernel
theorem dX9_isOutline_6 : decode cX9_isOutline 6 = .ok (.ireturn, 1) := by decide +kernel
theorem dX9_isWord_0 : decode cX9_isWord 0 = .ok (.iload_n 0, 1) := by decide +kernel
theorem dX9_isWord_1 : decode cX9_isWord 1 = .ok (.iconst 0, 1) := by decide +kernel
theorem dX9_isWord_2 : decode cX9_isWord 2 = .ok (.bipush 99, 2) := by decide +kernel
theorem dX9_isWord_4 : decode cX9_isWord 4 = .ok (.invokestatic 68, 3) := by decide +kernel
theorem dX9_isWord_7 : decode cX9_isWord 7 = .ok (.ireturn, 1) := by decide +kernel
theorem dX9_add_0 : decode cX9_add 0 = .ok (.iload_n 1, 1) := by decide +kernel
theorem dX9_add_1 : decode cX9_add 1 = .ok (.invokestatic 87, 3) := by decide +kernel
theorem dX9_add_4 : decode cX9_add 4 = .ok (.ifCond .eq 42, 3) := by decide +kernel
theorem dX9_add_7 : decode cX9_add 7 = .ok (.aload_n 0, 1) := by decide +kernel
theorem dX9_add_8 : decode cX9_add 8 = .ok (.iload_n 1, 1) := by decide +kernel
theorem dX9_add_9 : decode cX9_add 9 = .ok (.iload_n 2, 1) := by decide +kernel
theorem dX9_add_10 : decode cX9_add 10 = .ok (.invokevirtual 90, 3) := by decide +kernel
theorem dX9_add_13 : decode cX9_add 13 = .ok (.ifCond .eq 33, 3) := by decide +kernel
theorem dX9_add_16 : decode cX9_add 16 = .ok (.iload_n 3, 1) := by decide +kernel
theorem dX9_add_17 : decode cX9_add 17 = .ok (.iconst 0, 1) := by decide +kernel
theorem dX9_add_18 : decode cX9_add 18 = .ok (.aload_n 0, 1) := by decide +kernel
theorem dX9_add_19 : decode cX9_add 19 = .ok (.iload_n 1, 1) := by decide +kernel
theorem dX9_add_20 : decode cX9_add 20 = .ok (.iload_n 2, 1) := by decide +kernel
theorem dX9_add_21 : decode cX9_add 21 = .ok (.invokevirtual 93, 3) := by decide +kernel
theorem dX9_add_24 : decode cX9_add 24 = .ok (.invokestatic 68, 3) := by decide +kernel
theorem dX9_add_27 : decode cX9_add 27 = .ok (.ifCond .eq 19, 3) := by decide +kernel
theorem dX9_add_30 : decode cX9_add 30 = .ok (.iload 4, 2) := by decide +kernel
theorem dX9_add_32 : decode cX9_add 32 = .ok (.invokestatic 96, 3) := by decide +kernel
theorem dX9_add_35 : decode cX9_add 35 = .ok (.ifCond .eq 11, 3) := by decide +kernel
theorem dX9_add_38 : decode cX9_add 38 = .ok (.iload 5, 2) := by decide +kernel
theorem dX9_add_40 : decode cX9_add 40 = .ok (.invokestatic 96, 3) := by decide +kernel
theorem dX9_add_43 : decode cX9_add 43 = .ok (.ifCond .ne 6, 3) := by decide +kernel
theorem dX9_add_46 : decode cX9_add 46 = .ok (.bipush (-2), 2) := by decide +kernel
theorem dX9_add_48 : decode cX9_add 48 = .ok (.ireturn, 1) := by decide +kernel
theorem dX9_add_49 : decode cX9_add 49 = .ok (.aload_n 0, 1) := by decide +kernel
theorem dX9_add_50 : decode cX9_add 50 = .ok (.getfield 7, 3) := by decide +kernel
theorem dX9_add_53 : decode cX9_add 53 = .ok (.sipush 257, 3) := by decide +kernel
theorem dX9_add_56 : decode cX9_add 56 = .ok (.iaload, 1) := by decide +kernel
theorem dX9_add_57 : decode cX9_add 57 = .ok (.istore 6, 2) := by decide +kernel
theorem dX9_add_59 : decode cX9_add 59 = .ok (.iload 6, 2) := by decide +kernel
theorem dX9_add_61 : decode cX9_add 61 = .ok (.bipush 16, 2) := by decide +kernel
theorem dX9_add_63 : decode cX9_add 63 = .ok (.if_icmp .ne 6, 3) := by decide +kernel
theorem dX9_add_66 : decode cX9_add 66 = .ok (.bipush (-4), 2) := by decide +kernel
theorem dX9_add_68 : decode cX9_add 68 = .ok (.ireturn, 1) := by decide +kernel
theorem dX9_add_69 : decode cX9_add 69 = .ok (.aload_n 0, 1) := by decide +kernel
theorem dX9_add_70 : decode cX9_add 70 = .ok (.getfield 7, 3) := by decide +kernel
theorem dX9_add_73 : decode cX9_add 73 = .ok (.sipush 257, 3) := by decide +kernel
theorem dX9_add_76 : decode cX9_add 76 = .ok (.dup2, 1) := by decide +kernel
theorem dX9_add_77 : decode cX9_add 77 = .ok (.iaload, 1) := by decide +kernel
theorem dX9_add_78 : decode cX9_add 78 = .ok (.iconst 1, 1) := by decide +kernel
theorem dX9_add_79 : decode cX9_add 79 = .ok (.iadd, 1) := by decide +kernel
theorem dX9_add_80 : decode cX9_add 80 = .ok (.iastore, 1) := by decide +kernel
theorem dX9_add_81 : decode cX9_add 81 = .ok (.aload_n 0, 1) := by decide +kernel
theorem dX9_add_82 : decode cX9_add 82 = .ok (.iload_n 1, 1) := by decide +kernel
theorem dX9_add_83 : decode cX9_add 83 = .ok (.iload 6, 2) := by decide +kernel
theorem dX9_add_85 : decode cX9_add 85 = .ok (.iload_n 2, 1) := by decide +kernel
theorem dX9_add_86 : decode cX9_add 86 = .ok (.iload_n 3, 1) := by decide +kernel
theorem dX9_add_87 : decode cX9_add 87 = .ok (.invokevirtual 99, 3) := by decide +kernel
theorem dX9_add_90 : decode cX9_add 90 = .ok (.aload_n 0, 1) := by decide +kernel
theorem dX9_add_91 : decode cX9_add 91 = .ok (.getfield 7, 3) := by decide +kernel
theorem dX9_add_94 : decode cX9_add 94 = .ok (.bipush 64, 2) := by decide +kernel
theorem dX9_add_96 : decode cX9_add 96 = .ok (.iload_n 1, 1) := by decide +kernel
theorem dX9_add_97 : decode cX9_add 97 = .ok (.imul, 1) := by decide +kernel
theorem dX9_add_98 : decode cX9_add 98 = .ok (.bipush 32, 2) := by decide +kernel
theorem dX9_add_100 : decode cX9_add 100 = .ok (.iadd, 1) := by decide +kernel
theorem dX9_add_101 : decode cX9_add 101 = .ok (.iload 6, 2) := by decide +kernel
theorem dX9_add_103 : decode cX9_add 103 = .ok (.iadd, 1) := by decide +kernel
theorem dX9_add_104 : decode cX9_add 104 = .ok (.iload 4, 2) := by decide +kernel
theorem dX9_add_106 : decode cX9_add 106 = .ok (.iastore, 1) := by decide +kernel
theorem dX9_add_107 : decode cX9_add 107 = .ok (.aload_n 0, 1) := by decide +kernel
theorem dX9_add_108 : decode cX9_add 108 = .ok (.getfield 7, 3) := by decide +kernel
theorem dX9_add_111 : decode cX9_add 111 = .ok (.bipush 64, 2) := by decide +kernel
theorem dX9_add_113 : decode cX9_add 113 = .ok (.iload_n 1, 1) := by decide +kernel
theorem dX9_add_114 : decode cX9_add 114 = .ok (.imul, 1) := by decide +kernel
theorem dX9_add_115 : decode cX9_add 115 = .ok (.bipush 48, 2) := by decide +kernel
theorem dX9_add_117 : decode cX9_add 117 = .ok (.iadd, 1) := by decide +kernel
theorem dX9_add_118 : decode cX9_add 118 = .ok (.iload 6, 2) := by decide +kernel
theorem dX9_add_120 : decode cX9_add 120 = .ok (.iadd, 1) := by decide +kernel
theorem dX9_add_121 : decode cX9_add 121 = .ok (.iload 5, 2) := by decide +kernel
theorem dX9_add_123 : decode cX9_add 123 = .ok (.iastore, 1) := by decide +kernel
theorem dX9_add_124 : decode cX9_add 124 = .ok (.iload 6, 2) := by decide +kernel
theorem dX9_add_126 : decode cX9_add 126 = .ok (.ireturn, 1) := by decide +kernel
theorem dX9_move_0 : decode cX9_move 0 = .ok (.iload_n 1, 1) := by decide +kernel
theorem dX9_move_1 : decode cX9_move 1 = .ok (.invokestatic 87, 3) := by decide +kernel
theorem dX9_move_4 : decode cX9_move 4 = .ok (.ifCond .eq 25, 3) := by decide +kernel
theorem dX9_move_7 : decode cX9_move 7 = .ok (.aload_n 0, 1) := by decide +kernel
theorem dX9_move_8 : decode cX9_move 8 = .ok (.iload_n 1, 1) := by decide +kernel
theorem dX9_move_9 : decode cX9_move 9 = .ok (.iload_n 2, 1) := by decide +kernel
theorem dX9_move_10 : decode cX9_move 10 = .ok (.invokevirtual 90, 3) := by decide +kernel
theorem dX9_move_13 : decode cX9_move 13 = .ok (.ifCond .eq 16, 3) := by decide +kernel
theorem dX9_move_16 : decode cX9_move 16 = .ok (.iload_n 2, 1) := by decide +kernel
theorem dX9_move_17 : decode cX9_move 17 = .ok (.ifCond .eq 12, 3) := by decide +kernel
theorem dX9_move_20 : decode cX9_move 20 = .ok (.aload_n 0, 1) := by decide +kernel
theorem dX9_move_21 : decode cX9_move 21 = .ok (.iload_n 1, 1) := by decide +kernel
theorem dX9_move_22 : decode cX9_move 22 = .ok (.iload_n 3, 1) := by decide +kernel
theorem dX9_move_23 : decode cX9_move 23 = .ok (.invokevirtual 90, 3) := by decide +kernel
theorem dX9_move_26 : decode cX9_move 26 = .ok (.ifCond .ne 6, 3) := by decide +kernel
theorem dX9_move_29 : decode cX9_move 29 = .ok (.bipush (-2), 2) := by decide +kernel
theorem dX9_move_31 : decode cX9_move 31 = .ok (.ireturn, 1) := by decide +kernel
theorem dX9_move_32 : decode cX9_move 32 = .ok (.aload_n 0, 1) := by decide +kernel
theorem dX9_move_33 : decode cX9_move 33 = .ok (.iload_n 1, 1) := by decide +kernel
theorem dX9_move_34 : decode cX9_move 34 = .ok (.iload_n 3, 1) := by decide +kernel
theorem dX9_move_35 : decode cX9_move 35 = .ok (.invokevirtual 93, 3) := by decide +kernel
theorem dX9_move_38 : decode cX9_move 38 = .ok (.aload_n 0, 1) := by decide +kernel
theorem dX9_move_39 : decode cX9_move 39 = .ok (.iload_n 1, 1) := by decide +kernel
theorem dX9_move_40 : decode cX9_move 40 = .ok (.iload_n 2, 1) := by decide +kernel
theorem dX9_move_41 : decode cX9_move 41 = .ok (.invokevirtual 76, 3) := by decide +kernel
theorem dX9_move_44 : decode cX9_move 44 = .ok (.iload_n 3, 1) := by decide +kernel
theorem dX9_move_45 : decode cX9_move 45 = .ok (.if_icmp .ne 7, 3) := by decide +kernel
theorem dX9_move_48 : decode cX9_move 48 = .ok (.iconst 1, 1) := by decide +kernel
theorem dX9_move_49 : decode cX9_move 49 = .ok (.goto 4, 3) := by decide +kernel
theorem dX9_move_52 : decode cX9_move 52 = .ok (.iconst 0, 1) := by decide +kernel
theorem dX9_move_53 : decode cX9_move 53 = .ok (.isub, 1) := by decide +kernel
theorem dX9_move_54 : decode cX9_move 54 = .ok (.istore 5, 2) := by decide +kernel
theorem dX9_move_56 : decode cX9_move 56 = .ok (.iload 4, 2) := by decide +kernel
theorem dX9_move_58 : decode cX9_move 58 = .ok (.iconst 0, 1) := by decide +kernel
theorem dX9_move_59 : decode cX9_move 59 = .ok (.iload 5, 2) := by decide +kernel
theorem dX9_move_61 : decode cX9_move 61 = .ok (.invokestatic 68, 3) := by decide +kernel
theorem dX9_move_64 : decode cX9_move 64 = .ok (.ifCond .ne 6, 3) := by decide +kernel
theorem dX9_move_67 : decode cX9_move 67 = .ok (.bipush (-2), 2) := by decide +kernel
theorem dX9_move_69 : decode cX9_move 69 = .ok (.ireturn, 1) := by decide +kernel
theorem dX9_move_70 : decode cX9_move 70 = .ok (.aload_n 0, 1) := by decide +kernel
theorem dX9_move_71 : decode cX9_move 71 = .ok (.iload_n 1, 1) := by decide +kernel
theorem dX9_move_72 : decode cX9_move 72 = .ok (.iload_n 2, 1) := by decide +kernel
theorem dX9_move_73 : decode cX9_move 73 = .ok (.invokevirtual 102, 3) := by decide +kernel
theorem dX9_move_76 : decode cX9_move 76 = .ok (.iload_n 3, 1) := by decide +kernel
theorem dX9_move_77 : decode cX9_move 77 = .ok (.ishr, 1) := by decide +kernel
theorem dX9_move_78 : decode cX9_move 78 = .ok (.iconst 1, 1) := by decide +kernel
theorem dX9_move_79 : decode cX9_move 79 = .ok (.iand, 1) := by decide +kernel
theorem dX9_move_80 : decode cX9_move 80 = .ok (.iconst 1, 1) := by decide +kernel
theorem dX9_move_81 : decode cX9_move 81 = .ok (.if_icmp .ne 6, 3) := by decide +kernel
theorem dX9_move_84 : decode cX9_move 84 = .ok (.bipush (-3), 2) := by decide +kernel
theorem dX9_move_86 : decode cX9_move 86 = .ok (.ireturn, 1) := by decide +kernel
theorem dX9_move_87 : decode cX9_move 87 = .ok (.aload_n 0, 1) := by decide +kernel
theorem dX9_move_88 : decode cX9_move 88 = .ok (.iload_n 1, 1) := by decide +kernel
theorem dX9_move_89 : decode cX9_move 89 = .ok (.iload_n 2, 1) := by decide +kernel
theorem dX9_move_90 : decode cX9_move 90 = .ok (.invokevirtual 80, 3) := by decide +kernel
theorem dX9_move_93 : decode cX9_move 93 = .ok (.istore 6, 2) := by decide +kernel
theorem dX9_move_95 : decode cX9_move 95 = .ok (.aload_n 0, 1) := by decide +kernel
theorem dX9_move_96 : decode cX9_move 96 = .ok (.iload_n 1, 1) := by decide +kernel
theorem dX9_move_97 : decode cX9_move 97 = .ok (.iload_n 2, 1) := by decide +kernel
theorem dX9_move_98 : decode cX9_move 98 = .ok (.invokevirtual 105, 3) := by decide +kernel
theorem dX9_move_101 : decode cX9_move 101 = .ok (.aload_n 0, 1) := by decide +kernel
theorem dX9_move_102 : decode cX9_move 102 = .ok (.iload_n 1, 1) := by decide +kernel
theorem dX9_move_103 : decode cX9_move 103 = .ok (.iload_n 2, 1) := by decide +kernel
theorem dX9_move_104 : decode cX9_move 104 = .ok (.iload_n 3, 1) := by decide +kernel
theorem dX9_move_105 : decode cX9_move 105 = .ok (.iload 4, 2) := by decide +kernel
theorem dX9_move_107 : decode cX9_move 107 = .ok (.invokevirtual 99, 3) := by decide +kernel
theorem dX9_move_110 : decode cX9_move 110 = .ok (.iload 6, 2) := by decide +kernel
theorem dX9_move_112 : decode cX9_move 112 = .ok (.ireturn, 1) := by decide +kernel
theorem dX9_put_0 : decode cX9_put 0 = .ok (.iload_n 1, 1) := by decide +kernel
theorem dX9_put_1 : decode cX9_put 1 = .ok (.invokestatic 87, 3) := by decide +kernel
theorem dX9_put_4 : decode cX9_put 4 = .ok (.ifCond .eq 20, 3) := by decide +kernel
theorem dX9_put_7 : decode cX9_put 7 = .ok (.aload_n 0, 1) := by decide +kernel
theorem dX9_put_8 : decode cX9_put 8 = .ok (.iload_n 1, 1) := by decide +kernel
theorem dX9_put_9 : decode cX9_put 9 = .ok (.iload_n 2, 1) := by decide +kernel
theorem dX9_put_10 : decode cX9_put 10 = .ok (.invokevirtual 90, 3) := by decide +kernel
theorem dX9_put_13 : decode cX9_put 13 = .ok (.ifCond .eq 11, 3) := by decide +kernel
theorem dX9_put_16 : decode cX9_put 16 = .ok (.iload 4, 2) := by decide +kernel
theorem dX9_put_18 : decode cX9_put 18 = .ok (.invokestatic 96, 3) := by decide +kernel
theorem dX9_put_21 : decode cX9_put 21 = .ok (.ifCond .ne 6, 3) := by decide +kernel
theorem dX9_put_24 : decode cX9_put 24 = .ok (.bipush (-2), 2) := by decide +kernel
theorem dX9_put_26 : decode cX9_put 26 = .ok (.ireturn, 1) := by decide +kernel
theorem dX9_put_27 : decode cX9_put 27 = .ok (.aload_n 0, 1) := by decide +kernel
theorem dX9_put_28 : decode cX9_put 28 = .ok (.getfield 7, 3) := by decide +kernel
theorem dX9_put_31 : decode cX9_put 31 = .ok (.bipush 64, 2) := by decide +kernel
theorem dX9_put_33 : decode cX9_put 33 = .ok (.iload_n 1, 1) := by decide +kernel
theorem dX9_put_34 : decode cX9_put 34 = .ok (.imul, 1) := by decide +kernel
theorem dX9_put_35 : decode cX9_put 35 = .ok (.iload_n 3, 1) := by decide +kernel
theorem dX9_put_36 : decode cX9_put 36 = .ok (.iadd, 1) := by decide +kernel
theorem dX9_put_37 : decode cX9_put 37 = .ok (.iload_n 2, 1) := by decide +kernel
theorem dX9_put_38 : decode cX9_put 38 = .ok (.iadd, 1) := by decide +kernel
theorem dX9_put_39 : decode cX9_put 39 = .ok (.iaload, 1) := by decide +kernel
theorem dX9_put_40 : decode cX9_put 40 = .ok (.istore 5, 2) := by decide +kernel
theorem dX9_put_42 : decode cX9_put 42 = .ok (.aload_n 0, 1) := by decide +kernel
theorem dX9_put_43 : decode cX9_put 43 = .ok (.getfield 7, 3) := by decide +kernel
theorem dX9_put_46 : decode cX9_put 46 = .ok (.bipush 64, 2) := by decide +kernel
theorem dX9_put_48 : decode cX9_put 48 = .ok (.iload_n 1, 1) := by decide +kernel
theorem dX9_put_49 : decode cX9_put 49 = .ok (.imul, 1) := by decide +kernel
theorem dX9_put_50 : decode cX9_put 50 = .ok (.iload_n 3, 1) := by decide +kernel
theorem dX9_put_51 : decode cX9_put 51 = .ok (.iadd, 1) := by decide +kernel
theorem dX9_put_52 : decode cX9_put 52 = .ok (.iload_n 2, 1) := by decide +kernel
theorem dX9_put_53 : decode cX9_put 53 = .ok (.iadd, 1) := by decide +kernel
theorem dX9_put_54 : decode cX9_put 54 = .ok (.iload 4, 2) := by decide +kernel
theorem dX9_put_56 : decode cX9_put 56 = .ok (.iastore, 1) := by decide +kernel
theorem dX9_put_57 : decode cX9_put 57 = .ok (.iload 5, 2) := by decide +kernel
theorem dX9_put_59 : decode cX9_put 59 = .ok (.ireturn, 1) := by decide +kernel
theorem dX9_delete_0 : decode cX9_delete 0 = .ok (.iload_n 1, 1) := by decide +kernel
theorem dX9_delete_1 : decode cX9_delete 1 = .ok (.invokestatic 87, 3) := by decide +kernel
theorem dX9_delete_4 : decode cX9_delete 4 = .ok (.ifCond .eq 16, 3) := by decide +kernel
theorem dX9_delete_7 : decode cX9_delete 7 = .ok (.aload_n 0, 1) := by decide +kernel
theorem dX9_delete_8 : decode cX9_delete 8 = .ok (.iload_n 1, 1) := by decide +kernel
theorem dX9_delete_9 : decode cX9_delete 9 = .ok (.iload_n 2, 1) := by decide +kernel
theorem dX9_delete_10 : decode cX9_delete 10 = .ok (.invokevirtual 90, 3) := by decide +kernel
theorem dX9_delete_13 : decode cX9_delete 13 = .ok (.ifCond .eq 7, 3) := by decide +kernel
theorem dX9_delete_16 : decode cX9_delete 16 = .ok (.iload_n 2, 1) := by decide +kernel
theorem dX9_delete_17 : decode cX9_delete 17 = .ok (.ifCond .ne 6, 3) := by decide +kernel
theorem dX9_delete_20 : decode cX9_delete 20 = .ok (.bipush (-2), 2) := by decide +kernel
theorem dX9_delete_22 : decode cX9_delete 22 = .ok (.ireturn, 1) := by decide +kernel
theorem dX9_delete_23 : decode cX9_delete 23 = .ok (.aload_n 0, 1) := by decide +kernel
theorem dX9_delete_24 : decode cX9_delete 24 = .ok (.iload_n 1, 1) := by decide +kernel
theorem dX9_delete_25 : decode cX9_delete 25 = .ok (.iload_n 2, 1) := by decide +kernel
theorem dX9_delete_26 : decode cX9_delete 26 = .ok (.invokevirtual 102, 3) := by decide +kernel
theorem dX9_delete_29 : decode cX9_delete 29 = .ok (.istore_n 3, 1) := by decide +kernel
theorem dX9_delete_30 : decode cX9_delete 30 = .ok (.aload_n 0, 1) := by decide +kernel
theorem dX9_delete_31 : decode cX9_delete 31 = .ok (.iload_n 1, 1) := by decide +kernel
theorem dX9_delete_32 : decode cX9_delete 32 = .ok (.iload_n 2, 1) := by decide +kernel
theorem dX9_delete_33 : decode cX9_delete 33 = .ok (.invokevirtual 105, 3) := by decide +kernel
theorem dX9_delete_36 : decode cX9_delete 36 = .ok (.iconst 1, 1) := by decide +kernel
theorem dX9_delete_37 : decode cX9_delete 37 = .ok (.istore 4, 2) := by decide +kernel
theorem dX9_delete_39 : decode cX9_delete 39 = .ok (.iload 4, 2) := by decide +kernel
theorem dX9_delete_41 : decode cX9_delete 41 = .ok (.bipush 16, 2) := by decide +kernel
theorem dX9_delete_43 : decode cX9_delete 43 = .ok (.if_icmp .ge 43, 3) := by decide +kernel
theorem dX9_delete_46 : decode cX9_delete 46 = .ok (.aload_n 0, 1) := by decide +kernel
theorem dX9_delete_47 : decode cX9_delete 47 = .ok (.getfield 7, 3) := by decide +kernel
theorem dX9_delete_50 : decode cX9_delete 50 = .ok (.bipush 64, 2) := by decide +kernel
theorem dX9_delete_52 : decode cX9_delete 52 = .ok (.iload_n 1, 1) := by decide +kernel
theorem dX9_delete_53 : decode cX9_delete 53 = .ok (.imul, 1) := by decide +kernel
theorem dX9_delete_54 : decode cX9_delete 54 = .ok (.iload 4, 2) := by decide +kernel
theorem dX9_delete_56 : decode cX9_delete 56 = .ok (.iadd, 1) := by decide +kernel
theorem dX9_delete_57 : decode cX9_delete 57 = .ok (.iload_n 3, 1) := by decide +kernel
theorem dX9_delete_58 : decode cX9_delete 58 = .ok (.iload 4, 2) := by decide +kernel
theorem dX9_delete_60 : decode cX9_delete 60 = .ok (.ishr, 1) := by decide +kernel
theorem dX9_delete_61 : decode cX9_delete 61 = .ok (.iconst 1, 1) := by decide +kernel
theorem dX9_delete_62 : decode cX9_delete 62 = .ok (.iand, 1) := by decide +kernel
theorem dX9_delete_63 : decode cX9_delete 63 = .ok (.iconst 1, 1) := by decide +kernel
theorem dX9_delete_64 : decode cX9_delete 64 = .ok (.if_icmp .ne 8, 3) := by decide +kernel
theorem dX9_delete_67 : decode cX9_delete 67 = .ok (.bipush (-9), 2) := by decide +kernel
theorem dX9_delete_69 : decode cX9_delete 69 = .ok (.goto 10, 3) := by decide +kernel
theorem dX9_delete_72 : decode cX9_delete 72 = .ok (.aload_n 0, 1) := by decide +kernel
theorem dX9_delete_73 : decode cX9_delete 73 = .ok (.iload_n 1, 1) := by decide +kernel
theorem dX9_delete_74 : decode cX9_delete 74 = .ok (.iload 4, 2) := by decide +kernel
theorem dX9_delete_76 : decode cX9_delete 76 = .ok (.invokevirtual 76, 3) := by decide +kernel
theorem dX9_delete_79 : decode cX9_delete 79 = .ok (.iastore, 1) := by decide +kernel
theorem dX9_delete_80 : decode cX9_delete 80 = .ok (.iinc 4 1, 3) := by decide +kernel
theorem dX9_delete_83 : decode cX9_delete 83 = .ok (.goto (-44), 3) := by decide +kernel
theorem dX9_delete_86 : decode cX9_delete 86 = .ok (.iload_n 3, 1) := by decide +kernel
theorem dX9_delete_87 : decode cX9_delete 87 = .ok (.invokestatic 109, 3) := by decide +kernel
theorem dX9_delete_90 : decode cX9_delete 90 = .ok (.ireturn, 1) := by decide +kernel
theorem dX9_fork_0 : decode cX9_fork 0 = .ok (.aload_n 0, 1) := by decide +kernel
theorem dX9_fork_1 : decode cX9_fork 1 = .ok (.getfield 7, 3) := by decide +kernel
theorem dX9_fork_4 : decode cX9_fork 4 = .ok (.iconst 0, 1) := by decide +kernel
theorem dX9_fork_5 : decode cX9_fork 5 = .ok (.aload_n 0, 1) := by decide +kernel
theorem dX9_fork_6 : decode cX9_fork 6 = .ok (.getfield 7, 3) := by decide +kernel
theorem dX9_fork_9 : decode cX9_fork 9 = .ok (.bipush 64, 2) := by decide +kernel
theorem dX9_fork_11 : decode cX9_fork 11 = .ok (.bipush 64, 2) := by decide +kernel
theorem dX9_fork_13 : decode cX9_fork 13 = .ok (.invokestatic 52, 3) := by decide +kernel
theorem dX9_fork_16 : decode cX9_fork 16 = .ok (.aload_n 0, 1) := by decide +kernel
theorem dX9_fork_17 : decode cX9_fork 17 = .ok (.getfield 7, 3) := by decide +kernel
theorem dX9_fork_20 : decode cX9_fork 20 = .ok (.iconst 0, 1) := by decide +kernel
theorem dX9_fork_21 : decode cX9_fork 21 = .ok (.aload_n 0, 1) := by decide +kernel
theorem dX9_fork_22 : decode cX9_fork 22 = .ok (.getfield 7, 3) := by decide +kernel
theorem dX9_fork_25 : decode cX9_fork 25 = .ok (.sipush 128, 3) := by decide +kernel
theorem dX9_fork_28 : decode cX9_fork 28 = .ok (.bipush 64, 2) := by decide +kernel
theorem dX9_fork_30 : decode cX9_fork 30 = .ok (.invokestatic 52, 3) := by decide +kernel
theorem dX9_fork_33 : decode cX9_fork 33 = .ok (.aload_n 0, 1) := by decide +kernel
theorem dX9_fork_34 : decode cX9_fork 34 = .ok (.iconst 0, 1) := by decide +kernel
theorem dX9_fork_35 : decode cX9_fork 35 = .ok (.invokevirtual 112, 3) := by decide +kernel
theorem dX9_fork_38 : decode cX9_fork 38 = .ok (.ireturn, 1) := by decide +kernel
theorem dX9_prefer_0 : decode cX9_prefer 0 = .ok (.iload_n 1, 1) := by decide +kernel
theorem dX9_prefer_1 : decode cX9_prefer 1 = .ok (.iconst 1, 1) := by decide +kernel
theorem dX9_prefer_2 : decode cX9_prefer 2 = .ok (.iconst 2, 1) := by decide +kernel
theorem dX9_prefer_3 : decode cX9_prefer 3 = .ok (.invokestatic 68, 3) := by decide +kernel
theorem dX9_prefer_6 : decode cX9_prefer 6 = .ok (.ifCond .ne 6, 3) := by decide +kernel
theorem dX9_prefer_9 : decode cX9_prefer 9 = .ok (.bipush (-2), 2) := by decide +kernel
theorem dX9_prefer_11 : decode cX9_prefer 11 = .ok (.ireturn, 1) := by decide +kernel
theorem dX9_prefer_12 : decode cX9_prefer 12 = .ok (.aload_n 0, 1) := by decide +kernel
theorem dX9_prefer_13 : decode cX9_prefer 13 = .ok (.getfield 7, 3) := by decide +kernel
theorem dX9_prefer_16 : decode cX9_prefer 16 = .ok (.sipush 256, 3) := by decide +kernel
theorem dX9_prefer_19 : decode cX9_prefer 19 = .ok (.iaload, 1) := by decide +kernel
theorem dX9_prefer_20 : decode cX9_prefer 20 = .ok (.istore_n 2, 1) := by decide +kernel
theorem dX9_prefer_21 : decode cX9_prefer 21 = .ok (.aload_n 0, 1) := by decide +kernel
theorem dX9_prefer_22 : decode cX9_prefer 22 = .ok (.getfield 7, 3) := by decide +kernel
theorem dX9_prefer_25 : decode cX9_prefer 25 = .ok (.sipush 256, 3) := by decide +kernel
theorem dX9_prefer_28 : decode cX9_prefer 28 = .ok (.iload_n 1, 1) := by decide +kernel
theorem dX9_prefer_29 : decode cX9_prefer 29 = .ok (.iastore, 1) := by decide +kernel
theorem dX9_prefer_30 : decode cX9_prefer 30 = .ok (.iload_n 2, 1) := by decide +kernel
theorem dX9_prefer_31 : decode cX9_prefer 31 = .ok (.ireturn, 1) := by decide +kernel
theorem dX9_adds_0 : decode cX9_adds 0 = .ok (.aload_n 0, 1) := by decide +kernel
theorem dX9_adds_1 : decode cX9_adds 1 = .ok (.invokevirtual 115, 3) := by decide +kernel
theorem dX9_adds_4 : decode cX9_adds 4 = .ok (.aload_n 0, 1) := by decide +kernel
theorem dX9_adds_5 : decode cX9_adds 5 = .ok (.aload_n 0, 1) := by decide +kernel
theorem dX9_adds_6 : decode cX9_adds 6 = .ok (.iload_n 1, 1) := by decide +kernel
theorem dX9_adds_7 : decode cX9_adds 7 = .ok (.iload_n 2, 1) := by decide +kernel
theorem dX9_adds_8 : decode cX9_adds 8 = .ok (.iload_n 3, 1) := by decide +kernel
theorem dX9_adds_9 : decode cX9_adds 9 = .ok (.iload 4, 2) := by decide +kernel
theorem dX9_adds_11 : decode cX9_adds 11 = .ok (.iload 5, 2) := by decide +kernel
theorem dX9_adds_13 : decode cX9_adds 13 = .ok (.invokevirtual 118, 3) := by decide +kernel
theorem dX9_adds_16 : decode cX9_adds 16 = .ok (.invokevirtual 122, 3) := by decide +kernel
theorem dX9_adds_19 : decode cX9_adds 19 = .ok (.ireturn, 1) := by decide +kernel
theorem dX9_moves_0 : decode cX9_moves 0 = .ok (.aload_n 0, 1) := by decide +kernel
theorem dX9_moves_1 : decode cX9_moves 1 = .ok (.invokevirtual 115, 3) := by decide +kernel
theorem dX9_moves_4 : decode cX9_moves 4 = .ok (.aload_n 0, 1) := by decide +kernel
theorem dX9_moves_5 : decode cX9_moves 5 = .ok (.aload_n 0, 1) := by decide +kernel
theorem dX9_moves_6 : decode cX9_moves 6 = .ok (.iload_n 1, 1) := by decide +kernel
theorem dX9_moves_7 : decode cX9_moves 7 = .ok (.iload_n 2, 1) := by decide +kernel
theorem dX9_moves_8 : decode cX9_moves 8 = .ok (.iload_n 3, 1) := by decide +kernel
theorem dX9_moves_9 : decode cX9_moves 9 = .ok (.iload 4, 2) := by decide +kernel
theorem dX9_moves_11 : decode cX9_moves 11 = .ok (.invokevirtual 125, 3) := by decide +kernel
theorem dX9_moves_14 : decode cX9_moves 14 = .ok (.invokevirtual 122, 3) := by decide +kernel
theorem dX9_moves_17 : decode cX9_moves 17 = .ok (.ireturn, 1) := by decide +kernel
theorem dX9_renames_0 : decode cX9_renames 0 = .ok (.aload_n 0, 1) := by decide +kernel
theorem dX9_renames_1 : decode cX9_renames 1 = .ok (.invokevirtual 115, 3) := by decide +kernel
theorem dX9_renames_4 : decode cX9_renames 4 = .ok (.aload_n 0, 1) := by decide +kernel
theorem dX9_renames_5 : decode cX9_renames 5 = .ok (.aload_n 0, 1) := by decide +kernel
theorem dX9_renames_6 : decode cX9_renames 6 = .ok (.iload_n 1, 1) := by decide +kernel
theorem dX9_renames_7 : decode cX9_renames 7 = .ok (.iload_n 2, 1) := by decide +kernel
theorem dX9_renames_8 : decode cX9_renames 8 = .ok (.bipush 32, 2) := by decide +kernel
theorem dX9_renames_10 : decode cX9_renames 10 = .ok (.iload_n 3, 1) := by decide +kernel
theorem dX9_renames_11 : decode cX9_renames 11 = .ok (.invokevirtual 129, 3) := by decide +kernel
theorem dX9_renames_14 : decode cX9_renames 14 = .ok (.invokevirtual 122, 3) := by decide +kernel
theorem dX9_renames_17 : decode cX9_renames 17 = .ok (.ireturn, 1) := by decide +kernel
theorem dX9_edits_0 : decode cX9_edits 0 = .ok (.aload_n 0, 1) := by decide +kernel
theorem dX9_edits_1 : decode cX9_edits 1 = .ok (.invokevirtual 115, 3) := by decide +kernel
theorem dX9_edits_4 : decode cX9_edits 4 = .ok (.aload_n 0, 1) := by decide +kernel
theorem dX9_edits_5 : decode cX9_edits 5 = .ok (.aload_n 0, 1) := by decide +kernel
theorem dX9_edits_6 : decode cX9_edits 6 = .ok (.iload_n 1, 1) := by decide +kernel
theorem dX9_edits_7 : decode cX9_edits 7 = .ok (.iload_n 2, 1) := by decide +kernel
theorem dX9_edits_8 : decode cX9_edits 8 = .ok (.bipush 48, 2) := by decide +kernel
theorem dX9_edits_10 : decode cX9_edits 10 = .ok (.iload_n 3, 1) := by decide +kernel
theorem dX9_edits_11 : decode cX9_edits 11 = .ok (.invokevirtual 129, 3) := by decide +kernel
theorem dX9_edits_14 : decode cX9_edits 14 = .ok (.invokevirtual 122, 3) := by decide +kernel
theorem dX9_edits_17 : decode cX9_edits 17 = .ok (.ireturn, 1) := by decide +kernel
theorem dX9_deletes_0 : decode cX9_deletes 0 = .ok (.aload_n 0, 1) := by decide +kernel
theorem dX9_deletes_1 : decode cX9_deletes 1 = .ok (.invokevirtual 115, 3) := by decide +kernel
theorem dX9_deletes_4 : decode cX9_deletes 4 = .ok (.aload_n 0, 1) := by decide +kernel
theorem dX9_deletes_5 : decode cX9_deletes 5 = .ok (.aload_n 0, 1) := by decide +kernel
theorem dX9_deletes_6 : decode cX9_deletes 6 = .ok (.iload_n 1, 1) := by decide +kernel
theorem dX9_deletes_7 : decode cX9_deletes 7 = .ok (.iload_n 2, 1) := by decide +kernel
theorem dX9_deletes_8 : decode cX9_deletes 8 = .ok (.invokevirtual 132, 3) := by decide +kernel
theorem dX9_deletes_11 : decode cX9_deletes 11 = .ok (.invokevirtual 122, 3) := by decide +kernel
theorem dX9_deletes_14 : decode cX9_deletes 14 = .ok (.ireturn, 1) := by decide +kernel
theorem dX9_forks_0 : decode cX9_forks 0 = .ok (.aload_n 0, 1) := by decide +kernel
theorem dX9_forks_1 : decode cX9_forks 1 = .ok (.invokevirtual 115, 3) := by decide +kernel
theorem dX9_forks_4 : decode cX9_forks 4 = .ok (.aload_n 0, 1) := by decide +kernel
theorem dX9_forks_5 : decode cX9_forks 5 = .ok (.aload_n 0, 1) := by decide +kernel
theorem dX9_forks_6 : decode cX9_forks 6 = .ok (.invokevirtual 135, 3) := by decide +kernel
theorem dX9_forks_9 : decode cX9_forks 9 = .ok (.invokevirtual 122, 3) := by decide +kernel
theorem dX9_forks_12 : decode cX9_forks 12 = .ok (.ireturn, 1) := by decide +kernel
theorem dX9_prefers_0 : decode cX9_prefers 0 = .ok (.aload_n 0, 1) := by decide +kernel
theorem dX9_prefers_1 : decode cX9_prefers 1 = .ok (.invokevirtual 115, 3) := by decide +kernel
theorem dX9_prefers_4 : decode cX9_prefers 4 = .ok (.aload_n 0, 1) := by decide +kernel
theorem dX9_prefers_5 : decode cX9_prefers 5 = .ok (.aload_n 0, 1) := by decide +kernel
theorem dX9_prefers_6 : decode cX9_prefers 6 = .ok (.iload_n 1, 1) := by decide +kernel
theorem dX9_prefers_7 : decode cX9_prefers 7 = .ok (.invokevirtual 139, 3) := by decide +kernel
theorem dX9_prefers_10 : decode cX9_prefers 10 = .ok (.invokevirtual 122, 3) := by decide +kernel
theorem dX9_prefers_13 : decode cX9_prefers 13 = .ok (.ireturn, 1) := by decide +kernel
theorem dX9_adopts_0 : decode cX9_adopts 0 = .ok (.aload_n 0, 1) := by decide +kernel
theorem dX9_adopts_1 : decode cX9_adopts 1 = .ok (.invokevirtual 115, 3) := by decide +kernel
theorem dX9_adopts_4 : decode cX9_adopts 4 = .ok (.aload_n 0, 1) := by decide +kernel
theorem dX9_adopts_5 : decode cX9_adopts 5 = .ok (.invokevirtual 142, 3) := by decide +kernel
theorem dX9_adopts_8 : decode cX9_adopts 8 = .ok (.aload_n 0, 1) := by decide +kernel
theorem dX9_adopts_9 : decode cX9_adopts 9 = .ok (.getfield 7, 3) := by decide +kernel
theorem dX9_adopts_12 : decode cX9_adopts 12 = .ok (.sipush 192, 3) := by decide +kernel
theorem dX9_adopts_15 : decode cX9_adopts 15 = .ok (.aload_n 0, 1) := by decide +kernel
theorem dX9_adopts_16 : decode cX9_adopts 16 = .ok (.getfield 7, 3) := by decide +kernel
theorem dX9_adopts_19 : decode cX9_adopts 19 = .ok (.iconst 0, 1) := by decide +kernel
theorem dX9_adopts_20 : decode cX9_adopts 20 = .ok (.bipush 64, 2) := by decide +kernel
theorem dX9_adopts_22 : decode cX9_adopts 22 = .ok (.invokestatic 52, 3) := by decide +kernel
theorem dX9_adopts_25 : decode cX9_adopts 25 = .ok (.aload_n 0, 1) := by decide +kernel
theorem dX9_adopts_26 : decode cX9_adopts 26 = .ok (.aload_n 0, 1) := by decide +kernel
theorem dX9_adopts_27 : decode cX9_adopts 27 = .ok (.invokevirtual 135, 3) := by decide +kernel
theorem dX9_adopts_30 : decode cX9_adopts 30 = .ok (.invokevirtual 122, 3) := by decide +kernel
theorem dX9_adopts_33 : decode cX9_adopts 33 = .ok (.ireturn, 1) := by decide +kernel
theorem dX9_conflict_0 : decode cX9_conflict 0 = .ok (.aload_n 0, 1) := by decide +kernel
theorem dX9_conflict_1 : decode cX9_conflict 1 = .ok (.getfield 37, 3) := by decide +kernel
theorem dX9_conflict_4 : decode cX9_conflict 4 = .ok (.iconst 3, 1) := by decide +kernel
theorem dX9_conflict_5 : decode cX9_conflict 5 = .ok (.aload_n 0, 1) := by decide +kernel
theorem dX9_conflict_6 : decode cX9_conflict 6 = .ok (.getfield 145, 3) := by decide +kernel
theorem dX9_conflict_9 : decode cX9_conflict 9 = .ok (.imul, 1) := by decide +kernel
theorem dX9_conflict_10 : decode cX9_conflict 10 = .ok (.iload_n 1, 1) := by decide +kernel
theorem dX9_conflict_11 : decode cX9_conflict 11 = .ok (.iastore, 1) := by decide +kernel
theorem dX9_conflict_12 : decode cX9_conflict 12 = .ok (.aload_n 0, 1) := by decide +kernel
theorem dX9_conflict_13 : decode cX9_conflict 13 = .ok (.getfield 37, 3) := by decide +kernel
theorem dX9_conflict_16 : decode cX9_conflict 16 = .ok (.iconst 3, 1) := by decide +kernel
theorem dX9_conflict_17 : decode cX9_conflict 17 = .ok (.aload_n 0, 1) := by decide +kernel
theorem dX9_conflict_18 : decode cX9_conflict 18 = .ok (.getfield 145, 3) := by decide +kernel
theorem dX9_conflict_21 : decode cX9_conflict 21 = .ok (.imul, 1) := by decide +kernel
theorem dX9_conflict_22 : decode cX9_conflict 22 = .ok (.iconst 1, 1) := by decide +kernel
theorem dX9_conflict_23 : decode cX9_conflict 23 = .ok (.iadd, 1) := by decide +kernel
theorem dX9_conflict_24 : decode cX9_conflict 24 = .ok (.iload_n 2, 1) := by decide +kernel
theorem dX9_conflict_25 : decode cX9_conflict 25 = .ok (.iastore, 1) := by decide +kernel
theorem dX9_conflict_26 : decode cX9_conflict 26 = .ok (.aload_n 0, 1) := by decide +kernel
theorem dX9_conflict_27 : decode cX9_conflict 27 = .ok (.getfield 37, 3) := by decide +kernel
theorem dX9_conflict_30 : decode cX9_conflict 30 = .ok (.iconst 3, 1) := by decide +kernel
theorem dX9_conflict_31 : decode cX9_conflict 31 = .ok (.aload_n 0, 1) := by decide +kernel
theorem dX9_conflict_32 : decode cX9_conflict 32 = .ok (.getfield 145, 3) := by decide +kernel
theorem dX9_conflict_35 : decode cX9_conflict 35 = .ok (.imul, 1) := by decide +kernel
theorem dX9_conflict_36 : decode cX9_conflict 36 = .ok (.iconst 2, 1) := by decide +kernel
theorem dX9_conflict_37 : decode cX9_conflict 37 = .ok (.iadd, 1) := by decide +kernel
theorem dX9_conflict_38 : decode cX9_conflict 38 = .ok (.iload_n 3, 1) := by decide +kernel
theorem dX9_conflict_39 : decode cX9_conflict 39 = .ok (.iastore, 1) := by decide +kernel
theorem dX9_conflict_40 : decode cX9_conflict 40 = .ok (.aload_n 0, 1) := by decide +kernel
theorem dX9_conflict_41 : decode cX9_conflict 41 = .ok (.dup, 1) := by decide +kernel
theorem dX9_conflict_42 : decode cX9_conflict 42 = .ok (.getfield 145, 3) := by decide +kernel
theorem dX9_conflict_45 : decode cX9_conflict 45 = .ok (.iconst 1, 1) := by decide +kernel
theorem dX9_conflict_46 : decode cX9_conflict 46 = .ok (.iadd, 1) := by decide +kernel
theorem dX9_conflict_47 : decode cX9_conflict 47 = .ok (.putfield 145, 3) := by decide +kernel
theorem dX9_conflict_50 : decode cX9_conflict 50 = .ok (.return_, 1) := by decide +kernel
theorem dX9_isChanged_0 : decode cX9_isChanged 0 = .ok (.aload_n 0, 1) := by decide +kernel
theorem dX9_isChanged_1 : decode cX9_isChanged 1 = .ok (.iload_n 1, 1) := by decide +kernel
theorem dX9_isChanged_2 : decode cX9_isChanged 2 = .ok (.iload_n 2, 1) := by decide +kernel
theorem dX9_isChanged_3 : decode cX9_isChanged 3 = .ok (.invokevirtual 76, 3) := by decide +kernel
theorem dX9_isChanged_6 : decode cX9_isChanged 6 = .ok (.aload_n 0, 1) := by decide +kernel
theorem dX9_isChanged_7 : decode cX9_isChanged 7 = .ok (.iconst 0, 1) := by decide +kernel
theorem dX9_isChanged_8 : decode cX9_isChanged 8 = .ok (.iload_n 2, 1) := by decide +kernel
theorem dX9_isChanged_9 : decode cX9_isChanged 9 = .ok (.invokevirtual 76, 3) := by decide +kernel
theorem dX9_isChanged_12 : decode cX9_isChanged 12 = .ok (.if_icmp .ne 33, 3) := by decide +kernel
theorem dX9_isChanged_15 : decode cX9_isChanged 15 = .ok (.aload_n 0, 1) := by decide +kernel
theorem dX9_isChanged_16 : decode cX9_isChanged 16 = .ok (.iload_n 1, 1) := by decide +kernel
theorem dX9_isChanged_17 : decode cX9_isChanged 17 = .ok (.iload_n 2, 1) := by decide +kernel
theorem dX9_isChanged_18 : decode cX9_isChanged 18 = .ok (.invokevirtual 148, 3) := by decide +kernel
theorem dX9_isChanged_21 : decode cX9_isChanged 21 = .ok (.aload_n 0, 1) := by decide +kernel
theorem dX9_isChanged_22 : decode cX9_isChanged 22 = .ok (.iconst 0, 1) := by decide +kernel
theorem dX9_isChanged_23 : decode cX9_isChanged 23 = .ok (.iload_n 2, 1) := by decide +kernel
theorem dX9_isChanged_24 : decode cX9_isChanged 24 = .ok (.invokevirtual 148, 3) := by decide +kernel
theorem dX9_isChanged_27 : decode cX9_isChanged 27 = .ok (.if_icmp .ne 18, 3) := by decide +kernel
theorem dX9_isChanged_30 : decode cX9_isChanged 30 = .ok (.aload_n 0, 1) := by decide +kernel
theorem dX9_isChanged_31 : decode cX9_isChanged 31 = .ok (.iload_n 1, 1) := by decide +kernel
theorem dX9_isChanged_32 : decode cX9_isChanged 32 = .ok (.iload_n 2, 1) := by decide +kernel
theorem dX9_isChanged_33 : decode cX9_isChanged 33 = .ok (.invokevirtual 151, 3) := by decide +kernel
theorem dX9_isChanged_36 : decode cX9_isChanged 36 = .ok (.aload_n 0, 1) := by decide +kernel
theorem dX9_isChanged_37 : decode cX9_isChanged 37 = .ok (.iconst 0, 1) := by decide +kernel
theorem dX9_isChanged_38 : decode cX9_isChanged 38 = .ok (.iload_n 2, 1) := by decide +kernel
theorem dX9_isChanged_39 : decode cX9_isChanged 39 = .ok (.invokevirtual 151, 3) := by decide +kernel
theorem dX9_isChanged_42 : decode cX9_isChanged 42 = .ok (.if_icmp .eq 7, 3) := by decide +kernel
theorem dX9_isChanged_45 : decode cX9_isChanged 45 = .ok (.iconst 1, 1) := by decide +kernel
theorem dX9_isChanged_46 : decode cX9_isChanged 46 = .ok (.goto 4, 3) := by decide +kernel
theorem dX9_isChanged_49 : decode cX9_isChanged 49 = .ok (.iconst 0, 1) := by decide +kernel
theorem dX9_isChanged_50 : decode cX9_isChanged 50 = .ok (.istore_n 3, 1) := by decide +kernel
theorem dX9_isChanged_51 : decode cX9_isChanged 51 = .ok (.iconst 1, 1) := by decide +kernel
theorem dX9_isChanged_52 : decode cX9_isChanged 52 = .ok (.istore 4, 2) := by decide +kernel
theorem dX9_isChanged_54 : decode cX9_isChanged 54 = .ok (.iload 4, 2) := by decide +kernel
theorem dX9_isChanged_56 : decode cX9_isChanged 56 = .ok (.bipush 16, 2) := by decide +kernel
theorem dX9_isChanged_58 : decode cX9_isChanged 58 = .ok (.if_icmp .ge 41, 3) := by decide +kernel
theorem dX9_isChanged_61 : decode cX9_isChanged 61 = .ok (.iload_n 3, 1) := by decide +kernel
theorem dX9_isChanged_62 : decode cX9_isChanged 62 = .ok (.ifCond .ne 25, 3) := by decide +kernel
theorem dX9_isChanged_65 : decode cX9_isChanged 65 = .ok (.aload_n 0, 1) := by decide +kernel
theorem dX9_isChanged_66 : decode cX9_isChanged 66 = .ok (.iload_n 1, 1) := by decide +kernel
theorem dX9_isChanged_67 : decode cX9_isChanged 67 = .ok (.iload 4, 2) := by decide +kernel
theorem dX9_isChanged_69 : decode cX9_isChanged 69 = .ok (.invokevirtual 76, 3) := by decide +kernel
theorem dX9_isChanged_72 : decode cX9_isChanged 72 = .ok (.iload_n 2, 1) := by decide +kernel
theorem dX9_isChanged_73 : decode cX9_isChanged 73 = .ok (.if_icmp .ne 18, 3) := by decide +kernel
theorem dX9_isChanged_76 : decode cX9_isChanged 76 = .ok (.aload_n 0, 1) := by decide +kernel
theorem dX9_isChanged_77 : decode cX9_isChanged 77 = .ok (.iconst 0, 1) := by decide +kernel
theorem dX9_isChanged_78 : decode cX9_isChanged 78 = .ok (.iload 4, 2) := by decide +kernel
theorem dX9_isChanged_80 : decode cX9_isChanged 80 = .ok (.invokevirtual 76, 3) := by decide +kernel
theorem dX9_isChanged_83 : decode cX9_isChanged 83 = .ok (.iload_n 2, 1) := by decide +kernel
theorem dX9_isChanged_84 : decode cX9_isChanged 84 = .ok (.if_icmp .eq 7, 3) := by decide +kernel
theorem dX9_isChanged_87 : decode cX9_isChanged 87 = .ok (.iconst 1, 1) := by decide +kernel
theorem dX9_isChanged_88 : decode cX9_isChanged 88 = .ok (.goto 4, 3) := by decide +kernel
theorem dX9_isChanged_91 : decode cX9_isChanged 91 = .ok (.iconst 0, 1) := by decide +kernel
theorem dX9_isChanged_92 : decode cX9_isChanged 92 = .ok (.istore_n 3, 1) := by decide +kernel
theorem dX9_isChanged_93 : decode cX9_isChanged 93 = .ok (.iinc 4 1, 3) := by decide +kernel
theorem dX9_isChanged_96 : decode cX9_isChanged 96 = .ok (.goto (-42), 3) := by decide +kernel
theorem dX9_isChanged_99 : decode cX9_isChanged 99 = .ok (.iload_n 3, 1) := by decide +kernel
theorem dX9_isChanged_100 : decode cX9_isChanged 100 = .ok (.ireturn, 1) := by decide +kernel
theorem dX9_mergeIn_0 : decode cX9_mergeIn 0 = .ok (.aload_n 0, 1) := by decide +kernel
theorem dX9_mergeIn_1 : decode cX9_mergeIn 1 = .ok (.iconst 1, 1) := by decide +kernel
theorem dX9_mergeIn_2 : decode cX9_mergeIn 2 = .ok (.iload_n 1, 1) := by decide +kernel
theorem dX9_mergeIn_3 : decode cX9_mergeIn 3 = .ok (.invokevirtual 72, 3) := by decide +kernel
theorem dX9_mergeIn_6 : decode cX9_mergeIn 6 = .ok (.istore_n 2, 1) := by decide +kernel
theorem dX9_mergeIn_7 : decode cX9_mergeIn 7 = .ok (.aload_n 0, 1) := by decide +kernel
theorem dX9_mergeIn_8 : decode cX9_mergeIn 8 = .ok (.iconst 2, 1) := by decide +kernel
theorem dX9_mergeIn_9 : decode cX9_mergeIn 9 = .ok (.iload_n 1, 1) := by decide +kernel
theorem dX9_mergeIn_10 : decode cX9_mergeIn 10 = .ok (.invokevirtual 72, 3) := by decide +kernel
theorem dX9_mergeIn_13 : decode cX9_mergeIn 13 = .ok (.istore_n 3, 1) := by decide +kernel
theorem dX9_mergeIn_14 : decode cX9_mergeIn 14 = .ok (.iload_n 2, 1) := by decide +kernel
theorem dX9_mergeIn_15 : decode cX9_mergeIn 15 = .ok (.ifCond .eq 11, 3) := by decide +kernel
theorem dX9_mergeIn_18 : decode cX9_mergeIn 18 = .ok (.iload_n 3, 1) := by decide +kernel
theorem dX9_mergeIn_19 : decode cX9_mergeIn 19 = .ok (.ifCond .eq 7, 3) := by decide +kernel
theorem dX9_mergeIn_22 : decode cX9_mergeIn 22 = .ok (.iconst 1, 1) := by decide +kernel
theorem dX9_mergeIn_23 : decode cX9_mergeIn 23 = .ok (.goto 4, 3) := by decide +kernel
theorem dX9_mergeIn_26 : decode cX9_mergeIn 26 = .ok (.iconst 0, 1) := by decide +kernel
theorem dX9_mergeIn_27 : decode cX9_mergeIn 27 = .ok (.istore 4, 2) := by decide +kernel
theorem dX9_mergeIn_29 : decode cX9_mergeIn 29 = .ok (.iload_n 2, 1) := by decide +kernel
theorem dX9_mergeIn_30 : decode cX9_mergeIn 30 = .ok (.iload_n 3, 1) := by decide +kernel
theorem dX9_mergeIn_31 : decode cX9_mergeIn 31 = .ok (.if_icmp .eq 61, 3) := by decide +kernel
theorem dX9_mergeIn_34 : decode cX9_mergeIn 34 = .ok (.iload_n 2, 1) := by decide +kernel
theorem dX9_mergeIn_35 : decode cX9_mergeIn 35 = .ok (.ifCond .eq 7, 3) := by decide +kernel
theorem dX9_mergeIn_38 : decode cX9_mergeIn 38 = .ok (.iconst 1, 1) := by decide +kernel
theorem dX9_mergeIn_39 : decode cX9_mergeIn 39 = .ok (.goto 4, 3) := by decide +kernel
theorem dX9_mergeIn_42 : decode cX9_mergeIn 42 = .ok (.iconst 2, 1) := by decide +kernel
theorem dX9_mergeIn_43 : decode cX9_mergeIn 43 = .ok (.istore 5, 2) := by decide +kernel
theorem dX9_mergeIn_45 : decode cX9_mergeIn 45 = .ok (.aload_n 0, 1) := by decide +kernel
theorem dX9_mergeIn_46 : decode cX9_mergeIn 46 = .ok (.iconst 0, 1) := by decide +kernel
theorem dX9_mergeIn_47 : decode cX9_mergeIn 47 = .ok (.iload_n 1, 1) := by decide +kernel
theorem dX9_mergeIn_48 : decode cX9_mergeIn 48 = .ok (.invokevirtual 72, 3) := by decide +kernel
theorem dX9_mergeIn_51 : decode cX9_mergeIn 51 = .ok (.ifCond .eq 13, 3) := by decide +kernel
theorem dX9_mergeIn_54 : decode cX9_mergeIn 54 = .ok (.aload_n 0, 1) := by decide +kernel
theorem dX9_mergeIn_55 : decode cX9_mergeIn 55 = .ok (.iload 5, 2) := by decide +kernel
theorem dX9_mergeIn_57 : decode cX9_mergeIn 57 = .ok (.iload_n 1, 1) := by decide +kernel
theorem dX9_mergeIn_58 : decode cX9_mergeIn 58 = .ok (.invokevirtual 154, 3) := by decide +kernel
theorem dX9_mergeIn_61 : decode cX9_mergeIn 61 = .ok (.ifCond .eq 7, 3) := by decide +kernel
theorem dX9_mergeIn_64 : decode cX9_mergeIn 64 = .ok (.iconst 1, 1) := by decide +kernel
theorem dX9_mergeIn_65 : decode cX9_mergeIn 65 = .ok (.goto 4, 3) := by decide +kernel
theorem dX9_mergeIn_68 : decode cX9_mergeIn 68 = .ok (.iconst 0, 1) := by decide +kernel
theorem dX9_mergeIn_69 : decode cX9_mergeIn 69 = .ok (.istore 4, 2) := by decide +kernel
theorem dX9_mergeIn_71 : decode cX9_mergeIn 71 = .ok (.aload_n 0, 1) := by decide +kernel
theorem dX9_mergeIn_72 : decode cX9_mergeIn 72 = .ok (.iconst 0, 1) := by decide +kernel
theorem dX9_mergeIn_73 : decode cX9_mergeIn 73 = .ok (.iload_n 1, 1) := by decide +kernel
theorem dX9_mergeIn_74 : decode cX9_mergeIn 74 = .ok (.invokevirtual 72, 3) := by decide +kernel
theorem dX9_mergeIn_77 : decode cX9_mergeIn 77 = .ok (.ifCond .eq 15, 3) := by decide +kernel
theorem dX9_mergeIn_80 : decode cX9_mergeIn 80 = .ok (.iload 4, 2) := by decide +kernel
theorem dX9_mergeIn_82 : decode cX9_mergeIn 82 = .ok (.ifCond .eq 10, 3) := by decide +kernel
theorem dX9_mergeIn_85 : decode cX9_mergeIn 85 = .ok (.aload_n 0, 1) := by decide +kernel
theorem dX9_mergeIn_86 : decode cX9_mergeIn 86 = .ok (.iconst 3, 1) := by decide +kernel
theorem dX9_mergeIn_87 : decode cX9_mergeIn 87 = .ok (.iload_n 1, 1) := by decide +kernel
theorem dX9_mergeIn_88 : decode cX9_mergeIn 88 = .ok (.iload_n 1, 1) := by decide +kernel
theorem dX9_mergeIn_89 : decode cX9_mergeIn 89 = .ok (.invokevirtual 157, 3) := by decide +kernel
theorem dX9_mergeIn_92 : decode cX9_mergeIn 92 = .ok (.aload_n 0, 1) := by decide +kernel
theorem dX9_mergeIn_93 : decode cX9_mergeIn 93 = .ok (.getfield 7, 3) := by decide +kernel
theorem dX9_mergeIn_96 : decode cX9_mergeIn 96 = .ok (.sipush 192, 3) := by decide +kernel
theorem dX9_mergeIn_99 : decode cX9_mergeIn 99 = .ok (.iload_n 1, 1) := by decide +kernel
theorem dX9_mergeIn_100 : decode cX9_mergeIn 100 = .ok (.iadd, 1) := by decide +kernel
theorem dX9_mergeIn_101 : decode cX9_mergeIn 101 = .ok (.iload 4, 2) := by decide +kernel
theorem dX9_mergeIn_103 : decode cX9_mergeIn 103 = .ok (.ifCond .eq 7, 3) := by decide +kernel
theorem dX9_mergeIn_106 : decode cX9_mergeIn 106 = .ok (.iconst (-1), 1) := by decide +kernel
theorem dX9_mergeIn_107 : decode cX9_mergeIn 107 = .ok (.goto 5, 3) := by decide +kernel
theorem dX9_mergeIn_110 : decode cX9_mergeIn 110 = .ok (.bipush (-9), 2) := by decide +kernel
theorem dX9_mergeIn_112 : decode cX9_mergeIn 112 = .ok (.iastore, 1) := by decide +kernel
theorem dX9_mergeIn_113 : decode cX9_mergeIn 113 = .ok (.return_, 1) := by decide +kernel
theorem dX9_settle_0 : decode cX9_settle 0 = .ok (.aload_n 0, 1) := by decide +kernel
theorem dX9_settle_1 : decode cX9_settle 1 = .ok (.getfield 7, 3) := by decide +kernel
theorem dX9_settle_4 : decode cX9_settle 4 = .ok (.sipush 256, 3) := by decide +kernel
theorem dX9_settle_7 : decode cX9_settle 7 = .ok (.iaload, 1) := by decide +kernel
theorem dX9_settle_8 : decode cX9_settle 8 = .ok (.istore 4, 2) := by decide +kernel
theorem dX9_settle_10 : decode cX9_settle 10 = .ok (.iconst 3, 1) := by decide +kernel
theorem dX9_settle_11 : decode cX9_settle 11 = .ok (.iload 4, 2) := by decide +kernel
theorem dX9_settle_13 : decode cX9_settle 13 = .ok (.isub, 1) := by decide +kernel
theorem dX9_settle_14 : decode cX9_settle 14 = .ok (.istore 5, 2) := by decide +kernel
theorem dX9_settle_16 : decode cX9_settle 16 = .ok (.aload_n 0, 1) := by decide +kernel
theorem dX9_settle_17 : decode cX9_settle 17 = .ok (.getfield 7, 3) := by decide +kernel
theorem dX9_settle_20 : decode cX9_settle 20 = .ok (.bipush 64, 2) := by decide +kernel
theorem dX9_settle_22 : decode cX9_settle 22 = .ok (.iload 4, 2) := by decide +kernel
theorem dX9_settle_24 : decode cX9_settle 24 = .ok (.imul, 1) := by decide +kernel
theorem dX9_settle_25 : decode cX9_settle 25 = .ok (.iload_n 1, 1) := by decide +kernel
theorem dX9_settle_26 : decode cX9_settle 26 = .ok (.iadd, 1) := by decide +kernel
theorem dX9_settle_27 : decode cX9_settle 27 = .ok (.iload_n 2, 1) := by decide +kernel
theorem dX9_settle_28 : decode cX9_settle 28 = .ok (.iadd, 1) := by decide +kernel
theorem dX9_settle_29 : decode cX9_settle 29 = .ok (.iaload, 1) := by decide +kernel
theorem dX9_settle_30 : decode cX9_settle 30 = .ok (.istore 6, 2) := by decide +kernel
theorem dX9_settle_32 : decode cX9_settle 32 = .ok (.aload_n 0, 1) := by decide +kernel
theorem dX9_settle_33 : decode cX9_settle 33 = .ok (.getfield 7, 3) := by decide +kernel
theorem dX9_settle_36 : decode cX9_settle 36 = .ok (.bipush 64, 2) := by decide +kernel
theorem dX9_settle_38 : decode cX9_settle 38 = .ok (.iload 5, 2) := by decide +kernel
theorem dX9_settle_40 : decode cX9_settle 40 = .ok (.imul, 1) := by decide +kernel
theorem dX9_settle_41 : decode cX9_settle 41 = .ok (.iload_n 1, 1) := by decide +kernel
theorem dX9_settle_42 : decode cX9_settle 42 = .ok (.iadd, 1) := by decide +kernel
theorem dX9_settle_43 : decode cX9_settle 43 = .ok (.iload_n 2, 1) := by decide +kernel
theorem dX9_settle_44 : decode cX9_settle 44 = .ok (.iadd, 1) := by decide +kernel
theorem dX9_settle_45 : decode cX9_settle 45 = .ok (.iaload, 1) := by decide +kernel
theorem dX9_settle_46 : decode cX9_settle 46 = .ok (.istore 7, 2) := by decide +kernel
theorem dX9_settle_48 : decode cX9_settle 48 = .ok (.aload_n 0, 1) := by decide +kernel
theorem dX9_settle_49 : decode cX9_settle 49 = .ok (.getfield 7, 3) := by decide +kernel
theorem dX9_settle_52 : decode cX9_settle 52 = .ok (.iload_n 1, 1) := by decide +kernel
theorem dX9_settle_53 : decode cX9_settle 53 = .ok (.iload_n 2, 1) := by decide +kernel
theorem dX9_settle_54 : decode cX9_settle 54 = .ok (.iadd, 1) := by decide +kernel
theorem dX9_settle_55 : decode cX9_settle 55 = .ok (.iaload, 1) := by decide +kernel
theorem dX9_settle_56 : decode cX9_settle 56 = .ok (.istore 8, 2) := by decide +kernel
theorem dX9_settle_58 : decode cX9_settle 58 = .ok (.aload_n 0, 1) := by decide +kernel
theorem dX9_settle_59 : decode cX9_settle 59 = .ok (.iconst 0, 1) := by decide +kernel
theorem dX9_settle_60 : decode cX9_settle 60 = .ok (.iload_n 2, 1) := by decide +kernel
theorem dX9_settle_61 : decode cX9_settle 61 = .ok (.invokevirtual 72, 3) := by decide +kernel
theorem dX9_settle_64 : decode cX9_settle 64 = .ok (.istore 9, 2) := by decide +kernel
theorem dX9_settle_66 : decode cX9_settle 66 = .ok (.iload 6, 2) := by decide +kernel
theorem dX9_settle_68 : decode cX9_settle 68 = .ok (.istore 10, 2) := by decide +kernel
theorem dX9_settle_70 : decode cX9_settle 70 = .ok (.aload_n 0, 1) := by decide +kernel
theorem dX9_settle_71 : decode cX9_settle 71 = .ok (.iload 4, 2) := by decide +kernel
theorem dX9_settle_73 : decode cX9_settle 73 = .ok (.iload_n 2, 1) := by decide +kernel
theorem dX9_settle_74 : decode cX9_settle 74 = .ok (.invokevirtual 72, 3) := by decide +kernel
theorem dX9_settle_77 : decode cX9_settle 77 = .ok (.ifCond .ne 10, 3) := by decide +kernel
theorem dX9_settle_80 : decode cX9_settle 80 = .ok (.iload 7, 2) := by decide +kernel
theorem dX9_settle_82 : decode cX9_settle 82 = .ok (.istore 10, 2) := by decide +kernel
theorem dX9_settle_84 : decode cX9_settle 84 = .ok (.goto 68, 3) := by decide +kernel
theorem dX9_settle_87 : decode cX9_settle 87 = .ok (.aload_n 0, 1) := by decide +kernel
theorem dX9_settle_88 : decode cX9_settle 88 = .ok (.iload 5, 2) := by decide +kernel
theorem dX9_settle_90 : decode cX9_settle 90 = .ok (.iload_n 2, 1) := by decide +kernel
theorem dX9_settle_91 : decode cX9_settle 91 = .ok (.invokevirtual 72, 3) := by decide +kernel
theorem dX9_settle_94 : decode cX9_settle 94 = .ok (.ifCond .eq 58, 3) := by decide +kernel
theorem dX9_settle_97 : decode cX9_settle 97 = .ok (.iload 6, 2) := by decide +kernel
theorem dX9_settle_99 : decode cX9_settle 99 = .ok (.iload 7, 2) := by decide +kernel
theorem dX9_settle_101 : decode cX9_settle 101 = .ok (.if_icmp .eq 51, 3) := by decide +kernel
theorem dX9_settle_104 : decode cX9_settle 104 = .ok (.iload 9, 2) := by decide +kernel
theorem dX9_settle_106 : decode cX9_settle 106 = .ok (.ifCond .eq 17, 3) := by decide +kernel
theorem dX9_settle_109 : decode cX9_settle 109 = .ok (.iload 6, 2) := by decide +kernel
theorem dX9_settle_111 : decode cX9_settle 111 = .ok (.iload 8, 2) := by decide +kernel
theorem dX9_settle_113 : decode cX9_settle 113 = .ok (.if_icmp .ne 10, 3) := by decide +kernel
theorem dX9_settle_116 : decode cX9_settle 116 = .ok (.iload 7, 2) := by decide +kernel
theorem dX9_settle_118 : decode cX9_settle 118 = .ok (.istore 10, 2) := by decide +kernel
theorem dX9_settle_120 : decode cX9_settle 120 = .ok (.goto 32, 3) := by decide +kernel
theorem dX9_settle_123 : decode cX9_settle 123 = .ok (.iload 9, 2) := by decide +kernel
theorem dX9_settle_125 : decode cX9_settle 125 = .ok (.ifCond .eq 10, 3) := by decide +kernel
theorem dX9_settle_128 : decode cX9_settle 128 = .ok (.iload 7, 2) := by decide +kernel
theorem dX9_settle_130 : decode cX9_settle 130 = .ok (.iload 8, 2) := by decide +kernel
theorem dX9_settle_132 : decode cX9_settle 132 = .ok (.if_icmp .eq 20, 3) := by decide +kernel
theorem dX9_settle_135 : decode cX9_settle 135 = .ok (.aload_n 0, 1) := by decide +kernel
theorem dX9_settle_136 : decode cX9_settle 136 = .ok (.iload_n 3, 1) := by decide +kernel
theorem dX9_settle_137 : decode cX9_settle 137 = .ok (.iload_n 2, 1) := by decide +kernel
theorem dX9_settle_138 : decode cX9_settle 138 = .ok (.iload_n 3, 1) := by decide +kernel
theorem dX9_settle_139 : decode cX9_settle 139 = .ok (.iconst 2, 1) := by decide +kernel
theorem dX9_settle_140 : decode cX9_settle 140 = .ok (.if_icmp .ne 8, 3) := by decide +kernel
theorem dX9_settle_143 : decode cX9_settle 143 = .ok (.iload 7, 2) := by decide +kernel
theorem dX9_settle_145 : decode cX9_settle 145 = .ok (.goto 4, 3) := by decide +kernel
theorem dX9_settle_148 : decode cX9_settle 148 = .ok (.iload_n 2, 1) := by decide +kernel
theorem dX9_settle_149 : decode cX9_settle 149 = .ok (.invokevirtual 157, 3) := by decide +kernel
theorem dX9_settle_152 : decode cX9_settle 152 = .ok (.aload_n 0, 1) := by decide +kernel
theorem dX9_settle_153 : decode cX9_settle 153 = .ok (.getfield 7, 3) := by decide +kernel
theorem dX9_settle_156 : decode cX9_settle 156 = .ok (.sipush 192, 3) := by decide +kernel
theorem dX9_settle_159 : decode cX9_settle 159 = .ok (.iload_n 1, 1) := by decide +kernel
theorem dX9_settle_160 : decode cX9_settle 160 = .ok (.iadd, 1) := by decide +kernel
theorem dX9_settle_161 : decode cX9_settle 161 = .ok (.iload_n 2, 1) := by decide +kernel
theorem dX9_settle_162 : decode cX9_settle 162 = .ok (.iadd, 1) := by decide +kernel
theorem dX9_settle_163 : decode cX9_settle 163 = .ok (.iload 10, 2) := by decide +kernel
theorem dX9_settle_165 : decode cX9_settle 165 = .ok (.iastore, 1) := by decide +kernel
theorem dX9_settle_166 : decode cX9_settle 166 = .ok (.return_, 1) := by decide +kernel
theorem dX9_nearest_0 : decode cX9_nearest 0 = .ok (.iload_n 1, 1) := by decide +kernel
theorem dX9_nearest_1 : decode cX9_nearest 1 = .ok (.istore_n 2, 1) := by decide +kernel
theorem dX9_nearest_2 : decode cX9_nearest 2 = .ok (.aload_n 0, 1) := by decide +kernel
theorem dX9_nearest_3 : decode cX9_nearest 3 = .ok (.iconst 3, 1) := by decide +kernel
theorem dX9_nearest_4 : decode cX9_nearest 4 = .ok (.iload_n 2, 1) := by decide +kernel
theorem dX9_nearest_5 : decode cX9_nearest 5 = .ok (.invokevirtual 72, 3) := by decide +kernel
theorem dX9_nearest_8 : decode cX9_nearest 8 = .ok (.ifCond .ne 13, 3) := by decide +kernel
theorem dX9_nearest_11 : decode cX9_nearest 11 = .ok (.aload_n 0, 1) := by decide +kernel
theorem dX9_nearest_12 : decode cX9_nearest 12 = .ok (.iconst 0, 1) := by decide +kernel
theorem dX9_nearest_13 : decode cX9_nearest 13 = .ok (.iload_n 2, 1) := by decide +kernel
theorem dX9_nearest_14 : decode cX9_nearest 14 = .ok (.invokevirtual 76, 3) := by decide +kernel
theorem dX9_nearest_17 : decode cX9_nearest 17 = .ok (.istore_n 2, 1) := by decide +kernel
theorem dX9_nearest_18 : decode cX9_nearest 18 = .ok (.goto (-16), 3) := by decide +kernel
theorem dX9_nearest_21 : decode cX9_nearest 21 = .ok (.iload_n 2, 1) := by decide +kernel
theorem dX9_nearest_22 : decode cX9_nearest 22 = .ok (.ireturn, 1) := by decide +kernel
theorem dX9_isOnRing_0 : decode cX9_isOnRing 0 = .ok (.iload_n 1, 1) := by decide +kernel
theorem dX9_isOnRing_1 : decode cX9_isOnRing 1 = .ok (.istore_n 2, 1) := by decide +kernel
theorem dX9_isOnRing_2 : decode cX9_isOnRing 2 = .ok (.iconst 0, 1) := by decide +kernel
theorem dX9_isOnRing_3 : decode cX9_isOnRing 3 = .ok (.istore_n 3, 1) := by decide +kernel
theorem dX9_isOnRing_4 : decode cX9_isOnRing 4 = .ok (.iload_n 3, 1) := by decide +kernel
theorem dX9_isOnRing_5 : decode cX9_isOnRing 5 = .ok (.bipush 16, 2) := by decide +kernel
theorem dX9_isOnRing_7 : decode cX9_isOnRing 7 = .ok (.if_icmp .ge 35, 3) := by decide +kernel
theorem dX9_isOnRing_10 : decode cX9_isOnRing 10 = .ok (.iload_n 2, 1) := by decide +kernel
theorem dX9_isOnRing_11 : decode cX9_isOnRing 11 = .ok (.ifCond .gt 7, 3) := by decide +kernel
theorem dX9_isOnRing_14 : decode cX9_isOnRing 14 = .ok (.iconst 0, 1) := by decide +kernel
theorem dX9_isOnRing_15 : decode cX9_isOnRing 15 = .ok (.goto 9, 3) := by decide +kernel
theorem dX9_isOnRing_18 : decode cX9_isOnRing 18 = .ok (.aload_n 0, 1) := by decide +kernel
theorem dX9_isOnRing_19 : decode cX9_isOnRing 19 = .ok (.iconst 3, 1) := by decide +kernel
theorem dX9_isOnRing_20 : decode cX9_isOnRing 20 = .ok (.iload_n 2, 1) := by decide +kernel
theorem dX9_isOnRing_21 : decode cX9_isOnRing 21 = .ok (.invokevirtual 76, 3) := by decide +kernel
theorem dX9_isOnRing_24 : decode cX9_isOnRing 24 = .ok (.istore_n 2, 1) := by decide +kernel
theorem dX9_isOnRing_25 : decode cX9_isOnRing 25 = .ok (.iload_n 2, 1) := by decide +kernel
theorem dX9_isOnRing_26 : decode cX9_isOnRing 26 = .ok (.iload_n 1, 1) := by decide +kernel
theorem dX9_isOnRing_27 : decode cX9_isOnRing 27 = .ok (.if_icmp .ne 9, 3) := by decide +kernel
theorem dX9_isOnRing_30 : decode cX9_isOnRing 30 = .ok (.iload_n 1, 1) := by decide +kernel
theorem dX9_isOnRing_31 : decode cX9_isOnRing 31 = .ok (.ifCond .le 5, 3) := by decide +kernel
theorem dX9_isOnRing_34 : decode cX9_isOnRing 34 = .ok (.iconst 1, 1) := by decide +kernel
theorem dX9_isOnRing_35 : decode cX9_isOnRing 35 = .ok (.ireturn, 1) := by decide +kernel
theorem dX9_isOnRing_36 : decode cX9_isOnRing 36 = .ok (.iinc 3 1, 3) := by decide +kernel
theorem dX9_isOnRing_39 : decode cX9_isOnRing 39 = .ok (.goto (-35), 3) := by decide +kernel
theorem dX9_isOnRing_42 : decode cX9_isOnRing 42 = .ok (.iconst 0, 1) := by decide +kernel
theorem dX9_isOnRing_43 : decode cX9_isOnRing 43 = .ok (.ireturn, 1) := by decide +kernel
theorem dX9_ringFrom_0 : decode cX9_ringFrom 0 = .ok (.iconst 0, 1) := by decide +kernel
theorem dX9_ringFrom_1 : decode cX9_ringFrom 1 = .ok (.istore_n 2, 1) := by decide +kernel
theorem dX9_ringFrom_2 : decode cX9_ringFrom 2 = .ok (.iload_n 1, 1) := by decide +kernel
theorem dX9_ringFrom_3 : decode cX9_ringFrom 3 = .ok (.istore_n 3, 1) := by decide +kernel
theorem dX9_ringFrom_4 : decode cX9_ringFrom 4 = .ok (.iload_n 2, 1) := by decide +kernel
theorem dX9_ringFrom_5 : decode cX9_ringFrom 5 = .ok (.iconst 1, 1) := by decide +kernel
theorem dX9_ringFrom_6 : decode cX9_ringFrom 6 = .ok (.iload_n 3, 1) := by decide +kernel
theorem dX9_ringFrom_7 : decode cX9_ringFrom 7 = .ok (.ishl, 1) := by decide +kernel
theorem dX9_ringFrom_8 : decode cX9_ringFrom 8 = .ok (.ior, 1) := by decide +kernel
theorem dX9_ringFrom_9 : decode cX9_ringFrom 9 = .ok (.istore_n 2, 1) := by decide +kernel
theorem dX9_ringFrom_10 : decode cX9_ringFrom 10 = .ok (.aload_n 0, 1) := by decide +kernel
theorem dX9_ringFrom_11 : decode cX9_ringFrom 11 = .ok (.iconst 3, 1) := by decide +kernel
theorem dX9_ringFrom_12 : decode cX9_ringFrom 12 = .ok (.iload_n 3, 1) := by decide +kernel
theorem dX9_ringFrom_13 : decode cX9_ringFrom 13 = .ok (.invokevirtual 76, 3) := by decide +kernel
theorem dX9_ringFrom_16 : decode cX9_ringFrom 16 = .ok (.istore_n 3, 1) := by decide +kernel
theorem dX9_ringFrom_17 : decode cX9_ringFrom 17 = .ok (.iload_n 3, 1) := by decide +kernel
theorem dX9_ringFrom_18 : decode cX9_ringFrom 18 = .ok (.iload_n 1, 1) := by decide +kernel
theorem dX9_ringFrom_19 : decode cX9_ringFrom 19 = .ok (.if_icmp .ne (-15), 3) := by decide +kernel
theorem dX9_ringFrom_22 : decode cX9_ringFrom 22 = .ok (.iload_n 2, 1) := by decide +kernel
theorem dX9_ringFrom_23 : decode cX9_ringFrom 23 = .ok (.ireturn, 1) := by decide +kernel
theorem dX9_breakRings_0 : decode cX9_breakRings 0 = .ok (.iconst 3, 1) := by decide +kernel
theorem dX9_breakRings_1 : decode cX9_breakRings 1 = .ok (.aload_n 0, 1) := by decide +kernel
theorem dX9_breakRings_2 : decode cX9_breakRings 2 = .ok (.getfield 7, 3) := by decide +kernel
theorem dX9_breakRings_5 : decode cX9_breakRings 5 = .ok (.sipush 256, 3) := by decide +kernel
theorem dX9_breakRings_8 : decode cX9_breakRings 8 = .ok (.iaload, 1) := by decide +kernel
theorem dX9_breakRings_9 : decode cX9_breakRings 9 = .ok (.isub, 1) := by decide +kernel
theorem dX9_breakRings_10 : decode cX9_breakRings 10 = .ok (.istore_n 1, 1) := by decide +kernel
theorem dX9_breakRings_11 : decode cX9_breakRings 11 = .ok (.iconst 0, 1) := by decide +kernel
theorem dX9_breakRings_12 : decode cX9_breakRings 12 = .ok (.istore_n 2, 1) := by decide +kernel
theorem dX9_breakRings_13 : decode cX9_breakRings 13 = .ok (.iconst 1, 1) := by decide +kernel
theorem dX9_breakRings_14 : decode cX9_breakRings 14 = .ok (.istore_n 3, 1) := by decide +kernel
theorem dX9_breakRings_15 : decode cX9_breakRings 15 = .ok (.iload_n 3, 1) := by decide +kernel
theorem dX9_breakRings_16 : decode cX9_breakRings 16 = .ok (.bipush 16, 2) := by decide +kernel
theorem dX9_breakRings_18 : decode cX9_breakRings 18 = .ok (.if_icmp .ge 232, 3) := by decide +kernel
theorem dX9_breakRings_21 : decode cX9_breakRings 21 = .ok (.aload_n 0, 1) := by decide +kernel
theorem dX9_breakRings_22 : decode cX9_breakRings 22 = .ok (.iconst 3, 1) := by decide +kernel
theorem dX9_breakRings_23 : decode cX9_breakRings 23 = .ok (.iload_n 3, 1) := by decide +kernel
theorem dX9_breakRings_24 : decode cX9_breakRings 24 = .ok (.invokevirtual 72, 3) := by decide +kernel
theorem dX9_breakRings_27 : decode cX9_breakRings 27 = .ok (.ifCond .eq 11, 3) := by decide +kernel
theorem dX9_breakRings_30 : decode cX9_breakRings 30 = .ok (.aload_n 0, 1) := by decide +kernel
theorem dX9_breakRings_31 : decode cX9_breakRings 31 = .ok (.iload_n 3, 1) := by decide +kernel
theorem dX9_breakRings_32 : decode cX9_breakRings 32 = .ok (.invokevirtual 161, 3) := by decide +kernel
theorem dX9_breakRings_35 : decode cX9_breakRings 35 = .ok (.ifCond .ne 9, 3) := by decide +kernel
theorem dX9_breakRings_38 : decode cX9_breakRings 38 = .ok (.iinc 3 1, 3) := by decide +kernel
theorem dX9_breakRings_41 : decode cX9_breakRings 41 = .ok (.goto (-26), 3) := by decide +kernel
theorem dX9_breakRings_44 : decode cX9_breakRings 44 = .ok (.aload_n 0, 1) := by decide +kernel
theorem dX9_breakRings_45 : decode cX9_breakRings 45 = .ok (.iload_n 3, 1) := by decide +kernel
theorem dX9_breakRings_46 : decode cX9_breakRings 46 = .ok (.invokevirtual 164, 3) := by decide +kernel
theorem dX9_breakRings_49 : decode cX9_breakRings 49 = .ok (.istore 4, 2) := by decide +kernel
theorem dX9_breakRings_51 : decode cX9_breakRings 51 = .ok (.iconst (-1), 1) := by decide +kernel
theorem dX9_breakRings_52 : decode cX9_breakRings 52 = .ok (.istore 5, 2) := by decide +kernel
theorem dX9_breakRings_54 : decode cX9_breakRings 54 = .ok (.bipush 15, 2) := by decide +kernel
theorem dX9_breakRings_56 : decode cX9_breakRings 56 = .ok (.istore 6, 2) := by decide +kernel
theorem dX9_breakRings_58 : decode cX9_breakRings 58 = .ok (.iload 6, 2) := by decide +kernel
theorem dX9_breakRings_60 : decode cX9_breakRings 60 = .ok (.ifCond .le 104, 3) := by decide +kernel
theorem dX9_breakRings_63 : decode cX9_breakRings 63 = .ok (.iload 4, 2) := by decide +kernel
theorem dX9_breakRings_65 : decode cX9_breakRings 65 = .ok (.iload 6, 2) := by decide +kernel
theorem dX9_breakRings_67 : decode cX9_breakRings 67 = .ok (.ishr, 1) := by decide +kernel
theorem dX9_breakRings_68 : decode cX9_breakRings 68 = .ok (.iconst 1, 1) := by decide +kernel
theorem dX9_breakRings_69 : decode cX9_breakRings 69 = .ok (.iand, 1) := by decide +kernel
theorem dX9_breakRings_70 : decode cX9_breakRings 70 = .ok (.iconst 1, 1) := by decide +kernel
theorem dX9_breakRings_71 : decode cX9_breakRings 71 = .ok (.if_icmp .ne 36, 3) := by decide +kernel
theorem dX9_breakRings_74 : decode cX9_breakRings 74 = .ok (.iload_n 2, 1) := by decide +kernel
theorem dX9_breakRings_75 : decode cX9_breakRings 75 = .ok (.iload 6, 2) := by decide +kernel
theorem dX9_breakRings_77 : decode cX9_breakRings 77 = .ok (.ishr, 1) := by decide +kernel
theorem dX9_breakRings_78 : decode cX9_breakRings 78 = .ok (.iconst 1, 1) := by decide +kernel
theorem dX9_breakRings_79 : decode cX9_breakRings 79 = .ok (.iand, 1) := by decide +kernel
theorem dX9_breakRings_80 : decode cX9_breakRings 80 = .ok (.ifCond .ne 27, 3) := by decide +kernel
theorem dX9_breakRings_83 : decode cX9_breakRings 83 = .ok (.aload_n 0, 1) := by decide +kernel
theorem dX9_breakRings_84 : decode cX9_breakRings 84 = .ok (.iconst 0, 1) := by decide +kernel
theorem dX9_breakRings_85 : decode cX9_breakRings 85 = .ok (.iload 6, 2) := by decide +kernel
theorem dX9_breakRings_87 : decode cX9_breakRings 87 = .ok (.invokevirtual 72, 3) := by decide +kernel
theorem dX9_breakRings_90 : decode cX9_breakRings 90 = .ok (.ifCond .eq 17, 3) := by decide +kernel
theorem dX9_breakRings_93 : decode cX9_breakRings 93 = .ok (.aload_n 0, 1) := by decide +kernel
theorem dX9_breakRings_94 : decode cX9_breakRings 94 = .ok (.iload_n 1, 1) := by decide +kernel
theorem dX9_breakRings_95 : decode cX9_breakRings 95 = .ok (.iload 6, 2) := by decide +kernel
theorem dX9_breakRings_97 : decode cX9_breakRings 97 = .ok (.invokevirtual 72, 3) := by decide +kernel
theorem dX9_breakRings_100 : decode cX9_breakRings 100 = .ok (.ifCond .eq 7, 3) := by decide +kernel
theorem dX9_breakRings_103 : decode cX9_breakRings 103 = .ok (.iconst 1, 1) := by decide +kernel
theorem dX9_breakRings_104 : decode cX9_breakRings 104 = .ok (.goto 4, 3) := by decide +kernel
theorem dX9_breakRings_107 : decode cX9_breakRings 107 = .ok (.iconst 0, 1) := by decide +kernel
theorem dX9_breakRings_108 : decode cX9_breakRings 108 = .ok (.istore 7, 2) := by decide +kernel
theorem dX9_breakRings_110 : decode cX9_breakRings 110 = .ok (.iload 7, 2) := by decide +kernel
theorem dX9_breakRings_112 : decode cX9_breakRings 112 = .ok (.ifCond .eq 42, 3) := by decide +kernel
theorem dX9_breakRings_115 : decode cX9_breakRings 115 = .ok (.aload_n 0, 1) := by decide +kernel
theorem dX9_breakRings_116 : decode cX9_breakRings 116 = .ok (.iconst 3, 1) := by decide +kernel
theorem dX9_breakRings_117 : decode cX9_breakRings 117 = .ok (.iload 6, 2) := by decide +kernel
theorem dX9_breakRings_119 : decode cX9_breakRings 119 = .ok (.invokevirtual 76, 3) := by decide +kernel
theorem dX9_breakRings_122 : decode cX9_breakRings 122 = .ok (.aload_n 0, 1) := by decide +kernel
theorem dX9_breakRings_123 : decode cX9_breakRings 123 = .ok (.iload_n 1, 1) := by decide +kernel
theorem dX9_breakRings_124 : decode cX9_breakRings 124 = .ok (.iload 6, 2) := by decide +kernel
theorem dX9_breakRings_126 : decode cX9_breakRings 126 = .ok (.invokevirtual 76, 3) := by decide +kernel
theorem dX9_breakRings_129 : decode cX9_breakRings 129 = .ok (.if_icmp .ne 25, 3) := by decide +kernel
theorem dX9_breakRings_132 : decode cX9_breakRings 132 = .ok (.aload_n 0, 1) := by decide +kernel
theorem dX9_breakRings_133 : decode cX9_breakRings 133 = .ok (.iload_n 1, 1) := by decide +kernel
theorem dX9_breakRings_134 : decode cX9_breakRings 134 = .ok (.iload 6, 2) := by decide +kernel
theorem dX9_breakRings_136 : decode cX9_breakRings 136 = .ok (.invokevirtual 76, 3) := by decide +kernel
theorem dX9_breakRings_139 : decode cX9_breakRings 139 = .ok (.aload_n 0, 1) := by decide +kernel
theorem dX9_breakRings_140 : decode cX9_breakRings 140 = .ok (.iconst 0, 1) := by decide +kernel
theorem dX9_breakRings_141 : decode cX9_breakRings 141 = .ok (.iload 6, 2) := by decide +kernel
theorem dX9_breakRings_143 : decode cX9_breakRings 143 = .ok (.invokevirtual 76, 3) := by decide +kernel
theorem dX9_breakRings_146 : decode cX9_breakRings 146 = .ok (.if_icmp .eq 8, 3) := by decide +kernel
theorem dX9_breakRings_149 : decode cX9_breakRings 149 = .ok (.iload 6, 2) := by decide +kernel
theorem dX9_breakRings_151 : decode cX9_breakRings 151 = .ok (.goto 5, 3) := by decide +kernel
theorem dX9_breakRings_154 : decode cX9_breakRings 154 = .ok (.iload 5, 2) := by decide +kernel
theorem dX9_breakRings_156 : decode cX9_breakRings 156 = .ok (.istore 5, 2) := by decide +kernel
theorem dX9_breakRings_158 : decode cX9_breakRings 158 = .ok (.iinc 6 (-1), 3) := by decide +kernel
theorem dX9_breakRings_161 : decode cX9_breakRings 161 = .ok (.goto (-103), 3) := by decide +kernel
theorem dX9_breakRings_164 : decode cX9_breakRings 164 = .ok (.iload 5, 2) := by decide +kernel
theorem dX9_breakRings_166 : decode cX9_breakRings 166 = .ok (.iconst (-1), 1) := by decide +kernel
theorem dX9_breakRings_167 : decode cX9_breakRings 167 = .ok (.if_icmp .ne 7, 3) := by decide +kernel
theorem dX9_breakRings_170 : decode cX9_breakRings 170 = .ok (.iconst 0, 1) := by decide +kernel
theorem dX9_breakRings_171 : decode cX9_breakRings 171 = .ok (.goto 14, 3) := by decide +kernel
theorem dX9_breakRings_174 : decode cX9_breakRings 174 = .ok (.aload_n 0, 1) := by decide +kernel
theorem dX9_breakRings_175 : decode cX9_breakRings 175 = .ok (.aload_n 0, 1) := by decide +kernel
theorem dX9_breakRings_176 : decode cX9_breakRings 176 = .ok (.iconst 0, 1) := by decide +kernel
theorem dX9_breakRings_177 : decode cX9_breakRings 177 = .ok (.iload 5, 2) := by decide +kernel
theorem dX9_breakRings_179 : decode cX9_breakRings 179 = .ok (.invokevirtual 76, 3) := by decide +kernel
theorem dX9_breakRings_182 : decode cX9_breakRings 182 = .ok (.invokevirtual 167, 3) := by decide +kernel
theorem dX9_breakRings_185 : decode cX9_breakRings 185 = .ok (.istore 6, 2) := by decide +kernel
theorem dX9_breakRings_187 : decode cX9_breakRings 187 = .ok (.iload_n 2, 1) := by decide +kernel
theorem dX9_breakRings_188 : decode cX9_breakRings 188 = .ok (.iload 5, 2) := by decide +kernel
theorem dX9_breakRings_190 : decode cX9_breakRings 190 = .ok (.iconst (-1), 1) := by decide +kernel
theorem dX9_breakRings_191 : decode cX9_breakRings 191 = .ok (.if_icmp .ne 7, 3) := by decide +kernel
theorem dX9_breakRings_194 : decode cX9_breakRings 194 = .ok (.iconst 0, 1) := by decide +kernel
theorem dX9_breakRings_195 : decode cX9_breakRings 195 = .ok (.goto 7, 3) := by decide +kernel
theorem dX9_breakRings_198 : decode cX9_breakRings 198 = .ok (.iconst 1, 1) := by decide +kernel
theorem dX9_breakRings_199 : decode cX9_breakRings 199 = .ok (.iload 5, 2) := by decide +kernel
theorem dX9_breakRings_201 : decode cX9_breakRings 201 = .ok (.ishl, 1) := by decide +kernel
theorem dX9_breakRings_202 : decode cX9_breakRings 202 = .ok (.ior, 1) := by decide +kernel
theorem dX9_breakRings_203 : decode cX9_breakRings 203 = .ok (.istore_n 2, 1) := by decide +kernel
theorem dX9_breakRings_204 : decode cX9_breakRings 204 = .ok (.iload 5, 2) := by decide +kernel
theorem dX9_breakRings_206 : decode cX9_breakRings 206 = .ok (.iconst (-1), 1) := by decide +kernel
theorem dX9_breakRings_207 : decode cX9_breakRings 207 = .ok (.if_icmp .ne 7, 3) := by decide +kernel
theorem dX9_breakRings_210 : decode cX9_breakRings 210 = .ok (.iload_n 3, 1) := by decide +kernel
theorem dX9_breakRings_211 : decode cX9_breakRings 211 = .ok (.goto 5, 3) := by decide +kernel
theorem dX9_breakRings_214 : decode cX9_breakRings 214 = .ok (.iload 5, 2) := by decide +kernel
theorem dX9_breakRings_216 : decode cX9_breakRings 216 = .ok (.istore 5, 2) := by decide +kernel
theorem dX9_breakRings_218 : decode cX9_breakRings 218 = .ok (.aload_n 0, 1) := by decide +kernel
theorem dX9_breakRings_219 : decode cX9_breakRings 219 = .ok (.iconst 5, 1) := by decide +kernel
theorem dX9_breakRings_220 : decode cX9_breakRings 220 = .ok (.iload 5, 2) := by decide +kernel
theorem dX9_breakRings_222 : decode cX9_breakRings 222 = .ok (.aload_n 0, 1) := by decide +kernel
theorem dX9_breakRings_223 : decode cX9_breakRings 223 = .ok (.iconst 3, 1) := by decide +kernel
theorem dX9_breakRings_224 : decode cX9_breakRings 224 = .ok (.iload 5, 2) := by decide +kernel
theorem dX9_breakRings_226 : decode cX9_breakRings 226 = .ok (.invokevirtual 76, 3) := by decide +kernel
theorem dX9_breakRings_229 : decode cX9_breakRings 229 = .ok (.invokevirtual 157, 3) := by decide +kernel
theorem dX9_breakRings_232 : decode cX9_breakRings 232 = .ok (.aload_n 0, 1) := by decide +kernel
theorem dX9_breakRings_233 : decode cX9_breakRings 233 = .ok (.getfield 7, 3) := by decide +kernel
theorem dX9_breakRings_236 : decode cX9_breakRings 236 = .ok (.sipush 192, 3) := by decide +kernel
theorem dX9_breakRings_239 : decode cX9_breakRings 239 = .ok (.iload 5, 2) := by decide +kernel
theorem dX9_breakRings_241 : decode cX9_breakRings 241 = .ok (.iadd, 1) := by decide +kernel
theorem dX9_breakRings_242 : decode cX9_breakRings 242 = .ok (.iload 6, 2) := by decide +kernel
theorem dX9_breakRings_244 : decode cX9_breakRings 244 = .ok (.iastore, 1) := by decide +kernel
theorem dX9_breakRings_245 : decode cX9_breakRings 245 = .ok (.iconst 1, 1) := by decide +kernel
theorem dX9_breakRings_246 : decode cX9_breakRings 246 = .ok (.istore_n 3, 1) := by decide +kernel
theorem dX9_breakRings_247 : decode cX9_breakRings 247 = .ok (.goto (-232), 3) := by decide +kernel
theorem dX9_breakRings_250 : decode cX9_breakRings 250 = .ok (.return_, 1) := by decide +kernel
theorem dX9_keyOf_0 : decode cX9_keyOf 0 = .ok (.aload_n 0, 1) := by decide +kernel
theorem dX9_keyOf_1 : decode cX9_keyOf 1 = .ok (.iconst 3, 1) := by decide +kernel
theorem dX9_keyOf_2 : decode cX9_keyOf 2 = .ok (.iload_n 1, 1) := by decide +kernel
theorem dX9_keyOf_3 : decode cX9_keyOf 3 = .ok (.invokevirtual 76, 3) := by decide +kernel
theorem dX9_keyOf_6 : decode cX9_keyOf 6 = .ok (.istore_n 2, 1) := by decide +kernel
theorem dX9_keyOf_7 : decode cX9_keyOf 7 = .ok (.aload_n 0, 1) := by decide +kernel
theorem dX9_keyOf_8 : decode cX9_keyOf 8 = .ok (.getfield 7, 3) := by decide +kernel
theorem dX9_keyOf_11 : decode cX9_keyOf 11 = .ok (.sipush 256, 3) := by decide +kernel
theorem dX9_keyOf_14 : decode cX9_keyOf 14 = .ok (.iaload, 1) := by decide +kernel
theorem dX9_keyOf_15 : decode cX9_keyOf 15 = .ok (.istore_n 3, 1) := by decide +kernel
theorem dX9_keyOf_16 : decode cX9_keyOf 16 = .ok (.iconst 3, 1) := by decide +kernel
theorem dX9_keyOf_17 : decode cX9_keyOf 17 = .ok (.iload_n 3, 1) := by decide +kernel
theorem dX9_keyOf_18 : decode cX9_keyOf 18 = .ok (.isub, 1) := by decide +kernel
theorem dX9_keyOf_19 : decode cX9_keyOf 19 = .ok (.istore 4, 2) := by decide +kernel
theorem dX9_keyOf_21 : decode cX9_keyOf 21 = .ok (.aload_n 0, 1) := by decide +kernel
theorem dX9_keyOf_22 : decode cX9_keyOf 22 = .ok (.iload_n 3, 1) := by decide +kernel
theorem dX9_keyOf_23 : decode cX9_keyOf 23 = .ok (.iload_n 1, 1) := by decide +kernel
theorem dX9_keyOf_24 : decode cX9_keyOf 24 = .ok (.invokevirtual 72, 3) := by decide +kernel
theorem dX9_keyOf_27 : decode cX9_keyOf 27 = .ok (.ifCond .eq 24, 3) := by decide +kernel
theorem dX9_keyOf_30 : decode cX9_keyOf 30 = .ok (.aload_n 0, 1) := by decide +kernel
theorem dX9_keyOf_31 : decode cX9_keyOf 31 = .ok (.iload_n 3, 1) := by decide +kernel
theorem dX9_keyOf_32 : decode cX9_keyOf 32 = .ok (.iload_n 1, 1) := by decide +kernel
theorem dX9_keyOf_33 : decode cX9_keyOf 33 = .ok (.invokevirtual 76, 3) := by decide +kernel
theorem dX9_keyOf_36 : decode cX9_keyOf 36 = .ok (.iload_n 2, 1) := by decide +kernel
theorem dX9_keyOf_37 : decode cX9_keyOf 37 = .ok (.if_icmp .ne 14, 3) := by decide +kernel
theorem dX9_keyOf_40 : decode cX9_keyOf 40 = .ok (.iconst 2, 1) := by decide +kernel
theorem dX9_keyOf_41 : decode cX9_keyOf 41 = .ok (.aload_n 0, 1) := by decide +kernel
theorem dX9_keyOf_42 : decode cX9_keyOf 42 = .ok (.iload_n 3, 1) := by decide +kernel
theorem dX9_keyOf_43 : decode cX9_keyOf 43 = .ok (.iload_n 1, 1) := by decide +kernel
theorem dX9_keyOf_44 : decode cX9_keyOf 44 = .ok (.invokevirtual 80, 3) := by decide +kernel
theorem dX9_keyOf_47 : decode cX9_keyOf 47 = .ok (.imul, 1) := by decide +kernel
theorem dX9_keyOf_48 : decode cX9_keyOf 48 = .ok (.goto 40, 3) := by decide +kernel
theorem dX9_keyOf_51 : decode cX9_keyOf 51 = .ok (.aload_n 0, 1) := by decide +kernel
theorem dX9_keyOf_52 : decode cX9_keyOf 52 = .ok (.iload 4, 2) := by decide +kernel
theorem dX9_keyOf_54 : decode cX9_keyOf 54 = .ok (.iload_n 1, 1) := by decide +kernel
theorem dX9_keyOf_55 : decode cX9_keyOf 55 = .ok (.invokevirtual 72, 3) := by decide +kernel
theorem dX9_keyOf_58 : decode cX9_keyOf 58 = .ok (.ifCond .eq 28, 3) := by decide +kernel
theorem dX9_keyOf_61 : decode cX9_keyOf 61 = .ok (.aload_n 0, 1) := by decide +kernel
theorem dX9_keyOf_62 : decode cX9_keyOf 62 = .ok (.iload 4, 2) := by decide +kernel
theorem dX9_keyOf_64 : decode cX9_keyOf 64 = .ok (.iload_n 1, 1) := by decide +kernel
theorem dX9_keyOf_65 : decode cX9_keyOf 65 = .ok (.invokevirtual 76, 3) := by decide +kernel
theorem dX9_keyOf_68 : decode cX9_keyOf 68 = .ok (.iload_n 2, 1) := by decide +kernel
theorem dX9_keyOf_69 : decode cX9_keyOf 69 = .ok (.if_icmp .ne 17, 3) := by decide +kernel
theorem dX9_keyOf_72 : decode cX9_keyOf 72 = .ok (.iconst 2, 1) := by decide +kernel
theorem dX9_keyOf_73 : decode cX9_keyOf 73 = .ok (.aload_n 0, 1) := by decide +kernel
theorem dX9_keyOf_74 : decode cX9_keyOf 74 = .ok (.iload 4, 2) := by decide +kernel
theorem dX9_keyOf_76 : decode cX9_keyOf 76 = .ok (.iload_n 1, 1) := by decide +kernel
theorem dX9_keyOf_77 : decode cX9_keyOf 77 = .ok (.invokevirtual 80, 3) := by decide +kernel
theorem dX9_keyOf_80 : decode cX9_keyOf 80 = .ok (.imul, 1) := by decide +kernel
theorem dX9_keyOf_81 : decode cX9_keyOf 81 = .ok (.iconst 1, 1) := by decide +kernel
theorem dX9_keyOf_82 : decode cX9_keyOf 82 = .ok (.iadd, 1) := by decide +kernel
theorem dX9_keyOf_83 : decode cX9_keyOf 83 = .ok (.goto 5, 3) := by decide +kernel
theorem dX9_keyOf_86 : decode cX9_keyOf 86 = .ok (.bipush 100, 2) := by decide +kernel
theorem dX9_keyOf_88 : decode cX9_keyOf 88 = .ok (.ireturn, 1) := by decide +kernel
theorem dX9_merge_0 : decode cX9_merge 0 = .ok (.aload_n 0, 1) := by decide +kernel
theorem dX9_merge_1 : decode cX9_merge 1 = .ok (.iconst 0, 1) := by decide +kernel
theorem dX9_merge_2 : decode cX9_merge 2 = .ok (.putfield 145, 3) := by decide +kernel
theorem dX9_merge_5 : decode cX9_merge 5 = .ok (.iconst 0, 1) := by decide +kernel
theorem dX9_merge_6 : decode cX9_merge 6 = .ok (.istore_n 1, 1) := by decide +kernel
theorem dX9_merge_7 : decode cX9_merge 7 = .ok (.iload_n 1, 1) := by decide +kernel
theorem dX9_merge_8 : decode cX9_merge 8 = .ok (.bipush 16, 2) := by decide +kernel
theorem dX9_merge_10 : decode cX9_merge 10 = .ok (.if_icmp .ge 14, 3) := by decide +kernel
theorem dX9_merge_13 : decode cX9_merge 13 = .ok (.aload_n 0, 1) := by decide +kernel
theorem dX9_merge_14 : decode cX9_merge 14 = .ok (.iload_n 1, 1) := by decide +kernel
theorem dX9_merge_15 : decode cX9_merge 15 = .ok (.invokevirtual 170, 3) := by decide +kernel
theorem dX9_merge_18 : decode cX9_merge 18 = .ok (.iinc 1 1, 3) := by decide +kernel
theorem dX9_merge_21 : decode cX9_merge 21 = .ok (.goto (-14), 3) := by decide +kernel
theorem dX9_merge_24 : decode cX9_merge 24 = .ok (.iconst 0, 1) := by decide +kernel
theorem dX9_merge_25 : decode cX9_merge 25 = .ok (.istore_n 1, 1) := by decide +kernel
theorem dX9_merge_26 : decode cX9_merge 26 = .ok (.iload_n 1, 1) := by decide +kernel
theorem dX9_merge_27 : decode cX9_merge 27 = .ok (.iconst 3, 1) := by decide +kernel
theorem dX9_merge_28 : decode cX9_merge 28 = .ok (.if_icmp .ge 69, 3) := by decide +kernel
theorem dX9_merge_31 : decode cX9_merge 31 = .ok (.iload_n 1, 1) := by decide +kernel
theorem dX9_merge_32 : decode cX9_merge 32 = .ok (.ifCond .ne 8, 3) := by decide +kernel
theorem dX9_merge_35 : decode cX9_merge 35 = .ok (.bipush 32, 2) := by decide +kernel
theorem dX9_merge_37 : decode cX9_merge 37 = .ok (.goto 14, 3) := by decide +kernel
theorem dX9_merge_40 : decode cX9_merge 40 = .ok (.iload_n 1, 1) := by decide +kernel
theorem dX9_merge_41 : decode cX9_merge 41 = .ok (.iconst 1, 1) := by decide +kernel
theorem dX9_merge_42 : decode cX9_merge 42 = .ok (.if_icmp .ne 8, 3) := by decide +kernel
theorem dX9_merge_45 : decode cX9_merge 45 = .ok (.bipush 48, 2) := by decide +kernel
theorem dX9_merge_47 : decode cX9_merge 47 = .ok (.goto 4, 3) := by decide +kernel
theorem dX9_merge_50 : decode cX9_merge 50 = .ok (.iconst 0, 1) := by decide +kernel
theorem dX9_merge_51 : decode cX9_merge 51 = .ok (.istore_n 2, 1) := by decide +kernel
theorem dX9_merge_52 : decode cX9_merge 52 = .ok (.iload_n 1, 1) := by decide +kernel
theorem dX9_merge_53 : decode cX9_merge 53 = .ok (.iconst 2, 1) := by decide +kernel
theorem dX9_merge_54 : decode cX9_merge 54 = .ok (.if_icmp .ne 7, 3) := by decide +kernel
theorem dX9_merge_57 : decode cX9_merge 57 = .ok (.iconst 1, 1) := by decide +kernel
theorem dX9_merge_58 : decode cX9_merge 58 = .ok (.goto 4, 3) := by decide +kernel
theorem dX9_merge_61 : decode cX9_merge 61 = .ok (.iconst 0, 1) := by decide +kernel
theorem dX9_merge_62 : decode cX9_merge 62 = .ok (.istore_n 3, 1) := by decide +kernel
theorem dX9_merge_63 : decode cX9_merge 63 = .ok (.iload_n 3, 1) := by decide +kernel
theorem dX9_merge_64 : decode cX9_merge 64 = .ok (.bipush 16, 2) := by decide +kernel
theorem dX9_merge_66 : decode cX9_merge 66 = .ok (.if_icmp .ge 25, 3) := by decide +kernel
theorem dX9_merge_69 : decode cX9_merge 69 = .ok (.aload_n 0, 1) := by decide +kernel
theorem dX9_merge_70 : decode cX9_merge 70 = .ok (.iconst 3, 1) := by decide +kernel
theorem dX9_merge_71 : decode cX9_merge 71 = .ok (.iload_n 3, 1) := by decide +kernel
theorem dX9_merge_72 : decode cX9_merge 72 = .ok (.invokevirtual 72, 3) := by decide +kernel
theorem dX9_merge_75 : decode cX9_merge 75 = .ok (.ifCond .eq 10, 3) := by decide +kernel
theorem dX9_merge_78 : decode cX9_merge 78 = .ok (.aload_n 0, 1) := by decide +kernel
theorem dX9_merge_79 : decode cX9_merge 79 = .ok (.iload_n 2, 1) := by decide +kernel
theorem dX9_merge_80 : decode cX9_merge 80 = .ok (.iload_n 3, 1) := by decide +kernel
theorem dX9_merge_81 : decode cX9_merge 81 = .ok (.iload_n 1, 1) := by decide +kernel
theorem dX9_merge_82 : decode cX9_merge 82 = .ok (.invokevirtual 174, 3) := by decide +kernel
theorem dX9_merge_85 : decode cX9_merge 85 = .ok (.iinc 3 1, 3) := by decide +kernel
theorem dX9_merge_88 : decode cX9_merge 88 = .ok (.goto (-25), 3) := by decide +kernel
theorem dX9_merge_91 : decode cX9_merge 91 = .ok (.iinc 1 1, 3) := by decide +kernel
theorem dX9_merge_94 : decode cX9_merge 94 = .ok (.goto (-68), 3) := by decide +kernel
theorem dX9_merge_97 : decode cX9_merge 97 = .ok (.iconst 1, 1) := by decide +kernel
theorem dX9_merge_98 : decode cX9_merge 98 = .ok (.istore_n 1, 1) := by decide +kernel
theorem dX9_merge_99 : decode cX9_merge 99 = .ok (.iload_n 1, 1) := by decide +kernel
theorem dX9_merge_100 : decode cX9_merge 100 = .ok (.bipush 16, 2) := by decide +kernel
theorem dX9_merge_102 : decode cX9_merge 102 = .ok (.if_icmp .ge 56, 3) := by decide +kernel
theorem dX9_merge_105 : decode cX9_merge 105 = .ok (.aload_n 0, 1) := by decide +kernel
theorem dX9_merge_106 : decode cX9_merge 106 = .ok (.iconst 3, 1) := by decide +kernel
theorem dX9_merge_107 : decode cX9_merge 107 = .ok (.iload_n 1, 1) := by decide +kernel
theorem dX9_merge_108 : decode cX9_merge 108 = .ok (.invokevirtual 76, 3) := by decide +kernel
theorem dX9_merge_111 : decode cX9_merge 111 = .ok (.istore_n 2, 1) := by decide +kernel
theorem dX9_merge_112 : decode cX9_merge 112 = .ok (.aload_n 0, 1) := by decide +kernel
theorem dX9_merge_113 : decode cX9_merge 113 = .ok (.iconst 3, 1) := by decide +kernel
theorem dX9_merge_114 : decode cX9_merge 114 = .ok (.iload_n 1, 1) := by decide +kernel
theorem dX9_merge_115 : decode cX9_merge 115 = .ok (.invokevirtual 72, 3) := by decide +kernel
theorem dX9_merge_118 : decode cX9_merge 118 = .ok (.ifCond .eq 34, 3) := by decide +kernel
theorem dX9_merge_121 : decode cX9_merge 121 = .ok (.aload_n 0, 1) := by decide +kernel
theorem dX9_merge_122 : decode cX9_merge 122 = .ok (.iconst 3, 1) := by decide +kernel
theorem dX9_merge_123 : decode cX9_merge 123 = .ok (.iload_n 2, 1) := by decide +kernel
theorem dX9_merge_124 : decode cX9_merge 124 = .ok (.invokevirtual 72, 3) := by decide +kernel
theorem dX9_merge_127 : decode cX9_merge 127 = .ok (.ifCond .ne 25, 3) := by decide +kernel
theorem dX9_merge_130 : decode cX9_merge 130 = .ok (.aload_n 0, 1) := by decide +kernel
theorem dX9_merge_131 : decode cX9_merge 131 = .ok (.iconst 4, 1) := by decide +kernel
theorem dX9_merge_132 : decode cX9_merge 132 = .ok (.iload_n 1, 1) := by decide +kernel
theorem dX9_merge_133 : decode cX9_merge 133 = .ok (.iload_n 2, 1) := by decide +kernel
theorem dX9_merge_134 : decode cX9_merge 134 = .ok (.invokevirtual 157, 3) := by decide +kernel
theorem dX9_merge_137 : decode cX9_merge 137 = .ok (.aload_n 0, 1) := by decide +kernel
theorem dX9_merge_138 : decode cX9_merge 138 = .ok (.getfield 7, 3) := by decide +kernel
theorem dX9_merge_141 : decode cX9_merge 141 = .ok (.sipush 192, 3) := by decide +kernel
theorem dX9_merge_144 : decode cX9_merge 144 = .ok (.iload_n 1, 1) := by decide +kernel
theorem dX9_merge_145 : decode cX9_merge 145 = .ok (.iadd, 1) := by decide +kernel
theorem dX9_merge_146 : decode cX9_merge 146 = .ok (.aload_n 0, 1) := by decide +kernel
theorem dX9_merge_147 : decode cX9_merge 147 = .ok (.iload_n 2, 1) := by decide +kernel
theorem dX9_merge_148 : decode cX9_merge 148 = .ok (.invokevirtual 167, 3) := by decide +kernel
theorem dX9_merge_151 : decode cX9_merge 151 = .ok (.iastore, 1) := by decide +kernel
theorem dX9_merge_152 : decode cX9_merge 152 = .ok (.iinc 1 1, 3) := by decide +kernel
theorem dX9_merge_155 : decode cX9_merge 155 = .ok (.goto (-56), 3) := by decide +kernel
theorem dX9_merge_158 : decode cX9_merge 158 = .ok (.aload_n 0, 1) := by decide +kernel
theorem dX9_merge_159 : decode cX9_merge 159 = .ok (.invokevirtual 177, 3) := by decide +kernel
theorem dX9_merge_162 : decode cX9_merge 162 = .ok (.aload_n 0, 1) := by decide +kernel
theorem dX9_merge_163 : decode cX9_merge 163 = .ok (.getfield 7, 3) := by decide +kernel
theorem dX9_merge_166 : decode cX9_merge 166 = .ok (.sipush 208, 3) := by decide +kernel
theorem dX9_merge_169 : decode cX9_merge 169 = .ok (.iconst 0, 1) := by decide +kernel
theorem dX9_merge_170 : decode cX9_merge 170 = .ok (.iastore, 1) := by decide +kernel
theorem dX9_merge_171 : decode cX9_merge 171 = .ok (.iconst 1, 1) := by decide +kernel
theorem dX9_merge_172 : decode cX9_merge 172 = .ok (.istore_n 1, 1) := by decide +kernel
theorem dX9_merge_173 : decode cX9_merge 173 = .ok (.iload_n 1, 1) := by decide +kernel
theorem dX9_merge_174 : decode cX9_merge 174 = .ok (.bipush 16, 2) := by decide +kernel
theorem dX9_merge_176 : decode cX9_merge 176 = .ok (.if_icmp .ge 125, 3) := by decide +kernel
theorem dX9_merge_179 : decode cX9_merge 179 = .ok (.iconst 0, 1) := by decide +kernel
theorem dX9_merge_180 : decode cX9_merge 180 = .ok (.istore_n 2, 1) := by decide +kernel
theorem dX9_merge_181 : decode cX9_merge 181 = .ok (.iconst 1, 1) := by decide +kernel
theorem dX9_merge_182 : decode cX9_merge 182 = .ok (.istore_n 3, 1) := by decide +kernel
theorem dX9_merge_183 : decode cX9_merge 183 = .ok (.iload_n 3, 1) := by decide +kernel
theorem dX9_merge_184 : decode cX9_merge 184 = .ok (.bipush 16, 2) := by decide +kernel
theorem dX9_merge_186 : decode cX9_merge 186 = .ok (.if_icmp .ge 98, 3) := by decide +kernel
theorem dX9_merge_189 : decode cX9_merge 189 = .ok (.aload_n 0, 1) := by decide +kernel
theorem dX9_merge_190 : decode cX9_merge 190 = .ok (.iconst 3, 1) := by decide +kernel
theorem dX9_merge_191 : decode cX9_merge 191 = .ok (.iload_n 1, 1) := by decide +kernel
theorem dX9_merge_192 : decode cX9_merge 192 = .ok (.invokevirtual 72, 3) := by decide +kernel
theorem dX9_merge_195 : decode cX9_merge 195 = .ok (.ifCond .eq 89, 3) := by decide +kernel
theorem dX9_merge_198 : decode cX9_merge 198 = .ok (.iload_n 3, 1) := by decide +kernel
theorem dX9_merge_199 : decode cX9_merge 199 = .ok (.iload_n 1, 1) := by decide +kernel
theorem dX9_merge_200 : decode cX9_merge 200 = .ok (.if_icmp .eq 31, 3) := by decide +kernel
theorem dX9_merge_203 : decode cX9_merge 203 = .ok (.aload_n 0, 1) := by decide +kernel
theorem dX9_merge_204 : decode cX9_merge 204 = .ok (.iconst 3, 1) := by decide +kernel
theorem dX9_merge_205 : decode cX9_merge 205 = .ok (.iload_n 3, 1) := by decide +kernel
theorem dX9_merge_206 : decode cX9_merge 206 = .ok (.invokevirtual 72, 3) := by decide +kernel
theorem dX9_merge_209 : decode cX9_merge 209 = .ok (.ifCond .eq 22, 3) := by decide +kernel
theorem dX9_merge_212 : decode cX9_merge 212 = .ok (.aload_n 0, 1) := by decide +kernel
theorem dX9_merge_213 : decode cX9_merge 213 = .ok (.iconst 3, 1) := by decide +kernel
theorem dX9_merge_214 : decode cX9_merge 214 = .ok (.iload_n 3, 1) := by decide +kernel
theorem dX9_merge_215 : decode cX9_merge 215 = .ok (.invokevirtual 76, 3) := by decide +kernel
theorem dX9_merge_218 : decode cX9_merge 218 = .ok (.aload_n 0, 1) := by decide +kernel
theorem dX9_merge_219 : decode cX9_merge 219 = .ok (.iconst 3, 1) := by decide +kernel
theorem dX9_merge_220 : decode cX9_merge 220 = .ok (.iload_n 1, 1) := by decide +kernel
theorem dX9_merge_221 : decode cX9_merge 221 = .ok (.invokevirtual 76, 3) := by decide +kernel
theorem dX9_merge_224 : decode cX9_merge 224 = .ok (.if_icmp .ne 7, 3) := by decide +kernel
theorem dX9_merge_227 : decode cX9_merge 227 = .ok (.iconst 1, 1) := by decide +kernel
theorem dX9_merge_228 : decode cX9_merge 228 = .ok (.goto 4, 3) := by decide +kernel
theorem dX9_merge_231 : decode cX9_merge 231 = .ok (.iconst 0, 1) := by decide +kernel
theorem dX9_merge_232 : decode cX9_merge 232 = .ok (.istore 4, 2) := by decide +kernel
theorem dX9_merge_234 : decode cX9_merge 234 = .ok (.iload_n 2, 1) := by decide +kernel
theorem dX9_merge_235 : decode cX9_merge 235 = .ok (.iload 4, 2) := by decide +kernel
theorem dX9_merge_237 : decode cX9_merge 237 = .ok (.ifCond .eq 38, 3) := by decide +kernel
theorem dX9_merge_240 : decode cX9_merge 240 = .ok (.aload_n 0, 1) := by decide +kernel
theorem dX9_merge_241 : decode cX9_merge 241 = .ok (.iload_n 3, 1) := by decide +kernel
theorem dX9_merge_242 : decode cX9_merge 242 = .ok (.invokevirtual 180, 3) := by decide +kernel
theorem dX9_merge_245 : decode cX9_merge 245 = .ok (.aload_n 0, 1) := by decide +kernel
theorem dX9_merge_246 : decode cX9_merge 246 = .ok (.iload_n 1, 1) := by decide +kernel
theorem dX9_merge_247 : decode cX9_merge 247 = .ok (.invokevirtual 180, 3) := by decide +kernel
theorem dX9_merge_250 : decode cX9_merge 250 = .ok (.if_icmp .lt 21, 3) := by decide +kernel
theorem dX9_merge_253 : decode cX9_merge 253 = .ok (.aload_n 0, 1) := by decide +kernel
theorem dX9_merge_254 : decode cX9_merge 254 = .ok (.iload_n 3, 1) := by decide +kernel
theorem dX9_merge_255 : decode cX9_merge 255 = .ok (.invokevirtual 180, 3) := by decide +kernel
theorem dX9_merge_258 : decode cX9_merge 258 = .ok (.aload_n 0, 1) := by decide +kernel
theorem dX9_merge_259 : decode cX9_merge 259 = .ok (.iload_n 1, 1) := by decide +kernel
theorem dX9_merge_260 : decode cX9_merge 260 = .ok (.invokevirtual 180, 3) := by decide +kernel
theorem dX9_merge_263 : decode cX9_merge 263 = .ok (.if_icmp .ne 12, 3) := by decide +kernel
theorem dX9_merge_266 : decode cX9_merge 266 = .ok (.iload_n 3, 1) := by decide +kernel
theorem dX9_merge_267 : decode cX9_merge 267 = .ok (.iload_n 1, 1) := by decide +kernel
theorem dX9_merge_268 : decode cX9_merge 268 = .ok (.if_icmp .ge 7, 3) := by decide +kernel
theorem dX9_merge_271 : decode cX9_merge 271 = .ok (.iconst 1, 1) := by decide +kernel
theorem dX9_merge_272 : decode cX9_merge 272 = .ok (.goto 4, 3) := by decide +kernel
theorem dX9_merge_275 : decode cX9_merge 275 = .ok (.iconst 0, 1) := by decide +kernel
theorem dX9_merge_276 : decode cX9_merge 276 = .ok (.iadd, 1) := by decide +kernel
theorem dX9_merge_277 : decode cX9_merge 277 = .ok (.istore_n 2, 1) := by decide +kernel
theorem dX9_merge_278 : decode cX9_merge 278 = .ok (.iinc 3 1, 3) := by decide +kernel
theorem dX9_merge_281 : decode cX9_merge 281 = .ok (.goto (-98), 3) := by decide +kernel
theorem dX9_merge_284 : decode cX9_merge 284 = .ok (.aload_n 0, 1) := by decide +kernel
theorem dX9_merge_285 : decode cX9_merge 285 = .ok (.getfield 7, 3) := by decide +kernel
theorem dX9_merge_288 : decode cX9_merge 288 = .ok (.sipush 208, 3) := by decide +kernel
theorem dX9_merge_291 : decode cX9_merge 291 = .ok (.iload_n 1, 1) := by decide +kernel
theorem dX9_merge_292 : decode cX9_merge 292 = .ok (.iadd, 1) := by decide +kernel
theorem dX9_merge_293 : decode cX9_merge 293 = .ok (.iload_n 2, 1) := by decide +kernel
theorem dX9_merge_294 : decode cX9_merge 294 = .ok (.iastore, 1) := by decide +kernel
theorem dX9_merge_295 : decode cX9_merge 295 = .ok (.iinc 1 1, 3) := by decide +kernel
theorem dX9_merge_298 : decode cX9_merge 298 = .ok (.goto (-125), 3) := by decide +kernel
theorem dX9_merge_301 : decode cX9_merge 301 = .ok (.return_, 1) := by decide +kernel
theorem dX9_isAsked_0 : decode cX9_isAsked 0 = .ok (.iload_n 1, 1) := by decide +kernel
theorem dX9_isAsked_1 : decode cX9_isAsked 1 = .ok (.iconst 3, 1) := by decide +kernel
theorem dX9_isAsked_2 : decode cX9_isAsked 2 = .ok (.if_icmp .ne 7, 3) := by decide +kernel
theorem dX9_isAsked_5 : decode cX9_isAsked 5 = .ok (.aload_n 0, 1) := by decide +kernel
theorem dX9_isAsked_6 : decode cX9_isAsked 6 = .ok (.invokevirtual 142, 3) := by decide +kernel
theorem dX9_isAsked_9 : decode cX9_isAsked 9 = .ok (.iload_n 1, 1) := by decide +kernel
theorem dX9_isAsked_10 : decode cX9_isAsked 10 = .ok (.iconst 0, 1) := by decide +kernel
theorem dX9_isAsked_11 : decode cX9_isAsked 11 = .ok (.iconst 3, 1) := by decide +kernel
theorem dX9_isAsked_12 : decode cX9_isAsked 12 = .ok (.invokestatic 68, 3) := by decide +kernel
theorem dX9_isAsked_15 : decode cX9_isAsked 15 = .ok (.ireturn, 1) := by decide +kernel
theorem dX9_has_0 : decode cX9_has 0 = .ok (.aload_n 0, 1) := by decide +kernel
theorem dX9_has_1 : decode cX9_has 1 = .ok (.iload_n 1, 1) := by decide +kernel
theorem dX9_has_2 : decode cX9_has 2 = .ok (.invokevirtual 183, 3) := by decide +kernel
theorem dX9_has_5 : decode cX9_has 5 = .ok (.ifCond .eq 13, 3) := by decide +kernel
theorem dX9_has_8 : decode cX9_has 8 = .ok (.iload_n 2, 1) := by decide +kernel
theorem dX9_has_9 : decode cX9_has 9 = .ok (.iconst 0, 1) := by decide +kernel
theorem dX9_has_10 : decode cX9_has 10 = .ok (.bipush 15, 2) := by decide +kernel
theorem dX9_has_12 : decode cX9_has 12 = .ok (.invokestatic 68, 3) := by decide +kernel
theorem dX9_has_15 : decode cX9_has 15 = .ok (.ifCond .ne 10, 3) := by decide +kernel
theorem dX9_has_18 : decode cX9_has 18 = .ok (.aload_n 0, 1) := by decide +kernel
theorem dX9_has_19 : decode cX9_has 19 = .ok (.bipush (-2), 2) := by decide +kernel
theorem dX9_has_21 : decode cX9_has 21 = .ok (.invokevirtual 60, 3) := by decide +kernel
theorem dX9_has_24 : decode cX9_has 24 = .ok (.ireturn, 1) := by decide +kernel
theorem dX9_has_25 : decode cX9_has 25 = .ok (.aload_n 0, 1) := by decide +kernel
theorem dX9_has_26 : decode cX9_has 26 = .ok (.iload_n 1, 1) := by decide +kernel
theorem dX9_has_27 : decode cX9_has 27 = .ok (.iload_n 2, 1) := by decide +kernel
theorem dX9_has_28 : decode cX9_has 28 = .ok (.invokevirtual 72, 3) := by decide +kernel
theorem dX9_has_31 : decode cX9_has 31 = .ok (.ifCond .eq 7, 3) := by decide +kernel
theorem dX9_has_34 : decode cX9_has 34 = .ok (.iconst 1, 1) := by decide +kernel
theorem dX9_has_35 : decode cX9_has 35 = .ok (.goto 4, 3) := by decide +kernel
theorem dX9_has_38 : decode cX9_has 38 = .ok (.iconst 0, 1) := by decide +kernel
theorem dX9_has_39 : decode cX9_has 39 = .ok (.ireturn, 1) := by decide +kernel
theorem dX9_ofSection_0 : decode cX9_ofSection 0 = .ok (.iload_n 3, 1) := by decide +kernel
theorem dX9_ofSection_1 : decode cX9_ofSection 1 = .ok (.tableswitch 70 0 4 #[35, 42, 49, 56, 63], 35) := by decide +kernel
theorem dX9_ofSection_36 : decode cX9_ofSection 36 = .ok (.aload_n 0, 1) := by decide +kernel
theorem dX9_ofSection_37 : decode cX9_ofSection 37 = .ok (.iload_n 1, 1) := by decide +kernel
theorem dX9_ofSection_38 : decode cX9_ofSection 38 = .ok (.iload_n 2, 1) := by decide +kernel
theorem dX9_ofSection_39 : decode cX9_ofSection 39 = .ok (.invokevirtual 76, 3) := by decide +kernel
theorem dX9_ofSection_42 : decode cX9_ofSection 42 = .ok (.ireturn, 1) := by decide +kernel
theorem dX9_ofSection_43 : decode cX9_ofSection 43 = .ok (.aload_n 0, 1) := by decide +kernel
theorem dX9_ofSection_44 : decode cX9_ofSection 44 = .ok (.iload_n 1, 1) := by decide +kernel
theorem dX9_ofSection_45 : decode cX9_ofSection 45 = .ok (.iload_n 2, 1) := by decide +kernel
theorem dX9_ofSection_46 : decode cX9_ofSection 46 = .ok (.invokevirtual 80, 3) := by decide +kernel
theorem dX9_ofSection_49 : decode cX9_ofSection 49 = .ok (.ireturn, 1) := by decide +kernel
theorem dX9_ofSection_50 : decode cX9_ofSection 50 = .ok (.aload_n 0, 1) := by decide +kernel
theorem dX9_ofSection_51 : decode cX9_ofSection 51 = .ok (.iload_n 1, 1) := by decide +kernel
theorem dX9_ofSection_52 : decode cX9_ofSection 52 = .ok (.iload_n 2, 1) := by decide +kernel
theorem dX9_ofSection_53 : decode cX9_ofSection 53 = .ok (.invokevirtual 148, 3) := by decide +kernel
theorem dX9_ofSection_56 : decode cX9_ofSection 56 = .ok (.ireturn, 1) := by decide +kernel
theorem dX9_ofSection_57 : decode cX9_ofSection 57 = .ok (.aload_n 0, 1) := by decide +kernel
theorem dX9_ofSection_58 : decode cX9_ofSection 58 = .ok (.iload_n 1, 1) := by decide +kernel
theorem dX9_ofSection_59 : decode cX9_ofSection 59 = .ok (.iload_n 2, 1) := by decide +kernel
theorem dX9_ofSection_60 : decode cX9_ofSection 60 = .ok (.invokevirtual 151, 3) := by decide +kernel
theorem dX9_ofSection_63 : decode cX9_ofSection 63 = .ok (.ireturn, 1) := by decide +kernel
theorem dX9_ofSection_64 : decode cX9_ofSection 64 = .ok (.aload_n 0, 1) := by decide +kernel
theorem dX9_ofSection_65 : decode cX9_ofSection 65 = .ok (.iload_n 1, 1) := by decide +kernel
theorem dX9_ofSection_66 : decode cX9_ofSection 66 = .ok (.iload_n 2, 1) := by decide +kernel
theorem dX9_ofSection_67 : decode cX9_ofSection 67 = .ok (.invokevirtual 93, 3) := by decide +kernel
theorem dX9_ofSection_70 : decode cX9_ofSection 70 = .ok (.ireturn, 1) := by decide +kernel
theorem dX9_ofSection_71 : decode cX9_ofSection 71 = .ok (.aload_n 0, 1) := by decide +kernel
theorem dX9_ofSection_72 : decode cX9_ofSection 72 = .ok (.iload_n 1, 1) := by decide +kernel
theorem dX9_ofSection_73 : decode cX9_ofSection 73 = .ok (.iload_n 2, 1) := by decide +kernel
theorem dX9_ofSection_74 : decode cX9_ofSection 74 = .ok (.invokevirtual 102, 3) := by decide +kernel
theorem dX9_ofSection_77 : decode cX9_ofSection 77 = .ok (.invokestatic 109, 3) := by decide +kernel
theorem dX9_ofSection_80 : decode cX9_ofSection 80 = .ok (.ireturn, 1) := by decide +kernel
theorem dX9_of_0 : decode cX9_of 0 = .ok (.aload_n 0, 1) := by decide +kernel
theorem dX9_of_1 : decode cX9_of 1 = .ok (.iload_n 1, 1) := by decide +kernel
theorem dX9_of_2 : decode cX9_of 2 = .ok (.invokevirtual 183, 3) := by decide +kernel
theorem dX9_of_5 : decode cX9_of 5 = .ok (.ifCond .eq 31, 3) := by decide +kernel
theorem dX9_of_8 : decode cX9_of 8 = .ok (.aload_n 0, 1) := by decide +kernel
theorem dX9_of_9 : decode cX9_of 9 = .ok (.iload_n 1, 1) := by decide +kernel
theorem dX9_of_10 : decode cX9_of 10 = .ok (.iload_n 2, 1) := by decide +kernel
theorem dX9_of_11 : decode cX9_of 11 = .ok (.invokevirtual 90, 3) := by decide +kernel
theorem dX9_of_14 : decode cX9_of 14 = .ok (.ifCond .eq 22, 3) := by decide +kernel
theorem dX9_of_17 : decode cX9_of 17 = .ok (.iload_n 3, 1) := by decide +kernel
theorem dX9_of_18 : decode cX9_of 18 = .ok (.iconst 0, 1) := by decide +kernel
theorem dX9_of_19 : decode cX9_of 19 = .ok (.iconst 5, 1) := by decide +kernel
theorem dX9_of_20 : decode cX9_of 20 = .ok (.invokestatic 68, 3) := by decide +kernel
theorem dX9_of_23 : decode cX9_of 23 = .ok (.ifCond .eq 13, 3) := by decide +kernel
theorem dX9_of_26 : decode cX9_of 26 = .ok (.aload_n 0, 1) := by decide +kernel
theorem dX9_of_27 : decode cX9_of 27 = .ok (.iload_n 1, 1) := by decide +kernel
theorem dX9_of_28 : decode cX9_of 28 = .ok (.iload_n 2, 1) := by decide +kernel
theorem dX9_of_29 : decode cX9_of 29 = .ok (.iload_n 3, 1) := by decide +kernel
theorem dX9_of_30 : decode cX9_of 30 = .ok (.invokevirtual 186, 3) := by decide +kernel
theorem dX9_of_33 : decode cX9_of 33 = .ok (.goto 9, 3) := by decide +kernel
theorem dX9_of_36 : decode cX9_of 36 = .ok (.aload_n 0, 1) := by decide +kernel
theorem dX9_of_37 : decode cX9_of 37 = .ok (.bipush (-2), 2) := by decide +kernel
theorem dX9_of_39 : decode cX9_of 39 = .ok (.invokevirtual 60, 3) := by decide +kernel
theorem dX9_of_42 : decode cX9_of 42 = .ok (.ireturn, 1) := by decide +kernel
theorem dX9_walkAll_0 : decode cX9_walkAll 0 = .ok (.iconst 0, 1) := by decide +kernel
theorem dX9_walkAll_1 : decode cX9_walkAll 1 = .ok (.istore_n 2, 1) := by decide +kernel
theorem dX9_walkAll_2 : decode cX9_walkAll 2 = .ok (.iconst 1, 1) := by decide +kernel
theorem dX9_walkAll_3 : decode cX9_walkAll 3 = .ok (.istore_n 3, 1) := by decide +kernel
theorem dX9_walkAll_4 : decode cX9_walkAll 4 = .ok (.aload_n 0, 1) := by decide +kernel
theorem dX9_walkAll_5 : decode cX9_walkAll 5 = .ok (.getfield 43, 3) := by decide +kernel
theorem dX9_walkAll_8 : decode cX9_walkAll 8 = .ok (.iconst 0, 1) := by decide +kernel
theorem dX9_walkAll_9 : decode cX9_walkAll 9 = .ok (.iconst 0, 1) := by decide +kernel
theorem dX9_walkAll_10 : decode cX9_walkAll 10 = .ok (.iastore, 1) := by decide +kernel
theorem dX9_walkAll_11 : decode cX9_walkAll 11 = .ok (.iload_n 3, 1) := by decide +kernel
theorem dX9_walkAll_12 : decode cX9_walkAll 12 = .ok (.ifCond .le 101, 3) := by decide +kernel
theorem dX9_walkAll_15 : decode cX9_walkAll 15 = .ok (.iinc 3 (-1), 3) := by decide +kernel
theorem dX9_walkAll_18 : decode cX9_walkAll 18 = .ok (.aload_n 0, 1) := by decide +kernel
theorem dX9_walkAll_19 : decode cX9_walkAll 19 = .ok (.getfield 43, 3) := by decide +kernel
theorem dX9_walkAll_22 : decode cX9_walkAll 22 = .ok (.iload_n 3, 1) := by decide +kernel
theorem dX9_walkAll_23 : decode cX9_walkAll 23 = .ok (.iaload, 1) := by decide +kernel
theorem dX9_walkAll_24 : decode cX9_walkAll 24 = .ok (.istore 4, 2) := by decide +kernel
theorem dX9_walkAll_26 : decode cX9_walkAll 26 = .ok (.aload_n 0, 1) := by decide +kernel
theorem dX9_walkAll_27 : decode cX9_walkAll 27 = .ok (.getfield 40, 3) := by decide +kernel
theorem dX9_walkAll_30 : decode cX9_walkAll 30 = .ok (.iload_n 2, 1) := by decide +kernel
theorem dX9_walkAll_31 : decode cX9_walkAll 31 = .ok (.iload 4, 2) := by decide +kernel
theorem dX9_walkAll_33 : decode cX9_walkAll 33 = .ok (.iastore, 1) := by decide +kernel
theorem dX9_walkAll_34 : decode cX9_walkAll 34 = .ok (.iinc 2 1, 3) := by decide +kernel
theorem dX9_walkAll_37 : decode cX9_walkAll 37 = .ok (.aload_n 0, 1) := by decide +kernel
theorem dX9_walkAll_38 : decode cX9_walkAll 38 = .ok (.iload_n 1, 1) := by decide +kernel
theorem dX9_walkAll_39 : decode cX9_walkAll 39 = .ok (.iload 4, 2) := by decide +kernel
theorem dX9_walkAll_41 : decode cX9_walkAll 41 = .ok (.invokevirtual 93, 3) := by decide +kernel
theorem dX9_walkAll_44 : decode cX9_walkAll 44 = .ok (.iconst 1, 1) := by decide +kernel
theorem dX9_walkAll_45 : decode cX9_walkAll 45 = .ok (.isub, 1) := by decide +kernel
theorem dX9_walkAll_46 : decode cX9_walkAll 46 = .ok (.istore 5, 2) := by decide +kernel
theorem dX9_walkAll_48 : decode cX9_walkAll 48 = .ok (.iload 5, 2) := by decide +kernel
theorem dX9_walkAll_50 : decode cX9_walkAll 50 = .ok (.ifCond .lt 60, 3) := by decide +kernel
theorem dX9_walkAll_53 : decode cX9_walkAll 53 = .ok (.iconst 1, 1) := by decide +kernel
theorem dX9_walkAll_54 : decode cX9_walkAll 54 = .ok (.istore 6, 2) := by decide +kernel
theorem dX9_walkAll_56 : decode cX9_walkAll 56 = .ok (.iload 6, 2) := by decide +kernel
theorem dX9_walkAll_58 : decode cX9_walkAll 58 = .ok (.bipush 16, 2) := by decide +kernel
theorem dX9_walkAll_60 : decode cX9_walkAll 60 = .ok (.if_icmp .ge 44, 3) := by decide +kernel
theorem dX9_walkAll_63 : decode cX9_walkAll 63 = .ok (.aload_n 0, 1) := by decide +kernel
theorem dX9_walkAll_64 : decode cX9_walkAll 64 = .ok (.iload_n 1, 1) := by decide +kernel
theorem dX9_walkAll_65 : decode cX9_walkAll 65 = .ok (.iload 6, 2) := by decide +kernel
theorem dX9_walkAll_67 : decode cX9_walkAll 67 = .ok (.invokevirtual 76, 3) := by decide +kernel
theorem dX9_walkAll_70 : decode cX9_walkAll 70 = .ok (.iload 4, 2) := by decide +kernel
theorem dX9_walkAll_72 : decode cX9_walkAll 72 = .ok (.if_icmp .ne 26, 3) := by decide +kernel
theorem dX9_walkAll_75 : decode cX9_walkAll 75 = .ok (.aload_n 0, 1) := by decide +kernel
theorem dX9_walkAll_76 : decode cX9_walkAll 76 = .ok (.iload_n 1, 1) := by decide +kernel
theorem dX9_walkAll_77 : decode cX9_walkAll 77 = .ok (.iload 6, 2) := by decide +kernel
theorem dX9_walkAll_79 : decode cX9_walkAll 79 = .ok (.invokevirtual 80, 3) := by decide +kernel
theorem dX9_walkAll_82 : decode cX9_walkAll 82 = .ok (.iload 5, 2) := by decide +kernel
theorem dX9_walkAll_84 : decode cX9_walkAll 84 = .ok (.if_icmp .ne 14, 3) := by decide +kernel
theorem dX9_walkAll_87 : decode cX9_walkAll 87 = .ok (.aload_n 0, 1) := by decide +kernel
theorem dX9_walkAll_88 : decode cX9_walkAll 88 = .ok (.getfield 43, 3) := by decide +kernel
theorem dX9_walkAll_91 : decode cX9_walkAll 91 = .ok (.iload_n 3, 1) := by decide +kernel
theorem dX9_walkAll_92 : decode cX9_walkAll 92 = .ok (.iload 6, 2) := by decide +kernel
theorem dX9_walkAll_94 : decode cX9_walkAll 94 = .ok (.iastore, 1) := by decide +kernel
theorem dX9_walkAll_95 : decode cX9_walkAll 95 = .ok (.iinc 3 1, 3) := by decide +kernel
theorem dX9_walkAll_98 : decode cX9_walkAll 98 = .ok (.iinc 6 1, 3) := by decide +kernel
theorem dX9_walkAll_101 : decode cX9_walkAll 101 = .ok (.goto (-45), 3) := by decide +kernel
theorem dX9_walkAll_104 : decode cX9_walkAll 104 = .ok (.iinc 5 (-1), 3) := by decide +kernel
theorem dX9_walkAll_107 : decode cX9_walkAll 107 = .ok (.goto (-59), 3) := by decide +kernel
theorem dX9_walkAll_110 : decode cX9_walkAll 110 = .ok (.goto (-99), 3) := by decide +kernel
theorem dX9_walkAll_113 : decode cX9_walkAll 113 = .ok (.iload_n 2, 1) := by decide +kernel
theorem dX9_walkAll_114 : decode cX9_walkAll 114 = .ok (.ireturn, 1) := by decide +kernel
theorem dX9_walk_0 : decode cX9_walk 0 = .ok (.aload_n 0, 1) := by decide +kernel
theorem dX9_walk_1 : decode cX9_walk 1 = .ok (.iload_n 1, 1) := by decide +kernel
theorem dX9_walk_2 : decode cX9_walk 2 = .ok (.invokevirtual 183, 3) := by decide +kernel
theorem dX9_walk_5 : decode cX9_walk 5 = .ok (.ifCond .eq 7, 3) := by decide +kernel
theorem dX9_walk_8 : decode cX9_walk 8 = .ok (.iload_n 2, 1) := by decide +kernel
theorem dX9_walk_9 : decode cX9_walk 9 = .ok (.ifCond .ge 10, 3) := by decide +kernel
theorem dX9_walk_12 : decode cX9_walk 12 = .ok (.aload_n 0, 1) := by decide +kernel
theorem dX9_walk_13 : decode cX9_walk 13 = .ok (.bipush (-2), 2) := by decide +kernel
theorem dX9_walk_15 : decode cX9_walk 15 = .ok (.invokevirtual 60, 3) := by decide +kernel
theorem dX9_walk_18 : decode cX9_walk 18 = .ok (.ireturn, 1) := by decide +kernel
theorem dX9_walk_19 : decode cX9_walk 19 = .ok (.iload_n 2, 1) := by decide +kernel
theorem dX9_walk_20 : decode cX9_walk 20 = .ok (.aload_n 0, 1) := by decide +kernel
theorem dX9_walk_21 : decode cX9_walk 21 = .ok (.iload_n 1, 1) := by decide +kernel
theorem dX9_walk_22 : decode cX9_walk 22 = .ok (.invokevirtual 190, 3) := by decide +kernel
theorem dX9_walk_25 : decode cX9_walk 25 = .ok (.if_icmp .ge 12, 3) := by decide +kernel
theorem dX9_walk_28 : decode cX9_walk 28 = .ok (.aload_n 0, 1) := by decide +kernel
theorem dX9_walk_29 : decode cX9_walk 29 = .ok (.getfield 40, 3) := by decide +kernel
theorem dX9_walk_32 : decode cX9_walk 32 = .ok (.iload_n 2, 1) := by decide +kernel
theorem dX9_walk_33 : decode cX9_walk 33 = .ok (.iaload, 1) := by decide +kernel
theorem dX9_walk_34 : decode cX9_walk 34 = .ok (.goto 4, 3) := by decide +kernel
theorem dX9_walk_37 : decode cX9_walk 37 = .ok (.iconst (-1), 1) := by decide +kernel
theorem dX9_walk_38 : decode cX9_walk 38 = .ok (.ireturn, 1) := by decide +kernel
theorem dX9_deepOf_0 : decode cX9_deepOf 0 = .ok (.iconst 0, 1) := by decide +kernel
theorem dX9_deepOf_1 : decode cX9_deepOf 1 = .ok (.istore_n 2, 1) := by decide +kernel
theorem dX9_deepOf_2 : decode cX9_deepOf 2 = .ok (.iconst 1, 1) := by decide +kernel
theorem dX9_deepOf_3 : decode cX9_deepOf 3 = .ok (.istore_n 3, 1) := by decide +kernel
theorem dX9_deepOf_4 : decode cX9_deepOf 4 = .ok (.iload_n 3, 1) := by decide +kernel
theorem dX9_deepOf_5 : decode cX9_deepOf 5 = .ok (.bipush 16, 2) := by decide +kernel
theorem dX9_deepOf_7 : decode cX9_deepOf 7 = .ok (.if_icmp .ge 57, 3) := by decide +kernel
theorem dX9_deepOf_10 : decode cX9_deepOf 10 = .ok (.iconst 0, 1) := by decide +kernel
theorem dX9_deepOf_11 : decode cX9_deepOf 11 = .ok (.istore 4, 2) := by decide +kernel
theorem dX9_deepOf_13 : decode cX9_deepOf 13 = .ok (.iload_n 3, 1) := by decide +kernel
theorem dX9_deepOf_14 : decode cX9_deepOf 14 = .ok (.istore 5, 2) := by decide +kernel
theorem dX9_deepOf_16 : decode cX9_deepOf 16 = .ok (.aload_n 0, 1) := by decide +kernel
theorem dX9_deepOf_17 : decode cX9_deepOf 17 = .ok (.iload_n 1, 1) := by decide +kernel
theorem dX9_deepOf_18 : decode cX9_deepOf 18 = .ok (.iload_n 3, 1) := by decide +kernel
theorem dX9_deepOf_19 : decode cX9_deepOf 19 = .ok (.invokevirtual 72, 3) := by decide +kernel
theorem dX9_deepOf_22 : decode cX9_deepOf 22 = .ok (.ifCond .eq 23, 3) := by decide +kernel
theorem dX9_deepOf_25 : decode cX9_deepOf 25 = .ok (.iload 5, 2) := by decide +kernel
theorem dX9_deepOf_27 : decode cX9_deepOf 27 = .ok (.ifCond .le 18, 3) := by decide +kernel
theorem dX9_deepOf_30 : decode cX9_deepOf 30 = .ok (.iinc 4 1, 3) := by decide +kernel
theorem dX9_deepOf_33 : decode cX9_deepOf 33 = .ok (.aload_n 0, 1) := by decide +kernel
theorem dX9_deepOf_34 : decode cX9_deepOf 34 = .ok (.iload_n 1, 1) := by decide +kernel
theorem dX9_deepOf_35 : decode cX9_deepOf 35 = .ok (.iload 5, 2) := by decide +kernel
theorem dX9_deepOf_37 : decode cX9_deepOf 37 = .ok (.invokevirtual 76, 3) := by decide +kernel
theorem dX9_deepOf_40 : decode cX9_deepOf 40 = .ok (.istore 5, 2) := by decide +kernel
theorem dX9_deepOf_42 : decode cX9_deepOf 42 = .ok (.goto (-26), 3) := by decide +kernel
theorem dX9_deepOf_45 : decode cX9_deepOf 45 = .ok (.iload 4, 2) := by decide +kernel
theorem dX9_deepOf_47 : decode cX9_deepOf 47 = .ok (.iload_n 2, 1) := by decide +kernel
theorem dX9_deepOf_48 : decode cX9_deepOf 48 = .ok (.if_icmp .le 8, 3) := by decide +kernel
theorem dX9_deepOf_51 : decode cX9_deepOf 51 = .ok (.iload 4, 2) := by decide +kernel
theorem dX9_deepOf_53 : decode cX9_deepOf 53 = .ok (.goto 4, 3) := by decide +kernel
theorem dX9_deepOf_56 : decode cX9_deepOf 56 = .ok (.iload_n 2, 1) := by decide +kernel
theorem dX9_deepOf_57 : decode cX9_deepOf 57 = .ok (.istore_n 2, 1) := by decide +kernel
theorem dX9_deepOf_58 : decode cX9_deepOf 58 = .ok (.iinc 3 1, 3) := by decide +kernel
theorem dX9_deepOf_61 : decode cX9_deepOf 61 = .ok (.goto (-57), 3) := by decide +kernel
theorem dX9_deepOf_64 : decode cX9_deepOf 64 = .ok (.iload_n 2, 1) := by decide +kernel
theorem dX9_deepOf_65 : decode cX9_deepOf 65 = .ok (.ireturn, 1) := by decide +kernel
theorem dX9_size_0 : decode cX9_size 0 = .ok (.aload_n 0, 1) := by decide +kernel
theorem dX9_size_1 : decode cX9_size 1 = .ok (.iload_n 1, 1) := by decide +kernel
theorem dX9_size_2 : decode cX9_size 2 = .ok (.invokevirtual 183, 3) := by decide +kernel
theorem dX9_size_5 : decode cX9_size 5 = .ok (.ifCond .eq 12, 3) := by decide +kernel
theorem dX9_size_8 : decode cX9_size 8 = .ok (.iload_n 2, 1) := by decide +kernel
theorem dX9_size_9 : decode cX9_size 9 = .ok (.iconst 0, 1) := by decide +kernel
theorem dX9_size_10 : decode cX9_size 10 = .ok (.iconst 1, 1) := by decide +kernel
theorem dX9_size_11 : decode cX9_size 11 = .ok (.invokestatic 68, 3) := by decide +kernel
theorem dX9_size_14 : decode cX9_size 14 = .ok (.ifCond .ne 10, 3) := by decide +kernel
theorem dX9_size_17 : decode cX9_size 17 = .ok (.aload_n 0, 1) := by decide +kernel
theorem dX9_size_18 : decode cX9_size 18 = .ok (.bipush (-2), 2) := by decide +kernel
theorem dX9_size_20 : decode cX9_size 20 = .ok (.invokevirtual 60, 3) := by decide +kernel
theorem dX9_size_23 : decode cX9_size 23 = .ok (.ireturn, 1) := by decide +kernel
theorem dX9_size_24 : decode cX9_size 24 = .ok (.iload_n 2, 1) := by decide +kernel
theorem dX9_size_25 : decode cX9_size 25 = .ok (.ifCond .ne 11, 3) := by decide +kernel
theorem dX9_size_28 : decode cX9_size 28 = .ok (.aload_n 0, 1) := by decide +kernel
theorem dX9_size_29 : decode cX9_size 29 = .ok (.iload_n 1, 1) := by decide +kernel
theorem dX9_size_30 : decode cX9_size 30 = .ok (.invokevirtual 112, 3) := by decide +kernel
theorem dX9_size_33 : decode cX9_size 33 = .ok (.goto 8, 3) := by decide +kernel
theorem dX9_size_36 : decode cX9_size 36 = .ok (.aload_n 0, 1) := by decide +kernel
theorem dX9_size_37 : decode cX9_size 37 = .ok (.iload_n 1, 1) := by decide +kernel
theorem dX9_size_38 : decode cX9_size 38 = .ok (.invokevirtual 193, 3) := by decide +kernel
theorem dX9_size_41 : decode cX9_size 41 = .ok (.ireturn, 1) := by decide +kernel
theorem dX9_alike_0 : decode cX9_alike 0 = .ok (.aload_n 0, 1) := by decide +kernel
theorem dX9_alike_1 : decode cX9_alike 1 = .ok (.iload_n 1, 1) := by decide +kernel
theorem dX9_alike_2 : decode cX9_alike 2 = .ok (.invokevirtual 183, 3) := by decide +kernel
theorem dX9_alike_5 : decode cX9_alike 5 = .ok (.ifCond .eq 11, 3) := by decide +kernel
theorem dX9_alike_8 : decode cX9_alike 8 = .ok (.aload_n 0, 1) := by decide +kernel
theorem dX9_alike_9 : decode cX9_alike 9 = .ok (.iload_n 2, 1) := by decide +kernel
theorem dX9_alike_10 : decode cX9_alike 10 = .ok (.invokevirtual 183, 3) := by decide +kernel
theorem dX9_alike_13 : decode cX9_alike 13 = .ok (.ifCond .ne 10, 3) := by decide +kernel
theorem dX9_alike_16 : decode cX9_alike 16 = .ok (.aload_n 0, 1) := by decide +kernel
theorem dX9_alike_17 : decode cX9_alike 17 = .ok (.bipush (-2), 2) := by decide +kernel
theorem dX9_alike_19 : decode cX9_alike 19 = .ok (.invokevirtual 60, 3) := by decide +kernel
theorem dX9_alike_22 : decode cX9_alike 22 = .ok (.ireturn, 1) := by decide +kernel
theorem dX9_alike_23 : decode cX9_alike 23 = .ok (.iconst 0, 1) := by decide +kernel
theorem dX9_alike_24 : decode cX9_alike 24 = .ok (.istore_n 3, 1) := by decide +kernel
theorem dX9_alike_25 : decode cX9_alike 25 = .ok (.iconst 0, 1) := by decide +kernel
theorem dX9_alike_26 : decode cX9_alike 26 = .ok (.istore 4, 2) := by decide +kernel
theorem dX9_alike_28 : decode cX9_alike 28 = .ok (.iload 4, 2) := by decide +kernel
theorem dX9_alike_30 : decode cX9_alike 30 = .ok (.bipush 16, 2) := by decide +kernel
theorem dX9_alike_32 : decode cX9_alike 32 = .ok (.if_icmp .ge 107, 3) := by decide +kernel
theorem dX9_alike_35 : decode cX9_alike 35 = .ok (.aload_n 0, 1) := by decide +kernel
theorem dX9_alike_36 : decode cX9_alike 36 = .ok (.iload_n 1, 1) := by decide +kernel
theorem dX9_alike_37 : decode cX9_alike 37 = .ok (.iload 4, 2) := by decide +kernel
theorem dX9_alike_39 : decode cX9_alike 39 = .ok (.invokevirtual 72, 3) := by decide +kernel
theorem dX9_alike_42 : decode cX9_alike 42 = .ok (.ifCond .eq 41, 3) := by decide +kernel
theorem dX9_alike_45 : decode cX9_alike 45 = .ok (.aload_n 0, 1) := by decide +kernel
theorem dX9_alike_46 : decode cX9_alike 46 = .ok (.iload_n 1, 1) := by decide +kernel
theorem dX9_alike_47 : decode cX9_alike 47 = .ok (.iload 4, 2) := by decide +kernel
theorem dX9_alike_49 : decode cX9_alike 49 = .ok (.invokevirtual 76, 3) := by decide +kernel
theorem dX9_alike_52 : decode cX9_alike 52 = .ok (.aload_n 0, 1) := by decide +kernel
theorem dX9_alike_53 : decode cX9_alike 53 = .ok (.iload_n 2, 1) := by decide +kernel
theorem dX9_alike_54 : decode cX9_alike 54 = .ok (.iload 4, 2) := by decide +kernel
theorem dX9_alike_56 : decode cX9_alike 56 = .ok (.invokevirtual 76, 3) := by decide +kernel
theorem dX9_alike_59 : decode cX9_alike 59 = .ok (.if_icmp .ne 24, 3) := by decide +kernel
theorem dX9_alike_62 : decode cX9_alike 62 = .ok (.aload_n 0, 1) := by decide +kernel
theorem dX9_alike_63 : decode cX9_alike 63 = .ok (.iload_n 1, 1) := by decide +kernel
theorem dX9_alike_64 : decode cX9_alike 64 = .ok (.iload 4, 2) := by decide +kernel
theorem dX9_alike_66 : decode cX9_alike 66 = .ok (.invokevirtual 80, 3) := by decide +kernel
theorem dX9_alike_69 : decode cX9_alike 69 = .ok (.aload_n 0, 1) := by decide +kernel
theorem dX9_alike_70 : decode cX9_alike 70 = .ok (.iload_n 2, 1) := by decide +kernel
theorem dX9_alike_71 : decode cX9_alike 71 = .ok (.iload 4, 2) := by decide +kernel
theorem dX9_alike_73 : decode cX9_alike 73 = .ok (.invokevirtual 80, 3) := by decide +kernel
theorem dX9_alike_76 : decode cX9_alike 76 = .ok (.if_icmp .ne 7, 3) := by decide +kernel
theorem dX9_alike_79 : decode cX9_alike 79 = .ok (.iconst 1, 1) := by decide +kernel
