theorem dX0_init_0 : decode cX0_init 0 = .ok (.aload_n 0, 1) := by decide +kernel
theorem dX0_init_1 : decode cX0_init 1 = .ok (.invokespecial 3, 3) := by decide +kernel
theorem dX0_init_4 : decode cX0_init 4 = .ok (.aload_n 0, 1) := by decide +kernel
theorem dX0_init_5 : decode cX0_init 5 = .ok (.new 9, 3) := by decide +kernel
theorem dX0_init_8 : decode cX0_init 8 = .ok (.dup, 1) := by decide +kernel
theorem dX0_init_9 : decode cX0_init 9 = .ok (.invokespecial 11, 3) := by decide +kernel
theorem dX0_init_12 : decode cX0_init 12 = .ok (.putfield 12, 3) := by decide +kernel
theorem dX0_init_15 : decode cX0_init 15 = .ok (.aload_n 0, 1) := by decide +kernel
theorem dX0_init_16 : decode cX0_init 16 = .ok (.new 9, 3) := by decide +kernel
theorem dX0_init_19 : decode cX0_init 19 = .ok (.dup, 1) := by decide +kernel
theorem dX0_init_20 : decode cX0_init 20 = .ok (.invokespecial 11, 3) := by decide +kernel
theorem dX0_init_23 : decode cX0_init 23 = .ok (.putfield 18, 3) := by decide +kernel
theorem dX0_init_26 : decode cX0_init 26 = .ok (.aload_n 0, 1) := by decide +kernel
theorem dX0_init_27 : decode cX0_init 27 = .ok (.new 9, 3) := by decide +kernel
theorem dX0_init_30 : decode cX0_init 30 = .ok (.dup, 1) := by decide +kernel
theorem dX0_init_31 : decode cX0_init 31 = .ok (.invokespecial 11, 3) := by decide +kernel
theorem dX0_init_34 : decode cX0_init 34 = .ok (.putfield 21, 3) := by decide +kernel
theorem dX0_init_37 : decode cX0_init 37 = .ok (.aload_n 0, 1) := by decide +kernel
theorem dX0_init_38 : decode cX0_init 38 = .ok (.iconst 1, 1) := by decide +kernel
theorem dX0_init_39 : decode cX0_init 39 = .ok (.putfield 24, 3) := by decide +kernel
theorem dX0_init_42 : decode cX0_init 42 = .ok (.aload_n 0, 1) := by decide +kernel
theorem dX0_init_43 : decode cX0_init 43 = .ok (.iconst 1, 1) := by decide +kernel
theorem dX0_init_44 : decode cX0_init 44 = .ok (.putfield 28, 3) := by decide +kernel
theorem dX0_init_47 : decode cX0_init 47 = .ok (.return_, 1) := by decide +kernel
theorem dX0_copyFrom_0 : decode cX0_copyFrom 0 = .ok (.aload_n 0, 1) := by decide +kernel
theorem dX0_copyFrom_1 : decode cX0_copyFrom 1 = .ok (.getfield 12, 3) := by decide +kernel
theorem dX0_copyFrom_4 : decode cX0_copyFrom 4 = .ok (.aload_n 1, 1) := by decide +kernel
theorem dX0_copyFrom_5 : decode cX0_copyFrom 5 = .ok (.getfield 12, 3) := by decide +kernel
theorem dX0_copyFrom_8 : decode cX0_copyFrom 8 = .ok (.invokevirtual 31, 3) := by decide +kernel
theorem dX0_copyFrom_11 : decode cX0_copyFrom 11 = .ok (.aload_n 0, 1) := by decide +kernel
theorem dX0_copyFrom_12 : decode cX0_copyFrom 12 = .ok (.getfield 18, 3) := by decide +kernel
theorem dX0_copyFrom_15 : decode cX0_copyFrom 15 = .ok (.aload_n 1, 1) := by decide +kernel
theorem dX0_copyFrom_16 : decode cX0_copyFrom 16 = .ok (.getfield 18, 3) := by decide +kernel
theorem dX0_copyFrom_19 : decode cX0_copyFrom 19 = .ok (.invokevirtual 31, 3) := by decide +kernel
theorem dX0_copyFrom_22 : decode cX0_copyFrom 22 = .ok (.aload_n 0, 1) := by decide +kernel
theorem dX0_copyFrom_23 : decode cX0_copyFrom 23 = .ok (.getfield 21, 3) := by decide +kernel
theorem dX0_copyFrom_26 : decode cX0_copyFrom 26 = .ok (.aload_n 1, 1) := by decide +kernel
theorem dX0_copyFrom_27 : decode cX0_copyFrom 27 = .ok (.getfield 21, 3) := by decide +kernel
theorem dX0_copyFrom_30 : decode cX0_copyFrom 30 = .ok (.invokevirtual 31, 3) := by decide +kernel
theorem dX0_copyFrom_33 : decode cX0_copyFrom 33 = .ok (.aload_n 0, 1) := by decide +kernel
theorem dX0_copyFrom_34 : decode cX0_copyFrom 34 = .ok (.aload_n 1, 1) := by decide +kernel
theorem dX0_copyFrom_35 : decode cX0_copyFrom 35 = .ok (.getfield 24, 3) := by decide +kernel
theorem dX0_copyFrom_38 : decode cX0_copyFrom 38 = .ok (.putfield 24, 3) := by decide +kernel
theorem dX0_copyFrom_41 : decode cX0_copyFrom 41 = .ok (.aload_n 0, 1) := by decide +kernel
theorem dX0_copyFrom_42 : decode cX0_copyFrom 42 = .ok (.aload_n 1, 1) := by decide +kernel
theorem dX0_copyFrom_43 : decode cX0_copyFrom 43 = .ok (.getfield 28, 3) := by decide +kernel
theorem dX0_copyFrom_46 : decode cX0_copyFrom 46 = .ok (.putfield 28, 3) := by decide +kernel
theorem dX0_copyFrom_49 : decode cX0_copyFrom 49 = .ok (.return_, 1) := by decide +kernel
theorem dX0_outline_0 : decode cX0_outline 0 = .ok (.iload_n 1, 1) := by decide +kernel
theorem dX0_outline_1 : decode cX0_outline 1 = .ok (.iconst 1, 1) := by decide +kernel
theorem dX0_outline_2 : decode cX0_outline 2 = .ok (.if_icmp .ne 8, 3) := by decide +kernel
theorem dX0_outline_5 : decode cX0_outline 5 = .ok (.aload_n 0, 1) := by decide +kernel
theorem dX0_outline_6 : decode cX0_outline 6 = .ok (.getfield 18, 3) := by decide +kernel
theorem dX0_outline_9 : decode cX0_outline 9 = .ok (.areturn, 1) := by decide +kernel
theorem dX0_outline_10 : decode cX0_outline 10 = .ok (.iload_n 1, 1) := by decide +kernel
theorem dX0_outline_11 : decode cX0_outline 11 = .ok (.iconst 2, 1) := by decide +kernel
theorem dX0_outline_12 : decode cX0_outline 12 = .ok (.if_icmp .ne 10, 3) := by decide +kernel
theorem dX0_outline_15 : decode cX0_outline 15 = .ok (.aload_n 0, 1) := by decide +kernel
theorem dX0_outline_16 : decode cX0_outline 16 = .ok (.getfield 21, 3) := by decide +kernel
theorem dX0_outline_19 : decode cX0_outline 19 = .ok (.goto 7, 3) := by decide +kernel
theorem dX0_outline_22 : decode cX0_outline 22 = .ok (.aload_n 0, 1) := by decide +kernel
theorem dX0_outline_23 : decode cX0_outline 23 = .ok (.getfield 12, 3) := by decide +kernel
theorem dX0_outline_26 : decode cX0_outline 26 = .ok (.areturn, 1) := by decide +kernel
theorem dX0_preferredSide_0 : decode cX0_preferredSide 0 = .ok (.aload_n 0, 1) := by decide +kernel
theorem dX0_preferredSide_1 : decode cX0_preferredSide 1 = .ok (.getfield 24, 3) := by decide +kernel
theorem dX0_preferredSide_4 : decode cX0_preferredSide 4 = .ok (.iconst 2, 1) := by decide +kernel
theorem dX0_preferredSide_5 : decode cX0_preferredSide 5 = .ok (.if_icmp .ne 10, 3) := by decide +kernel
theorem dX0_preferredSide_8 : decode cX0_preferredSide 8 = .ok (.aload_n 0, 1) := by decide +kernel
theorem dX0_preferredSide_9 : decode cX0_preferredSide 9 = .ok (.getfield 21, 3) := by decide +kernel
theorem dX0_preferredSide_12 : decode cX0_preferredSide 12 = .ok (.goto 7, 3) := by decide +kernel
theorem dX0_preferredSide_15 : decode cX0_preferredSide 15 = .ok (.aload_n 0, 1) := by decide +kernel
theorem dX0_preferredSide_16 : decode cX0_preferredSide 16 = .ok (.getfield 18, 3) := by decide +kernel
theorem dX0_preferredSide_19 : decode cX0_preferredSide 19 = .ok (.areturn, 1) := by decide +kernel
theorem dX0_otherSide_0 : decode cX0_otherSide 0 = .ok (.aload_n 0, 1) := by decide +kernel
theorem dX0_otherSide_1 : decode cX0_otherSide 1 = .ok (.getfield 24, 3) := by decide +kernel
theorem dX0_otherSide_4 : decode cX0_otherSide 4 = .ok (.iconst 2, 1) := by decide +kernel
theorem dX0_otherSide_5 : decode cX0_otherSide 5 = .ok (.if_icmp .ne 10, 3) := by decide +kernel
theorem dX0_otherSide_8 : decode cX0_otherSide 8 = .ok (.aload_n 0, 1) := by decide +kernel
theorem dX0_otherSide_9 : decode cX0_otherSide 9 = .ok (.getfield 18, 3) := by decide +kernel
theorem dX0_otherSide_12 : decode cX0_otherSide 12 = .ok (.goto 7, 3) := by decide +kernel
theorem dX0_otherSide_15 : decode cX0_otherSide 15 = .ok (.aload_n 0, 1) := by decide +kernel
theorem dX0_otherSide_16 : decode cX0_otherSide 16 = .ok (.getfield 21, 3) := by decide +kernel
theorem dX0_otherSide_19 : decode cX0_otherSide 19 = .ok (.areturn, 1) := by decide +kernel
theorem dX0_add_0 : decode cX0_add 0 = .ok (.iload_n 1, 1) := by decide +kernel
theorem dX0_add_1 : decode cX0_add 1 = .ok (.invokestatic 35, 3) := by decide +kernel
theorem dX0_add_4 : decode cX0_add 4 = .ok (.ifCond .eq 19, 3) := by decide +kernel
theorem dX0_add_7 : decode cX0_add 7 = .ok (.iload 4, 2) := by decide +kernel
theorem dX0_add_9 : decode cX0_add 9 = .ok (.invokestatic 39, 3) := by decide +kernel
theorem dX0_add_12 : decode cX0_add 12 = .ok (.ifCond .eq 11, 3) := by decide +kernel
theorem dX0_add_15 : decode cX0_add 15 = .ok (.iload 5, 2) := by decide +kernel
theorem dX0_add_17 : decode cX0_add 17 = .ok (.invokestatic 39, 3) := by decide +kernel
theorem dX0_add_20 : decode cX0_add 20 = .ok (.ifCond .ne 6, 3) := by decide +kernel
theorem dX0_add_23 : decode cX0_add 23 = .ok (.bipush (-2), 2) := by decide +kernel
theorem dX0_add_25 : decode cX0_add 25 = .ok (.ireturn, 1) := by decide +kernel
theorem dX0_add_26 : decode cX0_add 26 = .ok (.aload_n 0, 1) := by decide +kernel
theorem dX0_add_27 : decode cX0_add 27 = .ok (.iload_n 1, 1) := by decide +kernel
theorem dX0_add_28 : decode cX0_add 28 = .ok (.invokevirtual 42, 3) := by decide +kernel
theorem dX0_add_31 : decode cX0_add 31 = .ok (.astore 6, 2) := by decide +kernel
theorem dX0_add_33 : decode cX0_add 33 = .ok (.aload 6, 2) := by decide +kernel
theorem dX0_add_35 : decode cX0_add 35 = .ok (.iload_n 2, 1) := by decide +kernel
theorem dX0_add_36 : decode cX0_add 36 = .ok (.invokevirtual 46, 3) := by decide +kernel
theorem dX0_add_39 : decode cX0_add 39 = .ok (.ifCond .eq 17, 3) := by decide +kernel
theorem dX0_add_42 : decode cX0_add 42 = .ok (.iload_n 3, 1) := by decide +kernel
theorem dX0_add_43 : decode cX0_add 43 = .ok (.ifCond .lt 13, 3) := by decide +kernel
theorem dX0_add_46 : decode cX0_add 46 = .ok (.iload_n 3, 1) := by decide +kernel
theorem dX0_add_47 : decode cX0_add 47 = .ok (.aload 6, 2) := by decide +kernel
theorem dX0_add_49 : decode cX0_add 49 = .ok (.iload_n 2, 1) := by decide +kernel
theorem dX0_add_50 : decode cX0_add 50 = .ok (.invokevirtual 49, 3) := by decide +kernel
theorem dX0_add_53 : decode cX0_add 53 = .ok (.if_icmp .le 6, 3) := by decide +kernel
theorem dX0_add_56 : decode cX0_add 56 = .ok (.bipush (-2), 2) := by decide +kernel
theorem dX0_add_58 : decode cX0_add 58 = .ok (.ireturn, 1) := by decide +kernel
theorem dX0_add_59 : decode cX0_add 59 = .ok (.aload_n 0, 1) := by decide +kernel
theorem dX0_add_60 : decode cX0_add 60 = .ok (.getfield 28, 3) := by decide +kernel
theorem dX0_add_63 : decode cX0_add 63 = .ok (.bipush 16, 2) := by decide +kernel
theorem dX0_add_65 : decode cX0_add 65 = .ok (.if_icmp .lt 6, 3) := by decide +kernel
theorem dX0_add_68 : decode cX0_add 68 = .ok (.bipush (-4), 2) := by decide +kernel
theorem dX0_add_70 : decode cX0_add 70 = .ok (.ireturn, 1) := by decide +kernel
theorem dX0_add_71 : decode cX0_add 71 = .ok (.aload_n 0, 1) := by decide +kernel
theorem dX0_add_72 : decode cX0_add 72 = .ok (.getfield 28, 3) := by decide +kernel
theorem dX0_add_75 : decode cX0_add 75 = .ok (.istore 7, 2) := by decide +kernel
theorem dX0_add_77 : decode cX0_add 77 = .ok (.aload_n 0, 1) := by decide +kernel
theorem dX0_add_78 : decode cX0_add 78 = .ok (.dup, 1) := by decide +kernel
theorem dX0_add_79 : decode cX0_add 79 = .ok (.getfield 28, 3) := by decide +kernel
theorem dX0_add_82 : decode cX0_add 82 = .ok (.iconst 1, 1) := by decide +kernel
theorem dX0_add_83 : decode cX0_add 83 = .ok (.iadd, 1) := by decide +kernel
theorem dX0_add_84 : decode cX0_add 84 = .ok (.putfield 28, 3) := by decide +kernel
theorem dX0_add_87 : decode cX0_add 87 = .ok (.aload 6, 2) := by decide +kernel
theorem dX0_add_89 : decode cX0_add 89 = .ok (.iload 7, 2) := by decide +kernel
theorem dX0_add_91 : decode cX0_add 91 = .ok (.iload_n 2, 1) := by decide +kernel
theorem dX0_add_92 : decode cX0_add 92 = .ok (.iload_n 3, 1) := by decide +kernel
theorem dX0_add_93 : decode cX0_add 93 = .ok (.invokevirtual 53, 3) := by decide +kernel
theorem dX0_add_96 : decode cX0_add 96 = .ok (.aload 6, 2) := by decide +kernel
theorem dX0_add_98 : decode cX0_add 98 = .ok (.iload 7, 2) := by decide +kernel
theorem dX0_add_100 : decode cX0_add 100 = .ok (.iconst 2, 1) := by decide +kernel
theorem dX0_add_101 : decode cX0_add 101 = .ok (.iload 4, 2) := by decide +kernel
theorem dX0_add_103 : decode cX0_add 103 = .ok (.invokevirtual 57, 3) := by decide +kernel
theorem dX0_add_106 : decode cX0_add 106 = .ok (.aload 6, 2) := by decide +kernel
theorem dX0_add_108 : decode cX0_add 108 = .ok (.iload 7, 2) := by decide +kernel
theorem dX0_add_110 : decode cX0_add 110 = .ok (.iconst 3, 1) := by decide +kernel
theorem dX0_add_111 : decode cX0_add 111 = .ok (.iload 5, 2) := by decide +kernel
theorem dX0_add_113 : decode cX0_add 113 = .ok (.invokevirtual 57, 3) := by decide +kernel
theorem dX0_add_116 : decode cX0_add 116 = .ok (.iload 7, 2) := by decide +kernel
theorem dX0_add_118 : decode cX0_add 118 = .ok (.ireturn, 1) := by decide +kernel
theorem dX0_move_0 : decode cX0_move 0 = .ok (.iload_n 1, 1) := by decide +kernel
theorem dX0_move_1 : decode cX0_move 1 = .ok (.invokestatic 35, 3) := by decide +kernel
theorem dX0_move_4 : decode cX0_move 4 = .ok (.ifCond .eq 7, 3) := by decide +kernel
theorem dX0_move_7 : decode cX0_move 7 = .ok (.iload_n 2, 1) := by decide +kernel
theorem dX0_move_8 : decode cX0_move 8 = .ok (.ifCond .ne 6, 3) := by decide +kernel
theorem dX0_move_11 : decode cX0_move 11 = .ok (.bipush (-2), 2) := by decide +kernel
theorem dX0_move_13 : decode cX0_move 13 = .ok (.ireturn, 1) := by decide +kernel
theorem dX0_move_14 : decode cX0_move 14 = .ok (.aload_n 0, 1) := by decide +kernel
theorem dX0_move_15 : decode cX0_move 15 = .ok (.iload_n 1, 1) := by decide +kernel
theorem dX0_move_16 : decode cX0_move 16 = .ok (.invokevirtual 42, 3) := by decide +kernel
theorem dX0_move_19 : decode cX0_move 19 = .ok (.astore 5, 2) := by decide +kernel
theorem dX0_move_21 : decode cX0_move 21 = .ok (.aload 5, 2) := by decide +kernel
theorem dX0_move_23 : decode cX0_move 23 = .ok (.iload_n 2, 1) := by decide +kernel
theorem dX0_move_24 : decode cX0_move 24 = .ok (.invokevirtual 46, 3) := by decide +kernel
theorem dX0_move_27 : decode cX0_move 27 = .ok (.ifCond .eq 12, 3) := by decide +kernel
theorem dX0_move_30 : decode cX0_move 30 = .ok (.aload 5, 2) := by decide +kernel
theorem dX0_move_32 : decode cX0_move 32 = .ok (.iload_n 3, 1) := by decide +kernel
theorem dX0_move_33 : decode cX0_move 33 = .ok (.invokevirtual 46, 3) := by decide +kernel
theorem dX0_move_36 : decode cX0_move 36 = .ok (.ifCond .ne 6, 3) := by decide +kernel
theorem dX0_move_39 : decode cX0_move 39 = .ok (.bipush (-2), 2) := by decide +kernel
theorem dX0_move_41 : decode cX0_move 41 = .ok (.ireturn, 1) := by decide +kernel
theorem dX0_move_42 : decode cX0_move 42 = .ok (.aload 5, 2) := by decide +kernel
theorem dX0_move_44 : decode cX0_move 44 = .ok (.iload_n 3, 1) := by decide +kernel
theorem dX0_move_45 : decode cX0_move 45 = .ok (.invokevirtual 49, 3) := by decide +kernel
theorem dX0_move_48 : decode cX0_move 48 = .ok (.aload 5, 2) := by decide +kernel
theorem dX0_move_50 : decode cX0_move 50 = .ok (.iload_n 2, 1) := by decide +kernel
theorem dX0_move_51 : decode cX0_move 51 = .ok (.iload_n 3, 1) := by decide +kernel
theorem dX0_move_52 : decode cX0_move 52 = .ok (.invokevirtual 60, 3) := by decide +kernel
theorem dX0_move_55 : decode cX0_move 55 = .ok (.ifCond .eq 7, 3) := by decide +kernel
theorem dX0_move_58 : decode cX0_move 58 = .ok (.iconst 1, 1) := by decide +kernel
theorem dX0_move_59 : decode cX0_move 59 = .ok (.goto 4, 3) := by decide +kernel
theorem dX0_move_62 : decode cX0_move 62 = .ok (.iconst 0, 1) := by decide +kernel
theorem dX0_move_63 : decode cX0_move 63 = .ok (.isub, 1) := by decide +kernel
theorem dX0_move_64 : decode cX0_move 64 = .ok (.istore 6, 2) := by decide +kernel
theorem dX0_move_66 : decode cX0_move 66 = .ok (.iload 4, 2) := by decide +kernel
theorem dX0_move_68 : decode cX0_move 68 = .ok (.ifCond .lt 10, 3) := by decide +kernel
theorem dX0_move_71 : decode cX0_move 71 = .ok (.iload 4, 2) := by decide +kernel
theorem dX0_move_73 : decode cX0_move 73 = .ok (.iload 6, 2) := by decide +kernel
theorem dX0_move_75 : decode cX0_move 75 = .ok (.if_icmp .le 6, 3) := by decide +kernel
theorem dX0_move_78 : decode cX0_move 78 = .ok (.bipush (-2), 2) := by decide +kernel
theorem dX0_move_80 : decode cX0_move 80 = .ok (.ireturn, 1) := by decide +kernel
theorem dX0_move_81 : decode cX0_move 81 = .ok (.aload 5, 2) := by decide +kernel
theorem dX0_move_83 : decode cX0_move 83 = .ok (.iload_n 3, 1) := by decide +kernel
theorem dX0_move_84 : decode cX0_move 84 = .ok (.iload_n 2, 1) := by decide +kernel
theorem dX0_move_85 : decode cX0_move 85 = .ok (.invokevirtual 64, 3) := by decide +kernel
theorem dX0_move_88 : decode cX0_move 88 = .ok (.ifCond .eq 6, 3) := by decide +kernel
theorem dX0_move_91 : decode cX0_move 91 = .ok (.bipush (-3), 2) := by decide +kernel
theorem dX0_move_93 : decode cX0_move 93 = .ok (.ireturn, 1) := by decide +kernel
theorem dX0_move_94 : decode cX0_move 94 = .ok (.aload 5, 2) := by decide +kernel
theorem dX0_move_96 : decode cX0_move 96 = .ok (.iload_n 2, 1) := by decide +kernel
theorem dX0_move_97 : decode cX0_move 97 = .ok (.iconst 1, 1) := by decide +kernel
theorem dX0_move_98 : decode cX0_move 98 = .ok (.invokevirtual 67, 3) := by decide +kernel
theorem dX0_move_101 : decode cX0_move 101 = .ok (.istore 7, 2) := by decide +kernel
theorem dX0_move_103 : decode cX0_move 103 = .ok (.aload 5, 2) := by decide +kernel
theorem dX0_move_105 : decode cX0_move 105 = .ok (.iload_n 2, 1) := by decide +kernel
theorem dX0_move_106 : decode cX0_move 106 = .ok (.invokevirtual 71, 3) := by decide +kernel
theorem dX0_move_109 : decode cX0_move 109 = .ok (.aload 5, 2) := by decide +kernel
theorem dX0_move_111 : decode cX0_move 111 = .ok (.iload_n 2, 1) := by decide +kernel
theorem dX0_move_112 : decode cX0_move 112 = .ok (.iload_n 3, 1) := by decide +kernel
theorem dX0_move_113 : decode cX0_move 113 = .ok (.iload 4, 2) := by decide +kernel
theorem dX0_move_115 : decode cX0_move 115 = .ok (.invokevirtual 53, 3) := by decide +kernel
theorem dX0_move_118 : decode cX0_move 118 = .ok (.iload 7, 2) := by decide +kernel
theorem dX0_move_120 : decode cX0_move 120 = .ok (.ireturn, 1) := by decide +kernel
theorem dX0_retell_0 : decode cX0_retell 0 = .ok (.iload_n 1, 1) := by decide +kernel
theorem dX0_retell_1 : decode cX0_retell 1 = .ok (.invokestatic 35, 3) := by decide +kernel
theorem dX0_retell_4 : decode cX0_retell 4 = .ok (.ifCond .eq 11, 3) := by decide +kernel
theorem dX0_retell_7 : decode cX0_retell 7 = .ok (.iload 4, 2) := by decide +kernel
theorem dX0_retell_9 : decode cX0_retell 9 = .ok (.invokestatic 39, 3) := by decide +kernel
theorem dX0_retell_12 : decode cX0_retell 12 = .ok (.ifCond .ne 6, 3) := by decide +kernel
theorem dX0_retell_15 : decode cX0_retell 15 = .ok (.bipush (-2), 2) := by decide +kernel
theorem dX0_retell_17 : decode cX0_retell 17 = .ok (.ireturn, 1) := by decide +kernel
theorem dX0_retell_18 : decode cX0_retell 18 = .ok (.aload_n 0, 1) := by decide +kernel
theorem dX0_retell_19 : decode cX0_retell 19 = .ok (.iload_n 1, 1) := by decide +kernel
theorem dX0_retell_20 : decode cX0_retell 20 = .ok (.invokevirtual 42, 3) := by decide +kernel
theorem dX0_retell_23 : decode cX0_retell 23 = .ok (.astore 5, 2) := by decide +kernel
theorem dX0_retell_25 : decode cX0_retell 25 = .ok (.aload 5, 2) := by decide +kernel
theorem dX0_retell_27 : decode cX0_retell 27 = .ok (.iload_n 2, 1) := by decide +kernel
theorem dX0_retell_28 : decode cX0_retell 28 = .ok (.invokevirtual 46, 3) := by decide +kernel
theorem dX0_retell_31 : decode cX0_retell 31 = .ok (.ifCond .ne 6, 3) := by decide +kernel
theorem dX0_retell_34 : decode cX0_retell 34 = .ok (.bipush (-2), 2) := by decide +kernel
theorem dX0_retell_36 : decode cX0_retell 36 = .ok (.ireturn, 1) := by decide +kernel
theorem dX0_retell_37 : decode cX0_retell 37 = .ok (.aload 5, 2) := by decide +kernel
theorem dX0_retell_39 : decode cX0_retell 39 = .ok (.iload_n 2, 1) := by decide +kernel
theorem dX0_retell_40 : decode cX0_retell 40 = .ok (.iload_n 3, 1) := by decide +kernel
theorem dX0_retell_41 : decode cX0_retell 41 = .ok (.invokevirtual 67, 3) := by decide +kernel
theorem dX0_retell_44 : decode cX0_retell 44 = .ok (.istore 6, 2) := by decide +kernel
theorem dX0_retell_46 : decode cX0_retell 46 = .ok (.aload 5, 2) := by decide +kernel
theorem dX0_retell_48 : decode cX0_retell 48 = .ok (.iload_n 2, 1) := by decide +kernel
theorem dX0_retell_49 : decode cX0_retell 49 = .ok (.iload_n 3, 1) := by decide +kernel
theorem dX0_retell_50 : decode cX0_retell 50 = .ok (.iload 4, 2) := by decide +kernel
theorem dX0_retell_52 : decode cX0_retell 52 = .ok (.invokevirtual 57, 3) := by decide +kernel
theorem dX0_retell_55 : decode cX0_retell 55 = .ok (.iload 6, 2) := by decide +kernel
theorem dX0_retell_57 : decode cX0_retell 57 = .ok (.ireturn, 1) := by decide +kernel
theorem dX0_delete_0 : decode cX0_delete 0 = .ok (.iload_n 1, 1) := by decide +kernel
theorem dX0_delete_1 : decode cX0_delete 1 = .ok (.invokestatic 35, 3) := by decide +kernel
theorem dX0_delete_4 : decode cX0_delete 4 = .ok (.ifCond .eq 19, 3) := by decide +kernel
theorem dX0_delete_7 : decode cX0_delete 7 = .ok (.iload_n 2, 1) := by decide +kernel
theorem dX0_delete_8 : decode cX0_delete 8 = .ok (.ifCond .eq 15, 3) := by decide +kernel
theorem dX0_delete_11 : decode cX0_delete 11 = .ok (.aload_n 0, 1) := by decide +kernel
theorem dX0_delete_12 : decode cX0_delete 12 = .ok (.iload_n 1, 1) := by decide +kernel
theorem dX0_delete_13 : decode cX0_delete 13 = .ok (.invokevirtual 42, 3) := by decide +kernel
theorem dX0_delete_16 : decode cX0_delete 16 = .ok (.iload_n 2, 1) := by decide +kernel
theorem dX0_delete_17 : decode cX0_delete 17 = .ok (.invokevirtual 46, 3) := by decide +kernel
theorem dX0_delete_20 : decode cX0_delete 20 = .ok (.ifCond .ne 6, 3) := by decide +kernel
theorem dX0_delete_23 : decode cX0_delete 23 = .ok (.bipush (-2), 2) := by decide +kernel
theorem dX0_delete_25 : decode cX0_delete 25 = .ok (.ireturn, 1) := by decide +kernel
theorem dX0_delete_26 : decode cX0_delete 26 = .ok (.aload_n 0, 1) := by decide +kernel
theorem dX0_delete_27 : decode cX0_delete 27 = .ok (.iload_n 1, 1) := by decide +kernel
theorem dX0_delete_28 : decode cX0_delete 28 = .ok (.invokevirtual 42, 3) := by decide +kernel
theorem dX0_delete_31 : decode cX0_delete 31 = .ok (.iload_n 2, 1) := by decide +kernel
theorem dX0_delete_32 : decode cX0_delete 32 = .ok (.invokevirtual 75, 3) := by decide +kernel
theorem dX0_delete_35 : decode cX0_delete 35 = .ok (.ireturn, 1) := by decide +kernel
theorem dX0_fork_0 : decode cX0_fork 0 = .ok (.aload_n 0, 1) := by decide +kernel
theorem dX0_fork_1 : decode cX0_fork 1 = .ok (.getfield 18, 3) := by decide +kernel
theorem dX0_fork_4 : decode cX0_fork 4 = .ok (.aload_n 0, 1) := by decide +kernel
theorem dX0_fork_5 : decode cX0_fork 5 = .ok (.getfield 12, 3) := by decide +kernel
theorem dX0_fork_8 : decode cX0_fork 8 = .ok (.invokevirtual 31, 3) := by decide +kernel
theorem dX0_fork_11 : decode cX0_fork 11 = .ok (.aload_n 0, 1) := by decide +kernel
theorem dX0_fork_12 : decode cX0_fork 12 = .ok (.getfield 21, 3) := by decide +kernel
theorem dX0_fork_15 : decode cX0_fork 15 = .ok (.aload_n 0, 1) := by decide +kernel
theorem dX0_fork_16 : decode cX0_fork 16 = .ok (.getfield 12, 3) := by decide +kernel
theorem dX0_fork_19 : decode cX0_fork 19 = .ok (.invokevirtual 31, 3) := by decide +kernel
theorem dX0_fork_22 : decode cX0_fork 22 = .ok (.aload_n 0, 1) := by decide +kernel
theorem dX0_fork_23 : decode cX0_fork 23 = .ok (.getfield 12, 3) := by decide +kernel
theorem dX0_fork_26 : decode cX0_fork 26 = .ok (.invokevirtual 78, 3) := by decide +kernel
theorem dX0_fork_29 : decode cX0_fork 29 = .ok (.ireturn, 1) := by decide +kernel
theorem dX0_prefer_0 : decode cX0_prefer 0 = .ok (.iload_n 1, 1) := by decide +kernel
theorem dX0_prefer_1 : decode cX0_prefer 1 = .ok (.invokestatic 82, 3) := by decide +kernel
theorem dX0_prefer_4 : decode cX0_prefer 4 = .ok (.ifCond .ne 6, 3) := by decide +kernel
theorem dX0_prefer_7 : decode cX0_prefer 7 = .ok (.bipush (-2), 2) := by decide +kernel
theorem dX0_prefer_9 : decode cX0_prefer 9 = .ok (.ireturn, 1) := by decide +kernel
theorem dX0_prefer_10 : decode cX0_prefer 10 = .ok (.aload_n 0, 1) := by decide +kernel
theorem dX0_prefer_11 : decode cX0_prefer 11 = .ok (.getfield 24, 3) := by decide +kernel
theorem dX0_prefer_14 : decode cX0_prefer 14 = .ok (.istore_n 2, 1) := by decide +kernel
theorem dX0_prefer_15 : decode cX0_prefer 15 = .ok (.aload_n 0, 1) := by decide +kernel
theorem dX0_prefer_16 : decode cX0_prefer 16 = .ok (.iload_n 1, 1) := by decide +kernel
theorem dX0_prefer_17 : decode cX0_prefer 17 = .ok (.putfield 24, 3) := by decide +kernel
theorem dX0_prefer_20 : decode cX0_prefer 20 = .ok (.iload_n 2, 1) := by decide +kernel
theorem dX0_prefer_21 : decode cX0_prefer 21 = .ok (.ireturn, 1) := by decide +kernel
theorem dX0_adopt_0 : decode cX0_adopt 0 = .ok (.aload_n 0, 1) := by decide +kernel
theorem dX0_adopt_1 : decode cX0_adopt 1 = .ok (.getfield 12, 3) := by decide +kernel
theorem dX0_adopt_4 : decode cX0_adopt 4 = .ok (.aload_n 1, 1) := by decide +kernel
theorem dX0_adopt_5 : decode cX0_adopt 5 = .ok (.invokevirtual 31, 3) := by decide +kernel
theorem dX0_adopt_8 : decode cX0_adopt 8 = .ok (.aload_n 0, 1) := by decide +kernel
theorem dX0_adopt_9 : decode cX0_adopt 9 = .ok (.invokevirtual 85, 3) := by decide +kernel
theorem dX0_adopt_12 : decode cX0_adopt 12 = .ok (.ireturn, 1) := by decide +kernel
theorem dX1_init_0 : decode cX1_init 0 = .ok (.aload_n 0, 1) := by decide +kernel
theorem dX1_init_1 : decode cX1_init 1 = .ok (.invokespecial 3, 3) := by decide +kernel
theorem dX1_init_4 : decode cX1_init 4 = .ok (.aload_n 0, 1) := by decide +kernel
theorem dX1_init_5 : decode cX1_init 5 = .ok (.iconst 5, 1) := by decide +kernel
theorem dX1_init_6 : decode cX1_init 6 = .ok (.anewarray 9, 3) := by decide +kernel
theorem dX1_init_9 : decode cX1_init 9 = .ok (.putfield 11, 3) := by decide +kernel
theorem dX1_init_12 : decode cX1_init 12 = .ok (.aload_n 0, 1) := by decide +kernel
theorem dX1_init_13 : decode cX1_init 13 = .ok (.iconst 0, 1) := by decide +kernel
theorem dX1_init_14 : decode cX1_init 14 = .ok (.putfield 17, 3) := by decide +kernel
theorem dX1_init_17 : decode cX1_init 17 = .ok (.aload_n 0, 1) := by decide +kernel
theorem dX1_init_18 : decode cX1_init 18 = .ok (.iconst 0, 1) := by decide +kernel
theorem dX1_init_19 : decode cX1_init 19 = .ok (.putfield 21, 3) := by decide +kernel
theorem dX1_init_22 : decode cX1_init 22 = .ok (.iconst 0, 1) := by decide +kernel
theorem dX1_init_23 : decode cX1_init 23 = .ok (.istore_n 1, 1) := by decide +kernel
theorem dX1_init_24 : decode cX1_init 24 = .ok (.iload_n 1, 1) := by decide +kernel
theorem dX1_init_25 : decode cX1_init 25 = .ok (.iconst 5, 1) := by decide +kernel
theorem dX1_init_26 : decode cX1_init 26 = .ok (.if_icmp .ge 22, 3) := by decide +kernel
theorem dX1_init_29 : decode cX1_init 29 = .ok (.aload_n 0, 1) := by decide +kernel
theorem dX1_init_30 : decode cX1_init 30 = .ok (.getfield 11, 3) := by decide +kernel
theorem dX1_init_33 : decode cX1_init 33 = .ok (.iload_n 1, 1) := by decide +kernel
theorem dX1_init_34 : decode cX1_init 34 = .ok (.new 9, 3) := by decide +kernel
theorem dX1_init_37 : decode cX1_init 37 = .ok (.dup, 1) := by decide +kernel
theorem dX1_init_38 : decode cX1_init 38 = .ok (.invokespecial 24, 3) := by decide +kernel
theorem dX1_init_41 : decode cX1_init 41 = .ok (.aastore, 1) := by decide +kernel
theorem dX1_init_42 : decode cX1_init 42 = .ok (.iinc 1 1, 3) := by decide +kernel
theorem dX1_init_45 : decode cX1_init 45 = .ok (.goto (-21), 3) := by decide +kernel
theorem dX1_init_48 : decode cX1_init 48 = .ok (.return_, 1) := by decide +kernel
theorem dX1_keep_0 : decode cX1_keep 0 = .ok (.aload_n 0, 1) := by decide +kernel
theorem dX1_keep_1 : decode cX1_keep 1 = .ok (.aload_n 0, 1) := by decide +kernel
theorem dX1_keep_2 : decode cX1_keep 2 = .ok (.getfield 17, 3) := by decide +kernel
theorem dX1_keep_5 : decode cX1_keep 5 = .ok (.invokevirtual 25, 3) := by decide +kernel
theorem dX1_keep_8 : decode cX1_keep 8 = .ok (.astore_n 2, 1) := by decide +kernel
theorem dX1_keep_9 : decode cX1_keep 9 = .ok (.aload_n 2, 1) := by decide +kernel
theorem dX1_keep_10 : decode cX1_keep 10 = .ok (.ifnull 8, 3) := by decide +kernel
theorem dX1_keep_13 : decode cX1_keep 13 = .ok (.aload_n 2, 1) := by decide +kernel
theorem dX1_keep_14 : decode cX1_keep 14 = .ok (.aload_n 1, 1) := by decide +kernel
theorem dX1_keep_15 : decode cX1_keep 15 = .ok (.invokevirtual 29, 3) := by decide +kernel
theorem dX1_keep_18 : decode cX1_keep 18 = .ok (.aload_n 0, 1) := by decide +kernel
theorem dX1_keep_19 : decode cX1_keep 19 = .ok (.aload_n 0, 1) := by decide +kernel
theorem dX1_keep_20 : decode cX1_keep 20 = .ok (.getfield 17, 3) := by decide +kernel
theorem dX1_keep_23 : decode cX1_keep 23 = .ok (.iconst 1, 1) := by decide +kernel
theorem dX1_keep_24 : decode cX1_keep 24 = .ok (.iadd, 1) := by decide +kernel
theorem dX1_keep_25 : decode cX1_keep 25 = .ok (.iconst 5, 1) := by decide +kernel
theorem dX1_keep_26 : decode cX1_keep 26 = .ok (.if_icmp .ge 12, 3) := by decide +kernel
theorem dX1_keep_29 : decode cX1_keep 29 = .ok (.aload_n 0, 1) := by decide +kernel
theorem dX1_keep_30 : decode cX1_keep 30 = .ok (.getfield 17, 3) := by decide +kernel
theorem dX1_keep_33 : decode cX1_keep 33 = .ok (.iconst 1, 1) := by decide +kernel
theorem dX1_keep_34 : decode cX1_keep 34 = .ok (.iadd, 1) := by decide +kernel
theorem dX1_keep_35 : decode cX1_keep 35 = .ok (.goto 4, 3) := by decide +kernel
theorem dX1_keep_38 : decode cX1_keep 38 = .ok (.iconst 0, 1) := by decide +kernel
theorem dX1_keep_39 : decode cX1_keep 39 = .ok (.putfield 17, 3) := by decide +kernel
theorem dX1_keep_42 : decode cX1_keep 42 = .ok (.aload_n 0, 1) := by decide +kernel
theorem dX1_keep_43 : decode cX1_keep 43 = .ok (.aload_n 0, 1) := by decide +kernel
theorem dX1_keep_44 : decode cX1_keep 44 = .ok (.getfield 21, 3) := by decide +kernel
theorem dX1_keep_47 : decode cX1_keep 47 = .ok (.iconst 1, 1) := by decide +kernel
theorem dX1_keep_48 : decode cX1_keep 48 = .ok (.iadd, 1) := by decide +kernel
theorem dX1_keep_49 : decode cX1_keep 49 = .ok (.iconst 5, 1) := by decide +kernel
theorem dX1_keep_50 : decode cX1_keep 50 = .ok (.invokestatic 33, 3) := by decide +kernel
theorem dX1_keep_53 : decode cX1_keep 53 = .ok (.putfield 21, 3) := by decide +kernel
theorem dX1_keep_56 : decode cX1_keep 56 = .ok (.return_, 1) := by decide +kernel
theorem dX1_takeBack_0 : decode cX1_takeBack 0 = .ok (.aload_n 0, 1) := by decide +kernel
theorem dX1_takeBack_1 : decode cX1_takeBack 1 = .ok (.getfield 21, 3) := by decide +kernel
theorem dX1_takeBack_4 : decode cX1_takeBack 4 = .ok (.ifCond .ne 4, 3) := by decide +kernel
theorem dX1_takeBack_7 : decode cX1_takeBack 7 = .ok (.return_, 1) := by decide +kernel
theorem dX1_takeBack_8 : decode cX1_takeBack 8 = .ok (.aload_n 0, 1) := by decide +kernel
theorem dX1_takeBack_9 : decode cX1_takeBack 9 = .ok (.aload_n 0, 1) := by decide +kernel
theorem dX1_takeBack_10 : decode cX1_takeBack 10 = .ok (.getfield 17, 3) := by decide +kernel
theorem dX1_takeBack_13 : decode cX1_takeBack 13 = .ok (.ifCond .le 12, 3) := by decide +kernel
theorem dX1_takeBack_16 : decode cX1_takeBack 16 = .ok (.aload_n 0, 1) := by decide +kernel
theorem dX1_takeBack_17 : decode cX1_takeBack 17 = .ok (.getfield 17, 3) := by decide +kernel
theorem dX1_takeBack_20 : decode cX1_takeBack 20 = .ok (.iconst 1, 1) := by decide +kernel
theorem dX1_takeBack_21 : decode cX1_takeBack 21 = .ok (.isub, 1) := by decide +kernel
theorem dX1_takeBack_22 : decode cX1_takeBack 22 = .ok (.goto 4, 3) := by decide +kernel
theorem dX1_takeBack_25 : decode cX1_takeBack 25 = .ok (.iconst 4, 1) := by decide +kernel
theorem dX1_takeBack_26 : decode cX1_takeBack 26 = .ok (.putfield 17, 3) := by decide +kernel
theorem dX1_takeBack_29 : decode cX1_takeBack 29 = .ok (.aload_n 0, 1) := by decide +kernel
theorem dX1_takeBack_30 : decode cX1_takeBack 30 = .ok (.dup, 1) := by decide +kernel
theorem dX1_takeBack_31 : decode cX1_takeBack 31 = .ok (.getfield 21, 3) := by decide +kernel
theorem dX1_takeBack_34 : decode cX1_takeBack 34 = .ok (.iconst 1, 1) := by decide +kernel
theorem dX1_takeBack_35 : decode cX1_takeBack 35 = .ok (.isub, 1) := by decide +kernel
theorem dX1_takeBack_36 : decode cX1_takeBack 36 = .ok (.putfield 21, 3) := by decide +kernel
theorem dX1_takeBack_39 : decode cX1_takeBack 39 = .ok (.aload_n 0, 1) := by decide +kernel
theorem dX1_takeBack_40 : decode cX1_takeBack 40 = .ok (.aload_n 0, 1) := by decide +kernel
theorem dX1_takeBack_41 : decode cX1_takeBack 41 = .ok (.getfield 17, 3) := by decide +kernel
theorem dX1_takeBack_44 : decode cX1_takeBack 44 = .ok (.invokevirtual 25, 3) := by decide +kernel
theorem dX1_takeBack_47 : decode cX1_takeBack 47 = .ok (.astore_n 2, 1) := by decide +kernel
theorem dX1_takeBack_48 : decode cX1_takeBack 48 = .ok (.aload_n 2, 1) := by decide +kernel
theorem dX1_takeBack_49 : decode cX1_takeBack 49 = .ok (.ifnull 8, 3) := by decide +kernel
theorem dX1_takeBack_52 : decode cX1_takeBack 52 = .ok (.aload_n 1, 1) := by decide +kernel
theorem dX1_takeBack_53 : decode cX1_takeBack 53 = .ok (.aload_n 2, 1) := by decide +kernel
theorem dX1_takeBack_54 : decode cX1_takeBack 54 = .ok (.invokevirtual 29, 3) := by decide +kernel
theorem dX1_takeBack_57 : decode cX1_takeBack 57 = .ok (.return_, 1) := by decide +kernel
theorem dX1_slot_0 : decode cX1_slot 0 = .ok (.iload_n 1, 1) := by decide +kernel
theorem dX1_slot_1 : decode cX1_slot 1 = .ok (.ifCond .lt 17, 3) := by decide +kernel
theorem dX1_slot_4 : decode cX1_slot 4 = .ok (.iload_n 1, 1) := by decide +kernel
theorem dX1_slot_5 : decode cX1_slot 5 = .ok (.iconst 5, 1) := by decide +kernel
theorem dX1_slot_6 : decode cX1_slot 6 = .ok (.if_icmp .ge 12, 3) := by decide +kernel
theorem dX1_slot_9 : decode cX1_slot 9 = .ok (.aload_n 0, 1) := by decide +kernel
theorem dX1_slot_10 : decode cX1_slot 10 = .ok (.getfield 11, 3) := by decide +kernel
theorem dX1_slot_13 : decode cX1_slot 13 = .ok (.iload_n 1, 1) := by decide +kernel
theorem dX1_slot_14 : decode cX1_slot 14 = .ok (.aaload, 1) := by decide +kernel
theorem dX1_slot_15 : decode cX1_slot 15 = .ok (.goto 4, 3) := by decide +kernel
theorem dX1_slot_18 : decode cX1_slot 18 = .ok (.aconst_null, 1) := by decide +kernel
theorem dX1_slot_19 : decode cX1_slot 19 = .ok (.areturn, 1) := by decide +kernel
theorem dX2_init_0 : decode cX2_init 0 = .ok (.aload_n 0, 1) := by decide +kernel
theorem dX2_init_1 : decode cX2_init 1 = .ok (.invokespecial 3, 3) := by decide +kernel
theorem dX2_init_4 : decode cX2_init 4 = .ok (.aload_n 0, 1) := by decide +kernel
theorem dX2_init_5 : decode cX2_init 5 = .ok (.sipush 256, 3) := by decide +kernel
theorem dX2_init_8 : decode cX2_init 8 = .ok (.newarray .int, 2) := by decide +kernel
theorem dX2_init_10 : decode cX2_init 10 = .ok (.putfield 9, 3) := by decide +kernel
theorem dX2_init_13 : decode cX2_init 13 = .ok (.aload_n 0, 1) := by decide +kernel
theorem dX2_init_14 : decode cX2_init 14 = .ok (.bipush 16, 2) := by decide +kernel
theorem dX2_init_16 : decode cX2_init 16 = .ok (.newarray .int, 2) := by decide +kernel
theorem dX2_init_18 : decode cX2_init 18 = .ok (.putfield 15, 3) := by decide +kernel
theorem dX2_init_21 : decode cX2_init 21 = .ok (.aload_n 0, 1) := by decide +kernel
theorem dX2_init_22 : decode cX2_init 22 = .ok (.bipush 16, 2) := by decide +kernel
theorem dX2_init_24 : decode cX2_init 24 = .ok (.newarray .boolean, 2) := by decide +kernel
theorem dX2_init_26 : decode cX2_init 26 = .ok (.putfield 18, 3) := by decide +kernel
theorem dX2_init_29 : decode cX2_init 29 = .ok (.return_, 1) := by decide +kernel
theorem dX2_match_0 : decode cX2_match 0 = .ok (.iconst 0, 1) := by decide +kernel
theorem dX2_match_1 : decode cX2_match 1 = .ok (.istore_n 3, 1) := by decide +kernel
theorem dX2_match_2 : decode cX2_match 2 = .ok (.iload_n 3, 1) := by decide +kernel
theorem dX2_match_3 : decode cX2_match 3 = .ok (.bipush 16, 2) := by decide +kernel
theorem dX2_match_5 : decode cX2_match 5 = .ok (.if_icmp .ge 35, 3) := by decide +kernel
theorem dX2_match_8 : decode cX2_match 8 = .ok (.aload_n 0, 1) := by decide +kernel
theorem dX2_match_9 : decode cX2_match 9 = .ok (.getfield 15, 3) := by decide +kernel
theorem dX2_match_12 : decode cX2_match 12 = .ok (.iload_n 3, 1) := by decide +kernel
theorem dX2_match_13 : decode cX2_match 13 = .ok (.iconst (-1), 1) := by decide +kernel
theorem dX2_match_14 : decode cX2_match 14 = .ok (.iastore, 1) := by decide +kernel
theorem dX2_match_15 : decode cX2_match 15 = .ok (.aload_n 0, 1) := by decide +kernel
theorem dX2_match_16 : decode cX2_match 16 = .ok (.getfield 18, 3) := by decide +kernel
theorem dX2_match_19 : decode cX2_match 19 = .ok (.iload_n 3, 1) := by decide +kernel
theorem dX2_match_20 : decode cX2_match 20 = .ok (.aload_n 1, 1) := by decide +kernel
theorem dX2_match_21 : decode cX2_match 21 = .ok (.iload_n 3, 1) := by decide +kernel
theorem dX2_match_22 : decode cX2_match 22 = .ok (.invokevirtual 22, 3) := by decide +kernel
theorem dX2_match_25 : decode cX2_match 25 = .ok (.ifCond .ne 7, 3) := by decide +kernel
theorem dX2_match_28 : decode cX2_match 28 = .ok (.iconst 1, 1) := by decide +kernel
theorem dX2_match_29 : decode cX2_match 29 = .ok (.goto 4, 3) := by decide +kernel
theorem dX2_match_32 : decode cX2_match 32 = .ok (.iconst 0, 1) := by decide +kernel
theorem dX2_match_33 : decode cX2_match 33 = .ok (.bastore, 1) := by decide +kernel
theorem dX2_match_34 : decode cX2_match 34 = .ok (.iinc 3 1, 3) := by decide +kernel
theorem dX2_match_37 : decode cX2_match 37 = .ok (.goto (-35), 3) := by decide +kernel
theorem dX2_match_40 : decode cX2_match 40 = .ok (.iconst 1, 1) := by decide +kernel
theorem dX2_match_41 : decode cX2_match 41 = .ok (.istore_n 3, 1) := by decide +kernel
theorem dX2_match_42 : decode cX2_match 42 = .ok (.iload_n 3, 1) := by decide +kernel
theorem dX2_match_43 : decode cX2_match 43 = .ok (.bipush 16, 2) := by decide +kernel
theorem dX2_match_45 : decode cX2_match 45 = .ok (.if_icmp .ge 54, 3) := by decide +kernel
theorem dX2_match_48 : decode cX2_match 48 = .ok (.iconst 1, 1) := by decide +kernel
theorem dX2_match_49 : decode cX2_match 49 = .ok (.istore 4, 2) := by decide +kernel
theorem dX2_match_51 : decode cX2_match 51 = .ok (.iload 4, 2) := by decide +kernel
theorem dX2_match_53 : decode cX2_match 53 = .ok (.bipush 16, 2) := by decide +kernel
theorem dX2_match_55 : decode cX2_match 55 = .ok (.if_icmp .ge 38, 3) := by decide +kernel
theorem dX2_match_58 : decode cX2_match 58 = .ok (.aload_n 0, 1) := by decide +kernel
theorem dX2_match_59 : decode cX2_match 59 = .ok (.getfield 18, 3) := by decide +kernel
theorem dX2_match_62 : decode cX2_match 62 = .ok (.iload_n 3, 1) := by decide +kernel
theorem dX2_match_63 : decode cX2_match 63 = .ok (.baload, 1) := by decide +kernel
theorem dX2_match_64 : decode cX2_match 64 = .ok (.ifCond .ne 29, 3) := by decide +kernel
theorem dX2_match_67 : decode cX2_match 67 = .ok (.aload_n 0, 1) := by decide +kernel
theorem dX2_match_68 : decode cX2_match 68 = .ok (.getfield 9, 3) := by decide +kernel
theorem dX2_match_71 : decode cX2_match 71 = .ok (.iload_n 3, 1) := by decide +kernel
theorem dX2_match_72 : decode cX2_match 72 = .ok (.bipush 16, 2) := by decide +kernel
theorem dX2_match_74 : decode cX2_match 74 = .ok (.imul, 1) := by decide +kernel
theorem dX2_match_75 : decode cX2_match 75 = .ok (.iload 4, 2) := by decide +kernel
theorem dX2_match_77 : decode cX2_match 77 = .ok (.iadd, 1) := by decide +kernel
theorem dX2_match_78 : decode cX2_match 78 = .ok (.aload_n 1, 1) := by decide +kernel
theorem dX2_match_79 : decode cX2_match 79 = .ok (.iload_n 3, 1) := by decide +kernel
theorem dX2_match_80 : decode cX2_match 80 = .ok (.aload_n 2, 1) := by decide +kernel
theorem dX2_match_81 : decode cX2_match 81 = .ok (.iload 4, 2) := by decide +kernel
theorem dX2_match_83 : decode cX2_match 83 = .ok (.invokestatic 28, 3) := by decide +kernel
theorem dX2_match_86 : decode cX2_match 86 = .ok (.iastore, 1) := by decide +kernel
theorem dX2_match_87 : decode cX2_match 87 = .ok (.iinc 4 1, 3) := by decide +kernel
theorem dX2_match_90 : decode cX2_match 90 = .ok (.goto (-39), 3) := by decide +kernel
theorem dX2_match_93 : decode cX2_match 93 = .ok (.iinc 3 1, 3) := by decide +kernel
theorem dX2_match_96 : decode cX2_match 96 = .ok (.goto (-54), 3) := by decide +kernel
theorem dX2_match_99 : decode cX2_match 99 = .ok (.bipush 9, 2) := by decide +kernel
theorem dX2_match_101 : decode cX2_match 101 = .ok (.istore_n 3, 1) := by decide +kernel
theorem dX2_match_102 : decode cX2_match 102 = .ok (.iload_n 3, 1) := by decide +kernel
theorem dX2_match_103 : decode cX2_match 103 = .ok (.iconst 3, 1) := by decide +kernel
theorem dX2_match_104 : decode cX2_match 104 = .ok (.if_icmp .lt 14, 3) := by decide +kernel
theorem dX2_match_107 : decode cX2_match 107 = .ok (.aload_n 0, 1) := by decide +kernel
theorem dX2_match_108 : decode cX2_match 108 = .ok (.iload_n 3, 1) := by decide +kernel
theorem dX2_match_109 : decode cX2_match 109 = .ok (.invokevirtual 32, 3) := by decide +kernel
theorem dX2_match_112 : decode cX2_match 112 = .ok (.iinc 3 (-1), 3) := by decide +kernel
theorem dX2_match_115 : decode cX2_match 115 = .ok (.goto (-13), 3) := by decide +kernel
theorem dX2_match_118 : decode cX2_match 118 = .ok (.return_, 1) := by decide +kernel
theorem dX2_score_0 : decode cX2_score 0 = .ok (.aload_n 2, 1) := by decide +kernel
theorem dX2_score_1 : decode cX2_score 1 = .ok (.iload_n 3, 1) := by decide +kernel
theorem dX2_score_2 : decode cX2_score 2 = .ok (.invokevirtual 22, 3) := by decide +kernel
theorem dX2_score_5 : decode cX2_score 5 = .ok (.ifCond .ne 5, 3) := by decide +kernel
theorem dX2_score_8 : decode cX2_score 8 = .ok (.iconst 0, 1) := by decide +kernel
theorem dX2_score_9 : decode cX2_score 9 = .ok (.ireturn, 1) := by decide +kernel
theorem dX2_score_10 : decode cX2_score 10 = .ok (.aload_n 0, 1) := by decide +kernel
theorem dX2_score_11 : decode cX2_score 11 = .ok (.iload_n 1, 1) := by decide +kernel
theorem dX2_score_12 : decode cX2_score 12 = .ok (.iconst 2, 1) := by decide +kernel
theorem dX2_score_13 : decode cX2_score 13 = .ok (.invokevirtual 36, 3) := by decide +kernel
theorem dX2_score_16 : decode cX2_score 16 = .ok (.aload_n 2, 1) := by decide +kernel
theorem dX2_score_17 : decode cX2_score 17 = .ok (.iload_n 3, 1) := by decide +kernel
theorem dX2_score_18 : decode cX2_score 18 = .ok (.iconst 2, 1) := by decide +kernel
theorem dX2_score_19 : decode cX2_score 19 = .ok (.invokevirtual 36, 3) := by decide +kernel
theorem dX2_score_22 : decode cX2_score 22 = .ok (.if_icmp .ne 7, 3) := by decide +kernel
theorem dX2_score_25 : decode cX2_score 25 = .ok (.iconst 4, 1) := by decide +kernel
theorem dX2_score_26 : decode cX2_score 26 = .ok (.goto 4, 3) := by decide +kernel
theorem dX2_score_29 : decode cX2_score 29 = .ok (.iconst 0, 1) := by decide +kernel
theorem dX2_score_30 : decode cX2_score 30 = .ok (.istore 4, 2) := by decide +kernel
theorem dX2_score_32 : decode cX2_score 32 = .ok (.iload 4, 2) := by decide +kernel
theorem dX2_score_34 : decode cX2_score 34 = .ok (.aload_n 0, 1) := by decide +kernel
theorem dX2_score_35 : decode cX2_score 35 = .ok (.iload_n 1, 1) := by decide +kernel
theorem dX2_score_36 : decode cX2_score 36 = .ok (.iconst 3, 1) := by decide +kernel
theorem dX2_score_37 : decode cX2_score 37 = .ok (.invokevirtual 36, 3) := by decide +kernel
theorem dX2_score_40 : decode cX2_score 40 = .ok (.aload_n 2, 1) := by decide +kernel
theorem dX2_score_41 : decode cX2_score 41 = .ok (.iload_n 3, 1) := by decide +kernel
theorem dX2_score_42 : decode cX2_score 42 = .ok (.iconst 3, 1) := by decide +kernel
theorem dX2_score_43 : decode cX2_score 43 = .ok (.invokevirtual 36, 3) := by decide +kernel
theorem dX2_score_46 : decode cX2_score 46 = .ok (.if_icmp .ne 7, 3) := by decide +kernel
theorem dX2_score_49 : decode cX2_score 49 = .ok (.iconst 2, 1) := by decide +kernel
theorem dX2_score_50 : decode cX2_score 50 = .ok (.goto 4, 3) := by decide +kernel
theorem dX2_score_53 : decode cX2_score 53 = .ok (.iconst 0, 1) := by decide +kernel
theorem dX2_score_54 : decode cX2_score 54 = .ok (.iadd, 1) := by decide +kernel
theorem dX2_score_55 : decode cX2_score 55 = .ok (.istore 4, 2) := by decide +kernel
theorem dX2_score_57 : decode cX2_score 57 = .ok (.aload_n 0, 1) := by decide +kernel
theorem dX2_score_58 : decode cX2_score 58 = .ok (.iload_n 1, 1) := by decide +kernel
theorem dX2_score_59 : decode cX2_score 59 = .ok (.iconst 0, 1) := by decide +kernel
theorem dX2_score_60 : decode cX2_score 60 = .ok (.invokevirtual 36, 3) := by decide +kernel
theorem dX2_score_63 : decode cX2_score 63 = .ok (.istore 5, 2) := by decide +kernel
theorem dX2_score_65 : decode cX2_score 65 = .ok (.aload_n 2, 1) := by decide +kernel
theorem dX2_score_66 : decode cX2_score 66 = .ok (.iload_n 3, 1) := by decide +kernel
theorem dX2_score_67 : decode cX2_score 67 = .ok (.iconst 0, 1) := by decide +kernel
theorem dX2_score_68 : decode cX2_score 68 = .ok (.invokevirtual 36, 3) := by decide +kernel
theorem dX2_score_71 : decode cX2_score 71 = .ok (.istore 6, 2) := by decide +kernel
theorem dX2_score_73 : decode cX2_score 73 = .ok (.iload 4, 2) := by decide +kernel
theorem dX2_score_75 : decode cX2_score 75 = .ok (.aload_n 0, 1) := by decide +kernel
theorem dX2_score_76 : decode cX2_score 76 = .ok (.iload 5, 2) := by decide +kernel
theorem dX2_score_78 : decode cX2_score 78 = .ok (.iconst 2, 1) := by decide +kernel
theorem dX2_score_79 : decode cX2_score 79 = .ok (.invokevirtual 36, 3) := by decide +kernel
theorem dX2_score_82 : decode cX2_score 82 = .ok (.aload_n 2, 1) := by decide +kernel
theorem dX2_score_83 : decode cX2_score 83 = .ok (.iload 6, 2) := by decide +kernel
theorem dX2_score_85 : decode cX2_score 85 = .ok (.iconst 2, 1) := by decide +kernel
theorem dX2_score_86 : decode cX2_score 86 = .ok (.invokevirtual 36, 3) := by decide +kernel
theorem dX2_score_89 : decode cX2_score 89 = .ok (.if_icmp .ne 7, 3) := by decide +kernel
theorem dX2_score_92 : decode cX2_score 92 = .ok (.iconst 2, 1) := by decide +kernel
theorem dX2_score_93 : decode cX2_score 93 = .ok (.goto 4, 3) := by decide +kernel
theorem dX2_score_96 : decode cX2_score 96 = .ok (.iconst 0, 1) := by decide +kernel
theorem dX2_score_97 : decode cX2_score 97 = .ok (.iadd, 1) := by decide +kernel
theorem dX2_score_98 : decode cX2_score 98 = .ok (.istore 4, 2) := by decide +kernel
theorem dX2_score_100 : decode cX2_score 100 = .ok (.iload 4, 2) := by decide +kernel
theorem dX2_score_102 : decode cX2_score 102 = .ok (.aload_n 0, 1) := by decide +kernel
theorem dX2_score_103 : decode cX2_score 103 = .ok (.iload_n 1, 1) := by decide +kernel
theorem dX2_score_104 : decode cX2_score 104 = .ok (.iconst 1, 1) := by decide +kernel
theorem dX2_score_105 : decode cX2_score 105 = .ok (.invokevirtual 36, 3) := by decide +kernel
theorem dX2_score_108 : decode cX2_score 108 = .ok (.aload_n 2, 1) := by decide +kernel
theorem dX2_score_109 : decode cX2_score 109 = .ok (.iload_n 3, 1) := by decide +kernel
theorem dX2_score_110 : decode cX2_score 110 = .ok (.iconst 1, 1) := by decide +kernel
theorem dX2_score_111 : decode cX2_score 111 = .ok (.invokevirtual 36, 3) := by decide +kernel
theorem dX2_score_114 : decode cX2_score 114 = .ok (.if_icmp .ne 7, 3) := by decide +kernel
theorem dX2_score_117 : decode cX2_score 117 = .ok (.iconst 1, 1) := by decide +kernel
theorem dX2_score_118 : decode cX2_score 118 = .ok (.goto 4, 3) := by decide +kernel
theorem dX2_score_121 : decode cX2_score 121 = .ok (.iconst 0, 1) := by decide +kernel
theorem dX2_score_122 : decode cX2_score 122 = .ok (.iadd, 1) := by decide +kernel
theorem dX2_score_123 : decode cX2_score 123 = .ok (.ireturn, 1) := by decide +kernel
theorem dX2_pairAll_0 : decode cX2_pairAll 0 = .ok (.iconst 1, 1) := by decide +kernel
theorem dX2_pairAll_1 : decode cX2_pairAll 1 = .ok (.istore_n 2, 1) := by decide +kernel
theorem dX2_pairAll_2 : decode cX2_pairAll 2 = .ok (.iload_n 2, 1) := by decide +kernel
theorem dX2_pairAll_3 : decode cX2_pairAll 3 = .ok (.bipush 16, 2) := by decide +kernel
theorem dX2_pairAll_5 : decode cX2_pairAll 5 = .ok (.if_icmp .ge 71, 3) := by decide +kernel
theorem dX2_pairAll_8 : decode cX2_pairAll 8 = .ok (.iconst 1, 1) := by decide +kernel
theorem dX2_pairAll_9 : decode cX2_pairAll 9 = .ok (.istore_n 3, 1) := by decide +kernel
theorem dX2_pairAll_10 : decode cX2_pairAll 10 = .ok (.iload_n 3, 1) := by decide +kernel
theorem dX2_pairAll_11 : decode cX2_pairAll 11 = .ok (.bipush 16, 2) := by decide +kernel
theorem dX2_pairAll_13 : decode cX2_pairAll 13 = .ok (.if_icmp .ge 57, 3) := by decide +kernel
theorem dX2_pairAll_16 : decode cX2_pairAll 16 = .ok (.aload_n 0, 1) := by decide +kernel
theorem dX2_pairAll_17 : decode cX2_pairAll 17 = .ok (.getfield 18, 3) := by decide +kernel
theorem dX2_pairAll_20 : decode cX2_pairAll 20 = .ok (.iload_n 2, 1) := by decide +kernel
theorem dX2_pairAll_21 : decode cX2_pairAll 21 = .ok (.baload, 1) := by decide +kernel
theorem dX2_pairAll_22 : decode cX2_pairAll 22 = .ok (.ifCond .ne 48, 3) := by decide +kernel
theorem dX2_pairAll_25 : decode cX2_pairAll 25 = .ok (.aload_n 0, 1) := by decide +kernel
theorem dX2_pairAll_26 : decode cX2_pairAll 26 = .ok (.getfield 9, 3) := by decide +kernel
theorem dX2_pairAll_29 : decode cX2_pairAll 29 = .ok (.iload_n 2, 1) := by decide +kernel
theorem dX2_pairAll_30 : decode cX2_pairAll 30 = .ok (.bipush 16, 2) := by decide +kernel
theorem dX2_pairAll_32 : decode cX2_pairAll 32 = .ok (.imul, 1) := by decide +kernel
theorem dX2_pairAll_33 : decode cX2_pairAll 33 = .ok (.iload_n 3, 1) := by decide +kernel
theorem dX2_pairAll_34 : decode cX2_pairAll 34 = .ok (.iadd, 1) := by decide +kernel
theorem dX2_pairAll_35 : decode cX2_pairAll 35 = .ok (.iaload, 1) := by decide +kernel
theorem dX2_pairAll_36 : decode cX2_pairAll 36 = .ok (.iload_n 1, 1) := by decide +kernel
theorem dX2_pairAll_37 : decode cX2_pairAll 37 = .ok (.if_icmp .ne 27, 3) := by decide +kernel
theorem dX2_pairAll_40 : decode cX2_pairAll 40 = .ok (.aload_n 0, 1) := by decide +kernel
theorem dX2_pairAll_41 : decode cX2_pairAll 41 = .ok (.getfield 15, 3) := by decide +kernel
theorem dX2_pairAll_44 : decode cX2_pairAll 44 = .ok (.iload_n 3, 1) := by decide +kernel
theorem dX2_pairAll_45 : decode cX2_pairAll 45 = .ok (.iaload, 1) := by decide +kernel
theorem dX2_pairAll_46 : decode cX2_pairAll 46 = .ok (.iconst (-1), 1) := by decide +kernel
theorem dX2_pairAll_47 : decode cX2_pairAll 47 = .ok (.if_icmp .ne 17, 3) := by decide +kernel
theorem dX2_pairAll_50 : decode cX2_pairAll 50 = .ok (.aload_n 0, 1) := by decide +kernel
theorem dX2_pairAll_51 : decode cX2_pairAll 51 = .ok (.getfield 18, 3) := by decide +kernel
theorem dX2_pairAll_54 : decode cX2_pairAll 54 = .ok (.iload_n 2, 1) := by decide +kernel
theorem dX2_pairAll_55 : decode cX2_pairAll 55 = .ok (.iconst 1, 1) := by decide +kernel
theorem dX2_pairAll_56 : decode cX2_pairAll 56 = .ok (.bastore, 1) := by decide +kernel
theorem dX2_pairAll_57 : decode cX2_pairAll 57 = .ok (.aload_n 0, 1) := by decide +kernel
theorem dX2_pairAll_58 : decode cX2_pairAll 58 = .ok (.getfield 15, 3) := by decide +kernel
theorem dX2_pairAll_61 : decode cX2_pairAll 61 = .ok (.iload_n 3, 1) := by decide +kernel
theorem dX2_pairAll_62 : decode cX2_pairAll 62 = .ok (.iload_n 2, 1) := by decide +kernel
theorem dX2_pairAll_63 : decode cX2_pairAll 63 = .ok (.iastore, 1) := by decide +kernel
theorem dX2_pairAll_64 : decode cX2_pairAll 64 = .ok (.iinc 3 1, 3) := by decide +kernel
theorem dX2_pairAll_67 : decode cX2_pairAll 67 = .ok (.goto (-57), 3) := by decide +kernel
theorem dX2_pairAll_70 : decode cX2_pairAll 70 = .ok (.iinc 2 1, 3) := by decide +kernel
theorem dX2_pairAll_73 : decode cX2_pairAll 73 = .ok (.goto (-71), 3) := by decide +kernel
theorem dX2_pairAll_76 : decode cX2_pairAll 76 = .ok (.return_, 1) := by decide +kernel
theorem dX2_partnerOf_0 : decode cX2_partnerOf 0 = .ok (.iload_n 1, 1) := by decide +kernel
theorem dX2_partnerOf_1 : decode cX2_partnerOf 1 = .ok (.invokestatic 40, 3) := by decide +kernel
theorem dX2_partnerOf_4 : decode cX2_partnerOf 4 = .ok (.ifCond .eq 12, 3) := by decide +kernel
theorem dX2_partnerOf_7 : decode cX2_partnerOf 7 = .ok (.aload_n 0, 1) := by decide +kernel
theorem dX2_partnerOf_8 : decode cX2_partnerOf 8 = .ok (.getfield 15, 3) := by decide +kernel
theorem dX2_partnerOf_11 : decode cX2_partnerOf 11 = .ok (.iload_n 1, 1) := by decide +kernel
theorem dX2_partnerOf_12 : decode cX2_partnerOf 12 = .ok (.iaload, 1) := by decide +kernel
theorem dX2_partnerOf_13 : decode cX2_partnerOf 13 = .ok (.goto 4, 3) := by decide +kernel
theorem dX2_partnerOf_16 : decode cX2_partnerOf 16 = .ok (.iconst (-1), 1) := by decide +kernel
theorem dX2_partnerOf_17 : decode cX2_partnerOf 17 = .ok (.ireturn, 1) := by decide +kernel
theorem dX2_countStrangers_0 : decode cX2_countStrangers 0 = .ok (.iconst 0, 1) := by decide +kernel
theorem dX2_countStrangers_1 : decode cX2_countStrangers 1 = .ok (.istore_n 1, 1) := by decide +kernel
theorem dX2_countStrangers_2 : decode cX2_countStrangers 2 = .ok (.iconst 1, 1) := by decide +kernel
theorem dX2_countStrangers_3 : decode cX2_countStrangers 3 = .ok (.istore_n 2, 1) := by decide +kernel
theorem dX2_countStrangers_4 : decode cX2_countStrangers 4 = .ok (.iload_n 2, 1) := by decide +kernel
theorem dX2_countStrangers_5 : decode cX2_countStrangers 5 = .ok (.bipush 16, 2) := by decide +kernel
theorem dX2_countStrangers_7 : decode cX2_countStrangers 7 = .ok (.if_icmp .ge 37, 3) := by decide +kernel
theorem dX2_countStrangers_10 : decode cX2_countStrangers 10 = .ok (.iload_n 1, 1) := by decide +kernel
theorem dX2_countStrangers_11 : decode cX2_countStrangers 11 = .ok (.aload_n 0, 1) := by decide +kernel
theorem dX2_countStrangers_12 : decode cX2_countStrangers 12 = .ok (.getfield 15, 3) := by decide +kernel
theorem dX2_countStrangers_15 : decode cX2_countStrangers 15 = .ok (.iload_n 2, 1) := by decide +kernel
theorem dX2_countStrangers_16 : decode cX2_countStrangers 16 = .ok (.iaload, 1) := by decide +kernel
theorem dX2_countStrangers_17 : decode cX2_countStrangers 17 = .ok (.iconst (-1), 1) := by decide +kernel
theorem dX2_countStrangers_18 : decode cX2_countStrangers 18 = .ok (.if_icmp .eq 17, 3) := by decide +kernel
theorem dX2_countStrangers_21 : decode cX2_countStrangers 21 = .ok (.aload_n 0, 1) := by decide +kernel
theorem dX2_countStrangers_22 : decode cX2_countStrangers 22 = .ok (.getfield 15, 3) := by decide +kernel
theorem dX2_countStrangers_25 : decode cX2_countStrangers 25 = .ok (.iload_n 2, 1) := by decide +kernel
theorem dX2_countStrangers_26 : decode cX2_countStrangers 26 = .ok (.iaload, 1) := by decide +kernel
theorem dX2_countStrangers_27 : decode cX2_countStrangers 27 = .ok (.iload_n 2, 1) := by decide +kernel
theorem dX2_countStrangers_28 : decode cX2_countStrangers 28 = .ok (.if_icmp .eq 7, 3) := by decide +kernel
theorem dX2_countStrangers_31 : decode cX2_countStrangers 31 = .ok (.iconst 1, 1) := by decide +kernel
theorem dX2_countStrangers_32 : decode cX2_countStrangers 32 = .ok (.goto 4, 3) := by decide +kernel
theorem dX2_countStrangers_35 : decode cX2_countStrangers 35 = .ok (.iconst 0, 1) := by decide +kernel
theorem dX2_countStrangers_36 : decode cX2_countStrangers 36 = .ok (.iadd, 1) := by decide +kernel
theorem dX2_countStrangers_37 : decode cX2_countStrangers 37 = .ok (.istore_n 1, 1) := by decide +kernel
theorem dX2_countStrangers_38 : decode cX2_countStrangers 38 = .ok (.iinc 2 1, 3) := by decide +kernel
theorem dX2_countStrangers_41 : decode cX2_countStrangers 41 = .ok (.goto (-37), 3) := by decide +kernel
theorem dX2_countStrangers_44 : decode cX2_countStrangers 44 = .ok (.iload_n 1, 1) := by decide +kernel
theorem dX2_countStrangers_45 : decode cX2_countStrangers 45 = .ok (.ireturn, 1) := by decide +kernel
theorem dX3_init_0 : decode cX3_init 0 = .ok (.aload_n 0, 1) := by decide +kernel
theorem dX3_init_1 : decode cX3_init 1 = .ok (.invokespecial 3, 3) := by decide +kernel
theorem dX3_init_4 : decode cX3_init 4 = .ok (.aload_n 0, 1) := by decide +kernel
theorem dX3_init_5 : decode cX3_init 5 = .ok (.new 9, 3) := by decide +kernel
theorem dX3_init_8 : decode cX3_init 8 = .ok (.dup, 1) := by decide +kernel
theorem dX3_init_9 : decode cX3_init 9 = .ok (.invokespecial 11, 3) := by decide +kernel
theorem dX3_init_12 : decode cX3_init 12 = .ok (.putfield 12, 3) := by decide +kernel
theorem dX3_init_15 : decode cX3_init 15 = .ok (.aload_n 0, 1) := by decide +kernel
theorem dX3_init_16 : decode cX3_init 16 = .ok (.new 18, 3) := by decide +kernel
theorem dX3_init_19 : decode cX3_init 19 = .ok (.dup, 1) := by decide +kernel
theorem dX3_init_20 : decode cX3_init 20 = .ok (.invokespecial 20, 3) := by decide +kernel
theorem dX3_init_23 : decode cX3_init 23 = .ok (.putfield 21, 3) := by decide +kernel
theorem dX3_init_26 : decode cX3_init 26 = .ok (.aload_n 0, 1) := by decide +kernel
theorem dX3_init_27 : decode cX3_init 27 = .ok (.new 25, 3) := by decide +kernel
theorem dX3_init_30 : decode cX3_init 30 = .ok (.dup, 1) := by decide +kernel
theorem dX3_init_31 : decode cX3_init 31 = .ok (.sipush 128, 3) := by decide +kernel
theorem dX3_init_34 : decode cX3_init 34 = .ok (.invokespecial 27, 3) := by decide +kernel
theorem dX3_init_37 : decode cX3_init 37 = .ok (.putfield 30, 3) := by decide +kernel
theorem dX3_init_40 : decode cX3_init 40 = .ok (.aload_n 0, 1) := by decide +kernel
theorem dX3_init_41 : decode cX3_init 41 = .ok (.bipush 16, 2) := by decide +kernel
theorem dX3_init_43 : decode cX3_init 43 = .ok (.newarray .boolean, 2) := by decide +kernel
theorem dX3_init_45 : decode cX3_init 45 = .ok (.putfield 34, 3) := by decide +kernel
theorem dX3_init_48 : decode cX3_init 48 = .ok (.aload_n 0, 1) := by decide +kernel
theorem dX3_init_49 : decode cX3_init 49 = .ok (.bipush 16, 2) := by decide +kernel
theorem dX3_init_51 : decode cX3_init 51 = .ok (.newarray .int, 2) := by decide +kernel
theorem dX3_init_53 : decode cX3_init 53 = .ok (.putfield 38, 3) := by decide +kernel
theorem dX3_init_56 : decode cX3_init 56 = .ok (.aload_n 0, 1) := by decide +kernel
theorem dX3_init_57 : decode cX3_init 57 = .ok (.iconst 1, 1) := by decide +kernel
theorem dX3_init_58 : decode cX3_init 58 = .ok (.putfield 42, 3) := by decide +kernel
theorem dX3_init_61 : decode cX3_init 61 = .ok (.return_, 1) := by decide +kernel
theorem dX3_refresh_0 : decode cX3_refresh 0 = .ok (.aload_n 0, 1) := by decide +kernel
theorem dX3_refresh_1 : decode cX3_refresh 1 = .ok (.getfield 42, 3) := by decide +kernel
theorem dX3_refresh_4 : decode cX3_refresh 4 = .ok (.ifCond .ne 4, 3) := by decide +kernel
theorem dX3_refresh_7 : decode cX3_refresh 7 = .ok (.return_, 1) := by decide +kernel
theorem dX3_refresh_8 : decode cX3_refresh 8 = .ok (.aload_n 0, 1) := by decide +kernel
theorem dX3_refresh_9 : decode cX3_refresh 9 = .ok (.iconst 0, 1) := by decide +kernel
theorem dX3_refresh_10 : decode cX3_refresh 10 = .ok (.putfield 42, 3) := by decide +kernel
theorem dX3_refresh_13 : decode cX3_refresh 13 = .ok (.aload_n 0, 1) := by decide +kernel
theorem dX3_refresh_14 : decode cX3_refresh 14 = .ok (.getfield 12, 3) := by decide +kernel
theorem dX3_refresh_17 : decode cX3_refresh 17 = .ok (.aload_n 1, 1) := by decide +kernel
theorem dX3_refresh_18 : decode cX3_refresh 18 = .ok (.invokevirtual 46, 3) := by decide +kernel
theorem dX3_refresh_21 : decode cX3_refresh 21 = .ok (.aload_n 0, 1) := by decide +kernel
theorem dX3_refresh_22 : decode cX3_refresh 22 = .ok (.getfield 21, 3) := by decide +kernel
theorem dX3_refresh_25 : decode cX3_refresh 25 = .ok (.invokevirtual 50, 3) := by decide +kernel
theorem dX3_refresh_28 : decode cX3_refresh 28 = .ok (.aload_n 0, 1) := by decide +kernel
theorem dX3_refresh_29 : decode cX3_refresh 29 = .ok (.getfield 30, 3) := by decide +kernel
theorem dX3_refresh_32 : decode cX3_refresh 32 = .ok (.invokevirtual 53, 3) := by decide +kernel
theorem dX3_refresh_35 : decode cX3_refresh 35 = .ok (.aload_n 0, 1) := by decide +kernel
theorem dX3_refresh_36 : decode cX3_refresh 36 = .ok (.invokevirtual 56, 3) := by decide +kernel
theorem dX3_refresh_39 : decode cX3_refresh 39 = .ok (.aload_n 0, 1) := by decide +kernel
theorem dX3_refresh_40 : decode cX3_refresh 40 = .ok (.iconst 2, 1) := by decide +kernel
theorem dX3_refresh_41 : decode cX3_refresh 41 = .ok (.iconst 0, 1) := by decide +kernel
theorem dX3_refresh_42 : decode cX3_refresh 42 = .ok (.invokevirtual 59, 3) := by decide +kernel
theorem dX3_refresh_45 : decode cX3_refresh 45 = .ok (.aload_n 0, 1) := by decide +kernel
theorem dX3_refresh_46 : decode cX3_refresh 46 = .ok (.iconst 3, 1) := by decide +kernel
theorem dX3_refresh_47 : decode cX3_refresh 47 = .ok (.iconst 1, 1) := by decide +kernel
theorem dX3_refresh_48 : decode cX3_refresh 48 = .ok (.invokevirtual 59, 3) := by decide +kernel
theorem dX3_refresh_51 : decode cX3_refresh 51 = .ok (.aload_n 0, 1) := by decide +kernel
theorem dX3_refresh_52 : decode cX3_refresh 52 = .ok (.iconst 0, 1) := by decide +kernel
theorem dX3_refresh_53 : decode cX3_refresh 53 = .ok (.iconst 2, 1) := by decide +kernel
theorem dX3_refresh_54 : decode cX3_refresh 54 = .ok (.invokevirtual 59, 3) := by decide +kernel
theorem dX3_refresh_57 : decode cX3_refresh 57 = .ok (.aload_n 0, 1) := by decide +kernel
theorem dX3_refresh_58 : decode cX3_refresh 58 = .ok (.invokevirtual 63, 3) := by decide +kernel
theorem dX3_refresh_61 : decode cX3_refresh 61 = .ok (.aload_n 0, 1) := by decide +kernel
theorem dX3_refresh_62 : decode cX3_refresh 62 = .ok (.invokevirtual 66, 3) := by decide +kernel
theorem dX3_refresh_65 : decode cX3_refresh 65 = .ok (.aload_n 0, 1) := by decide +kernel
theorem dX3_refresh_66 : decode cX3_refresh 66 = .ok (.invokevirtual 69, 3) := by decide +kernel
theorem dX3_refresh_69 : decode cX3_refresh 69 = .ok (.return_, 1) := by decide +kernel
theorem dX3_chooseSections_0 : decode cX3_chooseSections 0 = .ok (.iconst 1, 1) := by decide +kernel
theorem dX3_chooseSections_1 : decode cX3_chooseSections 1 = .ok (.istore_n 1, 1) := by decide +kernel
theorem dX3_chooseSections_2 : decode cX3_chooseSections 2 = .ok (.iload_n 1, 1) := by decide +kernel
theorem dX3_chooseSections_3 : decode cX3_chooseSections 3 = .ok (.bipush 16, 2) := by decide +kernel
theorem dX3_chooseSections_5 : decode cX3_chooseSections 5 = .ok (.if_icmp .ge 133, 3) := by decide +kernel
theorem dX3_chooseSections_8 : decode cX3_chooseSections 8 = .ok (.aload_n 0, 1) := by decide +kernel
theorem dX3_chooseSections_9 : decode cX3_chooseSections 9 = .ok (.getfield 12, 3) := by decide +kernel
theorem dX3_chooseSections_12 : decode cX3_chooseSections 12 = .ok (.getfield 72, 3) := by decide +kernel
theorem dX3_chooseSections_15 : decode cX3_chooseSections 15 = .ok (.iload_n 1, 1) := by decide +kernel
theorem dX3_chooseSections_16 : decode cX3_chooseSections 16 = .ok (.invokevirtual 75, 3) := by decide +kernel
theorem dX3_chooseSections_19 : decode cX3_chooseSections 19 = .ok (.istore_n 2, 1) := by decide +kernel
theorem dX3_chooseSections_20 : decode cX3_chooseSections 20 = .ok (.aload_n 0, 1) := by decide +kernel
theorem dX3_chooseSections_21 : decode cX3_chooseSections 21 = .ok (.getfield 12, 3) := by decide +kernel
theorem dX3_chooseSections_24 : decode cX3_chooseSections 24 = .ok (.getfield 79, 3) := by decide +kernel
theorem dX3_chooseSections_27 : decode cX3_chooseSections 27 = .ok (.iload_n 1, 1) := by decide +kernel
theorem dX3_chooseSections_28 : decode cX3_chooseSections 28 = .ok (.invokevirtual 75, 3) := by decide +kernel
theorem dX3_chooseSections_31 : decode cX3_chooseSections 31 = .ok (.istore_n 3, 1) := by decide +kernel
theorem dX3_chooseSections_32 : decode cX3_chooseSections 32 = .ok (.aload_n 0, 1) := by decide +kernel
theorem dX3_chooseSections_33 : decode cX3_chooseSections 33 = .ok (.getfield 12, 3) := by decide +kernel
theorem dX3_chooseSections_36 : decode cX3_chooseSections 36 = .ok (.getfield 82, 3) := by decide +kernel
theorem dX3_chooseSections_39 : decode cX3_chooseSections 39 = .ok (.iload_n 1, 1) := by decide +kernel
theorem dX3_chooseSections_40 : decode cX3_chooseSections 40 = .ok (.invokevirtual 75, 3) := by decide +kernel
theorem dX3_chooseSections_43 : decode cX3_chooseSections 43 = .ok (.ifCond .ne 22, 3) := by decide +kernel
theorem dX3_chooseSections_46 : decode cX3_chooseSections 46 = .ok (.iload_n 2, 1) := by decide +kernel
theorem dX3_chooseSections_47 : decode cX3_chooseSections 47 = .ok (.ifCond .ne 7, 3) := by decide +kernel
theorem dX3_chooseSections_50 : decode cX3_chooseSections 50 = .ok (.iload_n 3, 1) := by decide +kernel
theorem dX3_chooseSections_51 : decode cX3_chooseSections 51 = .ok (.ifCond .eq 81, 3) := by decide +kernel
theorem dX3_chooseSections_54 : decode cX3_chooseSections 54 = .ok (.aload_n 0, 1) := by decide +kernel
theorem dX3_chooseSections_55 : decode cX3_chooseSections 55 = .ok (.getfield 21, 3) := by decide +kernel
theorem dX3_chooseSections_58 : decode cX3_chooseSections 58 = .ok (.iload_n 1, 1) := by decide +kernel
theorem dX3_chooseSections_59 : decode cX3_chooseSections 59 = .ok (.invokevirtual 85, 3) := by decide +kernel
theorem dX3_chooseSections_62 : decode cX3_chooseSections 62 = .ok (.goto 70, 3) := by decide +kernel
theorem dX3_chooseSections_65 : decode cX3_chooseSections 65 = .ok (.iload_n 2, 1) := by decide +kernel
theorem dX3_chooseSections_66 : decode cX3_chooseSections 66 = .ok (.ifCond .eq 18, 3) := by decide +kernel
theorem dX3_chooseSections_69 : decode cX3_chooseSections 69 = .ok (.iload_n 3, 1) := by decide +kernel
theorem dX3_chooseSections_70 : decode cX3_chooseSections 70 = .ok (.ifCond .eq 14, 3) := by decide +kernel
theorem dX3_chooseSections_73 : decode cX3_chooseSections 73 = .ok (.aload_n 0, 1) := by decide +kernel
theorem dX3_chooseSections_74 : decode cX3_chooseSections 74 = .ok (.getfield 21, 3) := by decide +kernel
theorem dX3_chooseSections_77 : decode cX3_chooseSections 77 = .ok (.iload_n 1, 1) := by decide +kernel
theorem dX3_chooseSections_78 : decode cX3_chooseSections 78 = .ok (.invokevirtual 85, 3) := by decide +kernel
theorem dX3_chooseSections_81 : decode cX3_chooseSections 81 = .ok (.goto 51, 3) := by decide +kernel
theorem dX3_chooseSections_84 : decode cX3_chooseSections 84 = .ok (.aload_n 0, 1) := by decide +kernel
theorem dX3_chooseSections_85 : decode cX3_chooseSections 85 = .ok (.iload_n 1, 1) := by decide +kernel
theorem dX3_chooseSections_86 : decode cX3_chooseSections 86 = .ok (.aload_n 0, 1) := by decide +kernel
theorem dX3_chooseSections_87 : decode cX3_chooseSections 87 = .ok (.getfield 12, 3) := by decide +kernel
theorem dX3_chooseSections_90 : decode cX3_chooseSections 90 = .ok (.getfield 72, 3) := by decide +kernel
theorem dX3_chooseSections_93 : decode cX3_chooseSections 93 = .ok (.invokevirtual 88, 3) := by decide +kernel
theorem dX3_chooseSections_96 : decode cX3_chooseSections 96 = .ok (.ifCond .ne 18, 3) := by decide +kernel
theorem dX3_chooseSections_99 : decode cX3_chooseSections 99 = .ok (.aload_n 0, 1) := by decide +kernel
theorem dX3_chooseSections_100 : decode cX3_chooseSections 100 = .ok (.iload_n 1, 1) := by decide +kernel
theorem dX3_chooseSections_101 : decode cX3_chooseSections 101 = .ok (.aload_n 0, 1) := by decide +kernel
theorem dX3_chooseSections_102 : decode cX3_chooseSections 102 = .ok (.getfield 12, 3) := by decide +kernel
theorem dX3_chooseSections_105 : decode cX3_chooseSections 105 = .ok (.getfield 79, 3) := by decide +kernel
theorem dX3_chooseSections_108 : decode cX3_chooseSections 108 = .ok (.invokevirtual 88, 3) := by decide +kernel
theorem dX3_chooseSections_111 : decode cX3_chooseSections 111 = .ok (.ifCond .eq 21, 3) := by decide +kernel
theorem dX3_chooseSections_114 : decode cX3_chooseSections 114 = .ok (.aload_n 0, 1) := by decide +kernel
theorem dX3_chooseSections_115 : decode cX3_chooseSections 115 = .ok (.getfield 21, 3) := by decide +kernel
theorem dX3_chooseSections_118 : decode cX3_chooseSections 118 = .ok (.iload_n 1, 1) := by decide +kernel
theorem dX3_chooseSections_119 : decode cX3_chooseSections 119 = .ok (.invokevirtual 85, 3) := by decide +kernel
theorem dX3_chooseSections_122 : decode cX3_chooseSections 122 = .ok (.aload_n 0, 1) := by decide +kernel
theorem dX3_chooseSections_123 : decode cX3_chooseSections 123 = .ok (.getfield 30, 3) := by decide +kernel
theorem dX3_chooseSections_126 : decode cX3_chooseSections 126 = .ok (.iconst 3, 1) := by decide +kernel
theorem dX3_chooseSections_127 : decode cX3_chooseSections 127 = .ok (.iload_n 1, 1) := by decide +kernel
theorem dX3_chooseSections_128 : decode cX3_chooseSections 128 = .ok (.iload_n 1, 1) := by decide +kernel
theorem dX3_chooseSections_129 : decode cX3_chooseSections 129 = .ok (.invokevirtual 92, 3) := by decide +kernel
theorem dX3_chooseSections_132 : decode cX3_chooseSections 132 = .ok (.iinc 1 1, 3) := by decide +kernel
theorem dX3_chooseSections_135 : decode cX3_chooseSections 135 = .ok (.goto (-133), 3) := by decide +kernel
theorem dX3_chooseSections_138 : decode cX3_chooseSections 138 = .ok (.return_, 1) := by decide +kernel
theorem dX3_isChanged_0 : decode cX3_isChanged 0 = .ok (.aload_n 0, 1) := by decide +kernel
theorem dX3_isChanged_1 : decode cX3_isChanged 1 = .ok (.getfield 12, 3) := by decide +kernel
theorem dX3_isChanged_4 : decode cX3_isChanged 4 = .ok (.getfield 82, 3) := by decide +kernel
theorem dX3_isChanged_7 : decode cX3_isChanged 7 = .ok (.iload_n 1, 1) := by decide +kernel
theorem dX3_isChanged_8 : decode cX3_isChanged 8 = .ok (.invokevirtual 75, 3) := by decide +kernel
theorem dX3_isChanged_11 : decode cX3_isChanged 11 = .ok (.ifCond .eq 11, 3) := by decide +kernel
theorem dX3_isChanged_14 : decode cX3_isChanged 14 = .ok (.aload_n 2, 1) := by decide +kernel
theorem dX3_isChanged_15 : decode cX3_isChanged 15 = .ok (.iload_n 1, 1) := by decide +kernel
theorem dX3_isChanged_16 : decode cX3_isChanged 16 = .ok (.invokevirtual 75, 3) := by decide +kernel
theorem dX3_isChanged_19 : decode cX3_isChanged 19 = .ok (.ifCond .ne 5, 3) := by decide +kernel
theorem dX3_isChanged_22 : decode cX3_isChanged 22 = .ok (.iconst 0, 1) := by decide +kernel
theorem dX3_isChanged_23 : decode cX3_isChanged 23 = .ok (.ireturn, 1) := by decide +kernel
theorem dX3_isChanged_24 : decode cX3_isChanged 24 = .ok (.aload_n 0, 1) := by decide +kernel
theorem dX3_isChanged_25 : decode cX3_isChanged 25 = .ok (.iload_n 1, 1) := by decide +kernel
theorem dX3_isChanged_26 : decode cX3_isChanged 26 = .ok (.aload_n 2, 1) := by decide +kernel
theorem dX3_isChanged_27 : decode cX3_isChanged 27 = .ok (.iconst 2, 1) := by decide +kernel
theorem dX3_isChanged_28 : decode cX3_isChanged 28 = .ok (.invokevirtual 96, 3) := by decide +kernel
theorem dX3_isChanged_31 : decode cX3_isChanged 31 = .ok (.ifCond .ne 32, 3) := by decide +kernel
theorem dX3_isChanged_34 : decode cX3_isChanged 34 = .ok (.aload_n 0, 1) := by decide +kernel
theorem dX3_isChanged_35 : decode cX3_isChanged 35 = .ok (.iload_n 1, 1) := by decide +kernel
theorem dX3_isChanged_36 : decode cX3_isChanged 36 = .ok (.aload_n 2, 1) := by decide +kernel
theorem dX3_isChanged_37 : decode cX3_isChanged 37 = .ok (.iconst 3, 1) := by decide +kernel
theorem dX3_isChanged_38 : decode cX3_isChanged 38 = .ok (.invokevirtual 96, 3) := by decide +kernel
theorem dX3_isChanged_41 : decode cX3_isChanged 41 = .ok (.ifCond .ne 22, 3) := by decide +kernel
theorem dX3_isChanged_44 : decode cX3_isChanged 44 = .ok (.aload_n 0, 1) := by decide +kernel
theorem dX3_isChanged_45 : decode cX3_isChanged 45 = .ok (.iload_n 1, 1) := by decide +kernel
theorem dX3_isChanged_46 : decode cX3_isChanged 46 = .ok (.aload_n 2, 1) := by decide +kernel
theorem dX3_isChanged_47 : decode cX3_isChanged 47 = .ok (.iconst 0, 1) := by decide +kernel
theorem dX3_isChanged_48 : decode cX3_isChanged 48 = .ok (.invokevirtual 96, 3) := by decide +kernel
theorem dX3_isChanged_51 : decode cX3_isChanged 51 = .ok (.ifCond .ne 12, 3) := by decide +kernel
theorem dX3_isChanged_54 : decode cX3_isChanged 54 = .ok (.aload_n 0, 1) := by decide +kernel
theorem dX3_isChanged_55 : decode cX3_isChanged 55 = .ok (.iload_n 1, 1) := by decide +kernel
theorem dX3_isChanged_56 : decode cX3_isChanged 56 = .ok (.aload_n 2, 1) := by decide +kernel
theorem dX3_isChanged_57 : decode cX3_isChanged 57 = .ok (.invokevirtual 100, 3) := by decide +kernel
theorem dX3_isChanged_60 : decode cX3_isChanged 60 = .ok (.ifCond .eq 7, 3) := by decide +kernel
theorem dX3_isChanged_63 : decode cX3_isChanged 63 = .ok (.iconst 1, 1) := by decide +kernel
theorem dX3_isChanged_64 : decode cX3_isChanged 64 = .ok (.goto 4, 3) := by decide +kernel
theorem dX3_isChanged_67 : decode cX3_isChanged 67 = .ok (.iconst 0, 1) := by decide +kernel
theorem dX3_isChanged_68 : decode cX3_isChanged 68 = .ok (.ireturn, 1) := by decide +kernel
theorem dX3_isOther_0 : decode cX3_isOther 0 = .ok (.aload_n 2, 1) := by decide +kernel
theorem dX3_isOther_1 : decode cX3_isOther 1 = .ok (.iload_n 1, 1) := by decide +kernel
theorem dX3_isOther_2 : decode cX3_isOther 2 = .ok (.iload_n 3, 1) := by decide +kernel
theorem dX3_isOther_3 : decode cX3_isOther 3 = .ok (.invokevirtual 103, 3) := by decide +kernel
theorem dX3_isOther_6 : decode cX3_isOther 6 = .ok (.aload_n 0, 1) := by decide +kernel
theorem dX3_isOther_7 : decode cX3_isOther 7 = .ok (.getfield 12, 3) := by decide +kernel
theorem dX3_isOther_10 : decode cX3_isOther 10 = .ok (.getfield 82, 3) := by decide +kernel
theorem dX3_isOther_13 : decode cX3_isOther 13 = .ok (.iload_n 1, 1) := by decide +kernel
theorem dX3_isOther_14 : decode cX3_isOther 14 = .ok (.iload_n 3, 1) := by decide +kernel
theorem dX3_isOther_15 : decode cX3_isOther 15 = .ok (.invokevirtual 103, 3) := by decide +kernel
theorem dX3_isOther_18 : decode cX3_isOther 18 = .ok (.if_icmp .eq 7, 3) := by decide +kernel
theorem dX3_isOther_21 : decode cX3_isOther 21 = .ok (.iconst 1, 1) := by decide +kernel
theorem dX3_isOther_22 : decode cX3_isOther 22 = .ok (.goto 4, 3) := by decide +kernel
theorem dX3_isOther_25 : decode cX3_isOther 25 = .ok (.iconst 0, 1) := by decide +kernel
theorem dX3_isOther_26 : decode cX3_isOther 26 = .ok (.ireturn, 1) := by decide +kernel
theorem dX3_hasNewChild_0 : decode cX3_hasNewChild 0 = .ok (.iconst 1, 1) := by decide +kernel
theorem dX3_hasNewChild_1 : decode cX3_hasNewChild 1 = .ok (.istore_n 3, 1) := by decide +kernel
theorem dX3_hasNewChild_2 : decode cX3_hasNewChild 2 = .ok (.iload_n 3, 1) := by decide +kernel
theorem dX3_hasNewChild_3 : decode cX3_hasNewChild 3 = .ok (.bipush 16, 2) := by decide +kernel
theorem dX3_hasNewChild_5 : decode cX3_hasNewChild 5 = .ok (.if_icmp .ge 35, 3) := by decide +kernel
theorem dX3_hasNewChild_8 : decode cX3_hasNewChild 8 = .ok (.aload_n 2, 1) := by decide +kernel
theorem dX3_hasNewChild_9 : decode cX3_hasNewChild 9 = .ok (.iload_n 3, 1) := by decide +kernel
theorem dX3_hasNewChild_10 : decode cX3_hasNewChild 10 = .ok (.iload_n 1, 1) := by decide +kernel
theorem dX3_hasNewChild_11 : decode cX3_hasNewChild 11 = .ok (.invokevirtual 107, 3) := by decide +kernel
theorem dX3_hasNewChild_14 : decode cX3_hasNewChild 14 = .ok (.ifCond .eq 20, 3) := by decide +kernel
theorem dX3_hasNewChild_17 : decode cX3_hasNewChild 17 = .ok (.aload_n 0, 1) := by decide +kernel
theorem dX3_hasNewChild_18 : decode cX3_hasNewChild 18 = .ok (.getfield 12, 3) := by decide +kernel
theorem dX3_hasNewChild_21 : decode cX3_hasNewChild 21 = .ok (.getfield 82, 3) := by decide +kernel
theorem dX3_hasNewChild_24 : decode cX3_hasNewChild 24 = .ok (.iload_n 3, 1) := by decide +kernel
theorem dX3_hasNewChild_25 : decode cX3_hasNewChild 25 = .ok (.iload_n 1, 1) := by decide +kernel
theorem dX3_hasNewChild_26 : decode cX3_hasNewChild 26 = .ok (.invokevirtual 107, 3) := by decide +kernel
theorem dX3_hasNewChild_29 : decode cX3_hasNewChild 29 = .ok (.ifCond .ne 5, 3) := by decide +kernel
theorem dX3_hasNewChild_32 : decode cX3_hasNewChild 32 = .ok (.iconst 1, 1) := by decide +kernel
theorem dX3_hasNewChild_33 : decode cX3_hasNewChild 33 = .ok (.ireturn, 1) := by decide +kernel
theorem dX3_hasNewChild_34 : decode cX3_hasNewChild 34 = .ok (.iinc 3 1, 3) := by decide +kernel
theorem dX3_hasNewChild_37 : decode cX3_hasNewChild 37 = .ok (.goto (-35), 3) := by decide +kernel
theorem dX3_hasNewChild_40 : decode cX3_hasNewChild 40 = .ok (.iconst 0, 1) := by decide +kernel
theorem dX3_hasNewChild_41 : decode cX3_hasNewChild 41 = .ok (.ireturn, 1) := by decide +kernel
theorem dX3_chooseTraits_0 : decode cX3_chooseTraits 0 = .ok (.iconst 0, 1) := by decide +kernel
theorem dX3_chooseTraits_1 : decode cX3_chooseTraits 1 = .ok (.istore_n 3, 1) := by decide +kernel
theorem dX3_chooseTraits_2 : decode cX3_chooseTraits 2 = .ok (.iload_n 3, 1) := by decide +kernel
theorem dX3_chooseTraits_3 : decode cX3_chooseTraits 3 = .ok (.bipush 16, 2) := by decide +kernel
theorem dX3_chooseTraits_5 : decode cX3_chooseTraits 5 = .ok (.if_icmp .ge 89, 3) := by decide +kernel
theorem dX3_chooseTraits_8 : decode cX3_chooseTraits 8 = .ok (.aload_n 0, 1) := by decide +kernel
theorem dX3_chooseTraits_9 : decode cX3_chooseTraits 9 = .ok (.getfield 21, 3) := by decide +kernel
theorem dX3_chooseTraits_12 : decode cX3_chooseTraits 12 = .ok (.iload_n 3, 1) := by decide +kernel
theorem dX3_chooseTraits_13 : decode cX3_chooseTraits 13 = .ok (.invokevirtual 75, 3) := by decide +kernel
theorem dX3_chooseTraits_16 : decode cX3_chooseTraits 16 = .ok (.ifCond .ne 6, 3) := by decide +kernel
theorem dX3_chooseTraits_19 : decode cX3_chooseTraits 19 = .ok (.goto 69, 3) := by decide +kernel
theorem dX3_chooseTraits_22 : decode cX3_chooseTraits 22 = .ok (.aload_n 0, 1) := by decide +kernel
theorem dX3_chooseTraits_23 : decode cX3_chooseTraits 23 = .ok (.iload_n 3, 1) := by decide +kernel
theorem dX3_chooseTraits_24 : decode cX3_chooseTraits 24 = .ok (.iload_n 1, 1) := by decide +kernel
theorem dX3_chooseTraits_25 : decode cX3_chooseTraits 25 = .ok (.invokevirtual 111, 3) := by decide +kernel
theorem dX3_chooseTraits_28 : decode cX3_chooseTraits 28 = .ok (.astore 4, 2) := by decide +kernel
theorem dX3_chooseTraits_30 : decode cX3_chooseTraits 30 = .ok (.aload_n 0, 1) := by decide +kernel
theorem dX3_chooseTraits_31 : decode cX3_chooseTraits 31 = .ok (.getfield 21, 3) := by decide +kernel
theorem dX3_chooseTraits_34 : decode cX3_chooseTraits 34 = .ok (.iload_n 3, 1) := by decide +kernel
theorem dX3_chooseTraits_35 : decode cX3_chooseTraits 35 = .ok (.iload_n 1, 1) := by decide +kernel
theorem dX3_chooseTraits_36 : decode cX3_chooseTraits 36 = .ok (.aload 4, 2) := by decide +kernel
theorem dX3_chooseTraits_38 : decode cX3_chooseTraits 38 = .ok (.iload_n 3, 1) := by decide +kernel
theorem dX3_chooseTraits_39 : decode cX3_chooseTraits 39 = .ok (.iload_n 1, 1) := by decide +kernel
theorem dX3_chooseTraits_40 : decode cX3_chooseTraits 40 = .ok (.invokevirtual 103, 3) := by decide +kernel
theorem dX3_chooseTraits_43 : decode cX3_chooseTraits 43 = .ok (.invokevirtual 115, 3) := by decide +kernel
theorem dX3_chooseTraits_46 : decode cX3_chooseTraits 46 = .ok (.aload_n 0, 1) := by decide +kernel
theorem dX3_chooseTraits_47 : decode cX3_chooseTraits 47 = .ok (.iload_n 3, 1) := by decide +kernel
theorem dX3_chooseTraits_48 : decode cX3_chooseTraits 48 = .ok (.iload_n 1, 1) := by decide +kernel
theorem dX3_chooseTraits_49 : decode cX3_chooseTraits 49 = .ok (.invokevirtual 118, 3) := by decide +kernel
theorem dX3_chooseTraits_52 : decode cX3_chooseTraits 52 = .ok (.ifCond .eq 36, 3) := by decide +kernel
theorem dX3_chooseTraits_55 : decode cX3_chooseTraits 55 = .ok (.iload_n 1, 1) := by decide +kernel
theorem dX3_chooseTraits_56 : decode cX3_chooseTraits 56 = .ok (.ifCond .ne 18, 3) := by decide +kernel
theorem dX3_chooseTraits_59 : decode cX3_chooseTraits 59 = .ok (.aload_n 0, 1) := by decide +kernel
theorem dX3_chooseTraits_60 : decode cX3_chooseTraits 60 = .ok (.getfield 12, 3) := by decide +kernel
theorem dX3_chooseTraits_63 : decode cX3_chooseTraits 63 = .ok (.invokevirtual 121, 3) := by decide +kernel
theorem dX3_chooseTraits_66 : decode cX3_chooseTraits 66 = .ok (.iload_n 3, 1) := by decide +kernel
theorem dX3_chooseTraits_67 : decode cX3_chooseTraits 67 = .ok (.iconst 0, 1) := by decide +kernel
theorem dX3_chooseTraits_68 : decode cX3_chooseTraits 68 = .ok (.invokevirtual 103, 3) := by decide +kernel
theorem dX3_chooseTraits_71 : decode cX3_chooseTraits 71 = .ok (.goto 4, 3) := by decide +kernel
theorem dX3_chooseTraits_74 : decode cX3_chooseTraits 74 = .ok (.iload_n 3, 1) := by decide +kernel
theorem dX3_chooseTraits_75 : decode cX3_chooseTraits 75 = .ok (.istore 5, 2) := by decide +kernel
theorem dX3_chooseTraits_77 : decode cX3_chooseTraits 77 = .ok (.aload_n 0, 1) := by decide +kernel
theorem dX3_chooseTraits_78 : decode cX3_chooseTraits 78 = .ok (.getfield 30, 3) := by decide +kernel
theorem dX3_chooseTraits_81 : decode cX3_chooseTraits 81 = .ok (.iload_n 2, 1) := by decide +kernel
theorem dX3_chooseTraits_82 : decode cX3_chooseTraits 82 = .ok (.iload_n 3, 1) := by decide +kernel
theorem dX3_chooseTraits_83 : decode cX3_chooseTraits 83 = .ok (.iload 5, 2) := by decide +kernel
theorem dX3_chooseTraits_85 : decode cX3_chooseTraits 85 = .ok (.invokevirtual 92, 3) := by decide +kernel
theorem dX3_chooseTraits_88 : decode cX3_chooseTraits 88 = .ok (.iinc 3 1, 3) := by decide +kernel
theorem dX3_chooseTraits_91 : decode cX3_chooseTraits 91 = .ok (.goto (-89), 3) := by decide +kernel
theorem dX3_chooseTraits_94 : decode cX3_chooseTraits 94 = .ok (.return_, 1) := by decide +kernel
theorem dX3_sourceOf_0 : decode cX3_sourceOf 0 = .ok (.aload_n 0, 1) := by decide +kernel
theorem dX3_sourceOf_1 : decode cX3_sourceOf 1 = .ok (.getfield 12, 3) := by decide +kernel
theorem dX3_sourceOf_4 : decode cX3_sourceOf 4 = .ok (.invokevirtual 125, 3) := by decide +kernel
theorem dX3_sourceOf_7 : decode cX3_sourceOf 7 = .ok (.astore_n 3, 1) := by decide +kernel
theorem dX3_sourceOf_8 : decode cX3_sourceOf 8 = .ok (.aload_n 0, 1) := by decide +kernel
theorem dX3_sourceOf_9 : decode cX3_sourceOf 9 = .ok (.getfield 12, 3) := by decide +kernel
theorem dX3_sourceOf_12 : decode cX3_sourceOf 12 = .ok (.invokevirtual 121, 3) := by decide +kernel
theorem dX3_sourceOf_15 : decode cX3_sourceOf 15 = .ok (.astore 4, 2) := by decide +kernel
theorem dX3_sourceOf_17 : decode cX3_sourceOf 17 = .ok (.aload_n 3, 1) := by decide +kernel
theorem dX3_sourceOf_18 : decode cX3_sourceOf 18 = .ok (.iload_n 1, 1) := by decide +kernel
theorem dX3_sourceOf_19 : decode cX3_sourceOf 19 = .ok (.invokevirtual 75, 3) := by decide +kernel
theorem dX3_sourceOf_22 : decode cX3_sourceOf 22 = .ok (.ifCond .ne 6, 3) := by decide +kernel
theorem dX3_sourceOf_25 : decode cX3_sourceOf 25 = .ok (.aload 4, 2) := by decide +kernel
theorem dX3_sourceOf_27 : decode cX3_sourceOf 27 = .ok (.areturn, 1) := by decide +kernel
theorem dX3_sourceOf_28 : decode cX3_sourceOf 28 = .ok (.aload_n 0, 1) := by decide +kernel
theorem dX3_sourceOf_29 : decode cX3_sourceOf 29 = .ok (.getfield 12, 3) := by decide +kernel
theorem dX3_sourceOf_32 : decode cX3_sourceOf 32 = .ok (.getfield 82, 3) := by decide +kernel
theorem dX3_sourceOf_35 : decode cX3_sourceOf 35 = .ok (.iload_n 1, 1) := by decide +kernel
theorem dX3_sourceOf_36 : decode cX3_sourceOf 36 = .ok (.invokevirtual 75, 3) := by decide +kernel
theorem dX3_sourceOf_39 : decode cX3_sourceOf 39 = .ok (.ifCond .eq 17, 3) := by decide +kernel
theorem dX3_sourceOf_42 : decode cX3_sourceOf 42 = .ok (.aload_n 0, 1) := by decide +kernel
theorem dX3_sourceOf_43 : decode cX3_sourceOf 43 = .ok (.iload_n 1, 1) := by decide +kernel
theorem dX3_sourceOf_44 : decode cX3_sourceOf 44 = .ok (.aload_n 3, 1) := by decide +kernel
theorem dX3_sourceOf_45 : decode cX3_sourceOf 45 = .ok (.iload_n 2, 1) := by decide +kernel
theorem dX3_sourceOf_46 : decode cX3_sourceOf 46 = .ok (.invokevirtual 96, 3) := by decide +kernel
theorem dX3_sourceOf_49 : decode cX3_sourceOf 49 = .ok (.ifCond .ne 7, 3) := by decide +kernel
theorem dX3_sourceOf_52 : decode cX3_sourceOf 52 = .ok (.iconst 1, 1) := by decide +kernel
theorem dX3_sourceOf_53 : decode cX3_sourceOf 53 = .ok (.goto 4, 3) := by decide +kernel
theorem dX3_sourceOf_56 : decode cX3_sourceOf 56 = .ok (.iconst 0, 1) := by decide +kernel
theorem dX3_sourceOf_57 : decode cX3_sourceOf 57 = .ok (.istore 5, 2) := by decide +kernel
theorem dX3_sourceOf_59 : decode cX3_sourceOf 59 = .ok (.aload 4, 2) := by decide +kernel
theorem dX3_sourceOf_61 : decode cX3_sourceOf 61 = .ok (.iload_n 1, 1) := by decide +kernel
theorem dX3_sourceOf_62 : decode cX3_sourceOf 62 = .ok (.invokevirtual 75, 3) := by decide +kernel
theorem dX3_sourceOf_65 : decode cX3_sourceOf 65 = .ok (.ifCond .eq 13, 3) := by decide +kernel
theorem dX3_sourceOf_68 : decode cX3_sourceOf 68 = .ok (.iload 5, 2) := by decide +kernel
theorem dX3_sourceOf_70 : decode cX3_sourceOf 70 = .ok (.ifCond .eq 8, 3) := by decide +kernel
theorem dX3_sourceOf_73 : decode cX3_sourceOf 73 = .ok (.aload 4, 2) := by decide +kernel
theorem dX3_sourceOf_75 : decode cX3_sourceOf 75 = .ok (.goto 4, 3) := by decide +kernel
theorem dX3_sourceOf_78 : decode cX3_sourceOf 78 = .ok (.aload_n 3, 1) := by decide +kernel
theorem dX3_sourceOf_79 : decode cX3_sourceOf 79 = .ok (.areturn, 1) := by decide +kernel
theorem dX3_isDisputed_0 : decode cX3_isDisputed 0 = .ok (.aload_n 0, 1) := by decide +kernel
theorem dX3_isDisputed_1 : decode cX3_isDisputed 1 = .ok (.getfield 12, 3) := by decide +kernel
theorem dX3_isDisputed_4 : decode cX3_isDisputed 4 = .ok (.invokevirtual 125, 3) := by decide +kernel
theorem dX3_isDisputed_7 : decode cX3_isDisputed 7 = .ok (.astore_n 3, 1) := by decide +kernel
theorem dX3_isDisputed_8 : decode cX3_isDisputed 8 = .ok (.aload_n 0, 1) := by decide +kernel
theorem dX3_isDisputed_9 : decode cX3_isDisputed 9 = .ok (.getfield 12, 3) := by decide +kernel
theorem dX3_isDisputed_12 : decode cX3_isDisputed 12 = .ok (.invokevirtual 121, 3) := by decide +kernel
theorem dX3_isDisputed_15 : decode cX3_isDisputed 15 = .ok (.astore 4, 2) := by decide +kernel
theorem dX3_isDisputed_17 : decode cX3_isDisputed 17 = .ok (.aload_n 3, 1) := by decide +kernel
theorem dX3_isDisputed_18 : decode cX3_isDisputed 18 = .ok (.iload_n 1, 1) := by decide +kernel
theorem dX3_isDisputed_19 : decode cX3_isDisputed 19 = .ok (.invokevirtual 75, 3) := by decide +kernel
theorem dX3_isDisputed_22 : decode cX3_isDisputed 22 = .ok (.ifCond .eq 28, 3) := by decide +kernel
theorem dX3_isDisputed_25 : decode cX3_isDisputed 25 = .ok (.aload 4, 2) := by decide +kernel
theorem dX3_isDisputed_27 : decode cX3_isDisputed 27 = .ok (.iload_n 1, 1) := by decide +kernel
theorem dX3_isDisputed_28 : decode cX3_isDisputed 28 = .ok (.invokevirtual 75, 3) := by decide +kernel
theorem dX3_isDisputed_31 : decode cX3_isDisputed 31 = .ok (.ifCond .eq 19, 3) := by decide +kernel
theorem dX3_isDisputed_34 : decode cX3_isDisputed 34 = .ok (.aload_n 3, 1) := by decide +kernel
theorem dX3_isDisputed_35 : decode cX3_isDisputed 35 = .ok (.iload_n 1, 1) := by decide +kernel
theorem dX3_isDisputed_36 : decode cX3_isDisputed 36 = .ok (.iload_n 2, 1) := by decide +kernel
theorem dX3_isDisputed_37 : decode cX3_isDisputed 37 = .ok (.invokevirtual 103, 3) := by decide +kernel
theorem dX3_isDisputed_40 : decode cX3_isDisputed 40 = .ok (.aload 4, 2) := by decide +kernel
theorem dX3_isDisputed_42 : decode cX3_isDisputed 42 = .ok (.iload_n 1, 1) := by decide +kernel
theorem dX3_isDisputed_43 : decode cX3_isDisputed 43 = .ok (.iload_n 2, 1) := by decide +kernel
theorem dX3_isDisputed_44 : decode cX3_isDisputed 44 = .ok (.invokevirtual 103, 3) := by decide +kernel
theorem dX3_isDisputed_47 : decode cX3_isDisputed 47 = .ok (.if_icmp .ne 5, 3) := by decide +kernel
theorem dX3_isDisputed_50 : decode cX3_isDisputed 50 = .ok (.iconst 0, 1) := by decide +kernel
theorem dX3_isDisputed_51 : decode cX3_isDisputed 51 = .ok (.ireturn, 1) := by decide +kernel
theorem dX3_isDisputed_52 : decode cX3_isDisputed 52 = .ok (.aload_n 0, 1) := by decide +kernel
theorem dX3_isDisputed_53 : decode cX3_isDisputed 53 = .ok (.getfield 12, 3) := by decide +kernel
theorem dX3_isDisputed_56 : decode cX3_isDisputed 56 = .ok (.getfield 82, 3) := by decide +kernel
theorem dX3_isDisputed_59 : decode cX3_isDisputed 59 = .ok (.iload_n 1, 1) := by decide +kernel
theorem dX3_isDisputed_60 : decode cX3_isDisputed 60 = .ok (.invokevirtual 75, 3) := by decide +kernel
theorem dX3_isDisputed_63 : decode cX3_isDisputed 63 = .ok (.ifCond .eq 24, 3) := by decide +kernel
theorem dX3_isDisputed_66 : decode cX3_isDisputed 66 = .ok (.aload_n 0, 1) := by decide +kernel
theorem dX3_isDisputed_67 : decode cX3_isDisputed 67 = .ok (.iload_n 1, 1) := by decide +kernel
theorem dX3_isDisputed_68 : decode cX3_isDisputed 68 = .ok (.aload_n 3, 1) := by decide +kernel
theorem dX3_isDisputed_69 : decode cX3_isDisputed 69 = .ok (.iload_n 2, 1) := by decide +kernel
theorem dX3_isDisputed_70 : decode cX3_isDisputed 70 = .ok (.invokevirtual 96, 3) := by decide +kernel
theorem dX3_isDisputed_73 : decode cX3_isDisputed 73 = .ok (.ifCond .eq 18, 3) := by decide +kernel
theorem dX3_isDisputed_76 : decode cX3_isDisputed 76 = .ok (.aload_n 0, 1) := by decide +kernel
theorem dX3_isDisputed_77 : decode cX3_isDisputed 77 = .ok (.iload_n 1, 1) := by decide +kernel
theorem dX3_isDisputed_78 : decode cX3_isDisputed 78 = .ok (.aload 4, 2) := by decide +kernel
theorem dX3_isDisputed_80 : decode cX3_isDisputed 80 = .ok (.iload_n 2, 1) := by decide +kernel
theorem dX3_isDisputed_81 : decode cX3_isDisputed 81 = .ok (.invokevirtual 96, 3) := by decide +kernel
theorem dX3_isDisputed_84 : decode cX3_isDisputed 84 = .ok (.ifCond .eq 7, 3) := by decide +kernel
theorem dX3_isDisputed_87 : decode cX3_isDisputed 87 = .ok (.iconst 1, 1) := by decide +kernel
theorem dX3_isDisputed_88 : decode cX3_isDisputed 88 = .ok (.goto 4, 3) := by decide +kernel
theorem dX3_isDisputed_91 : decode cX3_isDisputed 91 = .ok (.iconst 0, 1) := by decide +kernel
theorem dX3_isDisputed_92 : decode cX3_isDisputed 92 = .ok (.ireturn, 1) := by decide +kernel
theorem dX3_rehang_0 : decode cX3_rehang 0 = .ok (.iconst 1, 1) := by decide +kernel
theorem dX3_rehang_1 : decode cX3_rehang 1 = .ok (.istore_n 1, 1) := by decide +kernel
theorem dX3_rehang_2 : decode cX3_rehang 2 = .ok (.iload_n 1, 1) := by decide +kernel
theorem dX3_rehang_3 : decode cX3_rehang 3 = .ok (.bipush 16, 2) := by decide +kernel
theorem dX3_rehang_5 : decode cX3_rehang 5 = .ok (.if_icmp .ge 65, 3) := by decide +kernel
theorem dX3_rehang_8 : decode cX3_rehang 8 = .ok (.aload_n 0, 1) := by decide +kernel
theorem dX3_rehang_9 : decode cX3_rehang 9 = .ok (.getfield 21, 3) := by decide +kernel
theorem dX3_rehang_12 : decode cX3_rehang 12 = .ok (.iload_n 1, 1) := by decide +kernel
theorem dX3_rehang_13 : decode cX3_rehang 13 = .ok (.iconst 0, 1) := by decide +kernel
theorem dX3_rehang_14 : decode cX3_rehang 14 = .ok (.invokevirtual 103, 3) := by decide +kernel
theorem dX3_rehang_17 : decode cX3_rehang 17 = .ok (.istore_n 2, 1) := by decide +kernel
theorem dX3_rehang_18 : decode cX3_rehang 18 = .ok (.aload_n 0, 1) := by decide +kernel
theorem dX3_rehang_19 : decode cX3_rehang 19 = .ok (.getfield 21, 3) := by decide +kernel
theorem dX3_rehang_22 : decode cX3_rehang 22 = .ok (.iload_n 1, 1) := by decide +kernel
theorem dX3_rehang_23 : decode cX3_rehang 23 = .ok (.invokevirtual 75, 3) := by decide +kernel
theorem dX3_rehang_26 : decode cX3_rehang 26 = .ok (.ifCond .eq 38, 3) := by decide +kernel
theorem dX3_rehang_29 : decode cX3_rehang 29 = .ok (.aload_n 0, 1) := by decide +kernel
theorem dX3_rehang_30 : decode cX3_rehang 30 = .ok (.getfield 21, 3) := by decide +kernel
theorem dX3_rehang_33 : decode cX3_rehang 33 = .ok (.iload_n 2, 1) := by decide +kernel
theorem dX3_rehang_34 : decode cX3_rehang 34 = .ok (.invokevirtual 75, 3) := by decide +kernel
theorem dX3_rehang_37 : decode cX3_rehang 37 = .ok (.ifCond .ne 27, 3) := by decide +kernel
theorem dX3_rehang_40 : decode cX3_rehang 40 = .ok (.aload_n 0, 1) := by decide +kernel
theorem dX3_rehang_41 : decode cX3_rehang 41 = .ok (.getfield 21, 3) := by decide +kernel
theorem dX3_rehang_44 : decode cX3_rehang 44 = .ok (.iload_n 1, 1) := by decide +kernel
theorem dX3_rehang_45 : decode cX3_rehang 45 = .ok (.iconst 0, 1) := by decide +kernel
theorem dX3_rehang_46 : decode cX3_rehang 46 = .ok (.aload_n 0, 1) := by decide +kernel
theorem dX3_rehang_47 : decode cX3_rehang 47 = .ok (.iload_n 2, 1) := by decide +kernel
theorem dX3_rehang_48 : decode cX3_rehang 48 = .ok (.invokevirtual 128, 3) := by decide +kernel
theorem dX3_rehang_51 : decode cX3_rehang 51 = .ok (.invokevirtual 115, 3) := by decide +kernel
theorem dX3_rehang_54 : decode cX3_rehang 54 = .ok (.aload_n 0, 1) := by decide +kernel
theorem dX3_rehang_55 : decode cX3_rehang 55 = .ok (.getfield 30, 3) := by decide +kernel
theorem dX3_rehang_58 : decode cX3_rehang 58 = .ok (.iconst 4, 1) := by decide +kernel
theorem dX3_rehang_59 : decode cX3_rehang 59 = .ok (.iload_n 1, 1) := by decide +kernel
theorem dX3_rehang_60 : decode cX3_rehang 60 = .ok (.iload_n 2, 1) := by decide +kernel
theorem dX3_rehang_61 : decode cX3_rehang 61 = .ok (.invokevirtual 92, 3) := by decide +kernel
theorem dX3_rehang_64 : decode cX3_rehang 64 = .ok (.iinc 1 1, 3) := by decide +kernel
theorem dX3_rehang_67 : decode cX3_rehang 67 = .ok (.goto (-65), 3) := by decide +kernel
theorem dX3_rehang_70 : decode cX3_rehang 70 = .ok (.return_, 1) := by decide +kernel
theorem dX3_nearest_0 : decode cX3_nearest 0 = .ok (.iload_n 1, 1) := by decide +kernel
theorem dX3_nearest_1 : decode cX3_nearest 1 = .ok (.istore_n 2, 1) := by decide +kernel
theorem dX3_nearest_2 : decode cX3_nearest 2 = .ok (.iconst 0, 1) := by decide +kernel
theorem dX3_nearest_3 : decode cX3_nearest 3 = .ok (.istore_n 3, 1) := by decide +kernel
theorem dX3_nearest_4 : decode cX3_nearest 4 = .ok (.iload_n 3, 1) := by decide +kernel
theorem dX3_nearest_5 : decode cX3_nearest 5 = .ok (.bipush 16, 2) := by decide +kernel
theorem dX3_nearest_7 : decode cX3_nearest 7 = .ok (.if_icmp .ge 35, 3) := by decide +kernel
theorem dX3_nearest_10 : decode cX3_nearest 10 = .ok (.aload_n 0, 1) := by decide +kernel
theorem dX3_nearest_11 : decode cX3_nearest 11 = .ok (.getfield 21, 3) := by decide +kernel
theorem dX3_nearest_14 : decode cX3_nearest 14 = .ok (.iload_n 2, 1) := by decide +kernel
theorem dX3_nearest_15 : decode cX3_nearest 15 = .ok (.invokevirtual 75, 3) := by decide +kernel
theorem dX3_nearest_18 : decode cX3_nearest 18 = .ok (.ifCond .eq 5, 3) := by decide +kernel
theorem dX3_nearest_21 : decode cX3_nearest 21 = .ok (.iload_n 2, 1) := by decide +kernel
theorem dX3_nearest_22 : decode cX3_nearest 22 = .ok (.ireturn, 1) := by decide +kernel
theorem dX3_nearest_23 : decode cX3_nearest 23 = .ok (.aload_n 0, 1) := by decide +kernel
theorem dX3_nearest_24 : decode cX3_nearest 24 = .ok (.getfield 12, 3) := by decide +kernel
theorem dX3_nearest_27 : decode cX3_nearest 27 = .ok (.getfield 82, 3) := by decide +kernel
theorem dX3_nearest_30 : decode cX3_nearest 30 = .ok (.iload_n 2, 1) := by decide +kernel
theorem dX3_nearest_31 : decode cX3_nearest 31 = .ok (.iconst 0, 1) := by decide +kernel
theorem dX3_nearest_32 : decode cX3_nearest 32 = .ok (.invokevirtual 103, 3) := by decide +kernel
theorem dX3_nearest_35 : decode cX3_nearest 35 = .ok (.istore_n 2, 1) := by decide +kernel
theorem dX3_nearest_36 : decode cX3_nearest 36 = .ok (.iinc 3 1, 3) := by decide +kernel
theorem dX3_nearest_39 : decode cX3_nearest 39 = .ok (.goto (-35), 3) := by decide +kernel
theorem dX3_nearest_42 : decode cX3_nearest 42 = .ok (.iconst 0, 1) := by decide +kernel
theorem dX3_nearest_43 : decode cX3_nearest 43 = .ok (.ireturn, 1) := by decide +kernel
theorem dX3_undoRings_0 : decode cX3_undoRings 0 = .ok (.iconst 0, 1) := by decide +kernel
theorem dX3_undoRings_1 : decode cX3_undoRings 1 = .ok (.istore_n 1, 1) := by decide +kernel
theorem dX3_undoRings_2 : decode cX3_undoRings 2 = .ok (.iload_n 1, 1) := by decide +kernel
theorem dX3_undoRings_3 : decode cX3_undoRings 3 = .ok (.bipush 16, 2) := by decide +kernel
theorem dX3_undoRings_5 : decode cX3_undoRings 5 = .ok (.if_icmp .ge 16, 3) := by decide +kernel
theorem dX3_undoRings_8 : decode cX3_undoRings 8 = .ok (.aload_n 0, 1) := by decide +kernel
theorem dX3_undoRings_9 : decode cX3_undoRings 9 = .ok (.getfield 34, 3) := by decide +kernel
theorem dX3_undoRings_12 : decode cX3_undoRings 12 = .ok (.iload_n 1, 1) := by decide +kernel
theorem dX3_undoRings_13 : decode cX3_undoRings 13 = .ok (.iconst 0, 1) := by decide +kernel
theorem dX3_undoRings_14 : decode cX3_undoRings 14 = .ok (.bastore, 1) := by decide +kernel
theorem dX3_undoRings_15 : decode cX3_undoRings 15 = .ok (.iinc 1 1, 3) := by decide +kernel
theorem dX3_undoRings_18 : decode cX3_undoRings 18 = .ok (.goto (-16), 3) := by decide +kernel
theorem dX3_undoRings_21 : decode cX3_undoRings 21 = .ok (.aload_n 0, 1) := by decide +kernel
theorem dX3_undoRings_22 : decode cX3_undoRings 22 = .ok (.invokevirtual 132, 3) := by decide +kernel
theorem dX3_undoRings_25 : decode cX3_undoRings 25 = .ok (.istore_n 1, 1) := by decide +kernel
theorem dX3_undoRings_26 : decode cX3_undoRings 26 = .ok (.iconst 0, 1) := by decide +kernel
theorem dX3_undoRings_27 : decode cX3_undoRings 27 = .ok (.istore_n 2, 1) := by decide +kernel
theorem dX3_undoRings_28 : decode cX3_undoRings 28 = .ok (.iload_n 2, 1) := by decide +kernel
theorem dX3_undoRings_29 : decode cX3_undoRings 29 = .ok (.bipush 32, 2) := by decide +kernel
theorem dX3_undoRings_31 : decode cX3_undoRings 31 = .ok (.if_icmp .ge 69, 3) := by decide +kernel
theorem dX3_undoRings_34 : decode cX3_undoRings 34 = .ok (.iload_n 1, 1) := by decide +kernel
theorem dX3_undoRings_35 : decode cX3_undoRings 35 = .ok (.iconst (-1), 1) := by decide +kernel
theorem dX3_undoRings_36 : decode cX3_undoRings 36 = .ok (.if_icmp .eq 64, 3) := by decide +kernel
theorem dX3_undoRings_39 : decode cX3_undoRings 39 = .ok (.aload_n 0, 1) := by decide +kernel
theorem dX3_undoRings_40 : decode cX3_undoRings 40 = .ok (.iload_n 1, 1) := by decide +kernel
theorem dX3_undoRings_41 : decode cX3_undoRings 41 = .ok (.invokevirtual 136, 3) := by decide +kernel
theorem dX3_undoRings_44 : decode cX3_undoRings 44 = .ok (.istore_n 3, 1) := by decide +kernel
theorem dX3_undoRings_45 : decode cX3_undoRings 45 = .ok (.iload_n 3, 1) := by decide +kernel
theorem dX3_undoRings_46 : decode cX3_undoRings 46 = .ok (.invokestatic 139, 3) := by decide +kernel
theorem dX3_undoRings_49 : decode cX3_undoRings 49 = .ok (.ifCond .eq 34, 3) := by decide +kernel
theorem dX3_undoRings_52 : decode cX3_undoRings 52 = .ok (.aload_n 0, 1) := by decide +kernel
theorem dX3_undoRings_53 : decode cX3_undoRings 53 = .ok (.iload_n 3, 1) := by decide +kernel
theorem dX3_undoRings_54 : decode cX3_undoRings 54 = .ok (.aload_n 0, 1) := by decide +kernel
theorem dX3_undoRings_55 : decode cX3_undoRings 55 = .ok (.aload_n 0, 1) := by decide +kernel
theorem dX3_undoRings_56 : decode cX3_undoRings 56 = .ok (.getfield 12, 3) := by decide +kernel
theorem dX3_undoRings_59 : decode cX3_undoRings 59 = .ok (.getfield 82, 3) := by decide +kernel
theorem dX3_undoRings_62 : decode cX3_undoRings 62 = .ok (.iload_n 3, 1) := by decide +kernel
theorem dX3_undoRings_63 : decode cX3_undoRings 63 = .ok (.iconst 0, 1) := by decide +kernel
theorem dX3_undoRings_64 : decode cX3_undoRings 64 = .ok (.invokevirtual 103, 3) := by decide +kernel
theorem dX3_undoRings_67 : decode cX3_undoRings 67 = .ok (.invokevirtual 128, 3) := by decide +kernel
theorem dX3_undoRings_70 : decode cX3_undoRings 70 = .ok (.invokevirtual 142, 3) := by decide +kernel
theorem dX3_undoRings_73 : decode cX3_undoRings 73 = .ok (.aload_n 0, 1) := by decide +kernel
theorem dX3_undoRings_74 : decode cX3_undoRings 74 = .ok (.getfield 34, 3) := by decide +kernel
theorem dX3_undoRings_77 : decode cX3_undoRings 77 = .ok (.iload_n 3, 1) := by decide +kernel
theorem dX3_undoRings_78 : decode cX3_undoRings 78 = .ok (.iconst 1, 1) := by decide +kernel
theorem dX3_undoRings_79 : decode cX3_undoRings 79 = .ok (.bastore, 1) := by decide +kernel
theorem dX3_undoRings_80 : decode cX3_undoRings 80 = .ok (.goto 9, 3) := by decide +kernel
theorem dX3_undoRings_83 : decode cX3_undoRings 83 = .ok (.aload_n 0, 1) := by decide +kernel
theorem dX3_undoRings_84 : decode cX3_undoRings 84 = .ok (.iload_n 1, 1) := by decide +kernel
theorem dX3_undoRings_85 : decode cX3_undoRings 85 = .ok (.iconst 0, 1) := by decide +kernel
theorem dX3_undoRings_86 : decode cX3_undoRings 86 = .ok (.invokevirtual 142, 3) := by decide +kernel
theorem dX3_undoRings_89 : decode cX3_undoRings 89 = .ok (.aload_n 0, 1) := by decide +kernel
theorem dX3_undoRings_90 : decode cX3_undoRings 90 = .ok (.invokevirtual 132, 3) := by decide +kernel
theorem dX3_undoRings_93 : decode cX3_undoRings 93 = .ok (.istore_n 1, 1) := by decide +kernel
theorem dX3_undoRings_94 : decode cX3_undoRings 94 = .ok (.iinc 2 1, 3) := by decide +kernel
theorem dX3_undoRings_97 : decode cX3_undoRings 97 = .ok (.goto (-69), 3) := by decide +kernel
theorem dX3_undoRings_100 : decode cX3_undoRings 100 = .ok (.return_, 1) := by decide +kernel
theorem dX3_leastInRing_0 : decode cX3_leastInRing 0 = .ok (.iconst 1, 1) := by decide +kernel
theorem dX3_leastInRing_1 : decode cX3_leastInRing 1 = .ok (.istore_n 1, 1) := by decide +kernel
theorem dX3_leastInRing_2 : decode cX3_leastInRing 2 = .ok (.iload_n 1, 1) := by decide +kernel
theorem dX3_leastInRing_3 : decode cX3_leastInRing 3 = .ok (.bipush 16, 2) := by decide +kernel
theorem dX3_leastInRing_5 : decode cX3_leastInRing 5 = .ok (.if_icmp .ge 42, 3) := by decide +kernel
theorem dX3_leastInRing_8 : decode cX3_leastInRing 8 = .ok (.aload_n 0, 1) := by decide +kernel
theorem dX3_leastInRing_9 : decode cX3_leastInRing 9 = .ok (.getfield 21, 3) := by decide +kernel
theorem dX3_leastInRing_12 : decode cX3_leastInRing 12 = .ok (.iload_n 1, 1) := by decide +kernel
theorem dX3_leastInRing_13 : decode cX3_leastInRing 13 = .ok (.invokevirtual 75, 3) := by decide +kernel
theorem dX3_leastInRing_16 : decode cX3_leastInRing 16 = .ok (.ifCond .eq 25, 3) := by decide +kernel
theorem dX3_leastInRing_19 : decode cX3_leastInRing 19 = .ok (.aload_n 0, 1) := by decide +kernel
theorem dX3_leastInRing_20 : decode cX3_leastInRing 20 = .ok (.getfield 21, 3) := by decide +kernel
theorem dX3_leastInRing_23 : decode cX3_leastInRing 23 = .ok (.aload_n 0, 1) := by decide +kernel
theorem dX3_leastInRing_24 : decode cX3_leastInRing 24 = .ok (.getfield 21, 3) := by decide +kernel
theorem dX3_leastInRing_27 : decode cX3_leastInRing 27 = .ok (.iload_n 1, 1) := by decide +kernel
theorem dX3_leastInRing_28 : decode cX3_leastInRing 28 = .ok (.iconst 0, 1) := by decide +kernel
theorem dX3_leastInRing_29 : decode cX3_leastInRing 29 = .ok (.invokevirtual 103, 3) := by decide +kernel
theorem dX3_leastInRing_32 : decode cX3_leastInRing 32 = .ok (.iload_n 1, 1) := by decide +kernel
theorem dX3_leastInRing_33 : decode cX3_leastInRing 33 = .ok (.invokevirtual 145, 3) := by decide +kernel
theorem dX3_leastInRing_36 : decode cX3_leastInRing 36 = .ok (.ifCond .eq 5, 3) := by decide +kernel
theorem dX3_leastInRing_39 : decode cX3_leastInRing 39 = .ok (.iload_n 1, 1) := by decide +kernel
theorem dX3_leastInRing_40 : decode cX3_leastInRing 40 = .ok (.ireturn, 1) := by decide +kernel
theorem dX3_leastInRing_41 : decode cX3_leastInRing 41 = .ok (.iinc 1 1, 3) := by decide +kernel
theorem dX3_leastInRing_44 : decode cX3_leastInRing 44 = .ok (.goto (-42), 3) := by decide +kernel
theorem dX3_leastInRing_47 : decode cX3_leastInRing 47 = .ok (.iconst (-1), 1) := by decide +kernel
theorem dX3_leastInRing_48 : decode cX3_leastInRing 48 = .ok (.ireturn, 1) := by decide +kernel
theorem dX3_rehangFromRing_0 : decode cX3_rehangFromRing 0 = .ok (.aload_n 0, 1) := by decide +kernel
theorem dX3_rehangFromRing_1 : decode cX3_rehangFromRing 1 = .ok (.getfield 30, 3) := by decide +kernel
theorem dX3_rehangFromRing_4 : decode cX3_rehangFromRing 4 = .ok (.iconst 5, 1) := by decide +kernel
theorem dX3_rehangFromRing_5 : decode cX3_rehangFromRing 5 = .ok (.iload_n 1, 1) := by decide +kernel
theorem dX3_rehangFromRing_6 : decode cX3_rehangFromRing 6 = .ok (.aload_n 0, 1) := by decide +kernel
theorem dX3_rehangFromRing_7 : decode cX3_rehangFromRing 7 = .ok (.getfield 21, 3) := by decide +kernel
theorem dX3_rehangFromRing_10 : decode cX3_rehangFromRing 10 = .ok (.iload_n 1, 1) := by decide +kernel
theorem dX3_rehangFromRing_11 : decode cX3_rehangFromRing 11 = .ok (.iconst 0, 1) := by decide +kernel
theorem dX3_rehangFromRing_12 : decode cX3_rehangFromRing 12 = .ok (.invokevirtual 103, 3) := by decide +kernel
theorem dX3_rehangFromRing_15 : decode cX3_rehangFromRing 15 = .ok (.invokevirtual 92, 3) := by decide +kernel
theorem dX3_rehangFromRing_18 : decode cX3_rehangFromRing 18 = .ok (.aload_n 0, 1) := by decide +kernel
theorem dX3_rehangFromRing_19 : decode cX3_rehangFromRing 19 = .ok (.getfield 21, 3) := by decide +kernel
theorem dX3_rehangFromRing_22 : decode cX3_rehangFromRing 22 = .ok (.iload_n 1, 1) := by decide +kernel
theorem dX3_rehangFromRing_23 : decode cX3_rehangFromRing 23 = .ok (.iconst 0, 1) := by decide +kernel
theorem dX3_rehangFromRing_24 : decode cX3_rehangFromRing 24 = .ok (.iload_n 2, 1) := by decide +kernel
theorem dX3_rehangFromRing_25 : decode cX3_rehangFromRing 25 = .ok (.invokevirtual 115, 3) := by decide +kernel
theorem dX3_rehangFromRing_28 : decode cX3_rehangFromRing 28 = .ok (.return_, 1) := by decide +kernel
theorem dX3_leastToPutBack_0 : decode cX3_leastToPutBack 0 = .ok (.iconst 1, 1) := by decide +kernel
theorem dX3_leastToPutBack_1 : decode cX3_leastToPutBack 1 = .ok (.istore_n 2, 1) := by decide +kernel
theorem dX3_leastToPutBack_2 : decode cX3_leastToPutBack 2 = .ok (.iload_n 2, 1) := by decide +kernel
theorem dX3_leastToPutBack_3 : decode cX3_leastToPutBack 3 = .ok (.bipush 16, 2) := by decide +kernel
theorem dX3_leastToPutBack_5 : decode cX3_leastToPutBack 5 = .ok (.if_icmp .ge 40, 3) := by decide +kernel
theorem dX3_leastToPutBack_8 : decode cX3_leastToPutBack 8 = .ok (.aload_n 0, 1) := by decide +kernel
theorem dX3_leastToPutBack_9 : decode cX3_leastToPutBack 9 = .ok (.getfield 21, 3) := by decide +kernel
theorem dX3_leastToPutBack_12 : decode cX3_leastToPutBack 12 = .ok (.iload_n 1, 1) := by decide +kernel
theorem dX3_leastToPutBack_13 : decode cX3_leastToPutBack 13 = .ok (.iload_n 2, 1) := by decide +kernel
theorem dX3_leastToPutBack_14 : decode cX3_leastToPutBack 14 = .ok (.invokevirtual 145, 3) := by decide +kernel
theorem dX3_leastToPutBack_17 : decode cX3_leastToPutBack 17 = .ok (.ifCond .eq 22, 3) := by decide +kernel
theorem dX3_leastToPutBack_20 : decode cX3_leastToPutBack 20 = .ok (.aload_n 0, 1) := by decide +kernel
theorem dX3_leastToPutBack_21 : decode cX3_leastToPutBack 21 = .ok (.getfield 34, 3) := by decide +kernel
theorem dX3_leastToPutBack_24 : decode cX3_leastToPutBack 24 = .ok (.iload_n 2, 1) := by decide +kernel
theorem dX3_leastToPutBack_25 : decode cX3_leastToPutBack 25 = .ok (.baload, 1) := by decide +kernel
theorem dX3_leastToPutBack_26 : decode cX3_leastToPutBack 26 = .ok (.ifCond .ne 13, 3) := by decide +kernel
theorem dX3_leastToPutBack_29 : decode cX3_leastToPutBack 29 = .ok (.aload_n 0, 1) := by decide +kernel
theorem dX3_leastToPutBack_30 : decode cX3_leastToPutBack 30 = .ok (.iload_n 2, 1) := by decide +kernel
theorem dX3_leastToPutBack_31 : decode cX3_leastToPutBack 31 = .ok (.invokevirtual 148, 3) := by decide +kernel
theorem dX3_leastToPutBack_34 : decode cX3_leastToPutBack 34 = .ok (.ifCond .eq 5, 3) := by decide +kernel
theorem dX3_leastToPutBack_37 : decode cX3_leastToPutBack 37 = .ok (.iload_n 2, 1) := by decide +kernel
theorem dX3_leastToPutBack_38 : decode cX3_leastToPutBack 38 = .ok (.ireturn, 1) := by decide +kernel
theorem dX3_leastToPutBack_39 : decode cX3_leastToPutBack 39 = .ok (.iinc 2 1, 3) := by decide +kernel
theorem dX3_leastToPutBack_42 : decode cX3_leastToPutBack 42 = .ok (.goto (-40), 3) := by decide +kernel
theorem dX3_leastToPutBack_45 : decode cX3_leastToPutBack 45 = .ok (.iconst (-1), 1) := by decide +kernel
theorem dX3_leastToPutBack_46 : decode cX3_leastToPutBack 46 = .ok (.ireturn, 1) := by decide +kernel
theorem dX3_isMoveOfOther_0 : decode cX3_isMoveOfOther 0 = .ok (.aload_n 0, 1) := by decide +kernel
theorem dX3_isMoveOfOther_1 : decode cX3_isMoveOfOther 1 = .ok (.getfield 12, 3) := by decide +kernel
theorem dX3_isMoveOfOther_4 : decode cX3_isMoveOfOther 4 = .ok (.invokevirtual 121, 3) := by decide +kernel
theorem dX3_isMoveOfOther_7 : decode cX3_isMoveOfOther 7 = .ok (.astore_n 2, 1) := by decide +kernel
theorem dX3_isMoveOfOther_8 : decode cX3_isMoveOfOther 8 = .ok (.aload_n 0, 1) := by decide +kernel
theorem dX3_isMoveOfOther_9 : decode cX3_isMoveOfOther 9 = .ok (.getfield 12, 3) := by decide +kernel
theorem dX3_isMoveOfOther_12 : decode cX3_isMoveOfOther 12 = .ok (.getfield 82, 3) := by decide +kernel
theorem dX3_isMoveOfOther_15 : decode cX3_isMoveOfOther 15 = .ok (.iload_n 1, 1) := by decide +kernel
theorem dX3_isMoveOfOther_16 : decode cX3_isMoveOfOther 16 = .ok (.invokevirtual 75, 3) := by decide +kernel
theorem dX3_isMoveOfOther_19 : decode cX3_isMoveOfOther 19 = .ok (.ifCond .eq 11, 3) := by decide +kernel
theorem dX3_isMoveOfOther_22 : decode cX3_isMoveOfOther 22 = .ok (.aload_n 2, 1) := by decide +kernel
theorem dX3_isMoveOfOther_23 : decode cX3_isMoveOfOther 23 = .ok (.iload_n 1, 1) := by decide +kernel
theorem dX3_isMoveOfOther_24 : decode cX3_isMoveOfOther 24 = .ok (.invokevirtual 75, 3) := by decide +kernel
theorem dX3_isMoveOfOther_27 : decode cX3_isMoveOfOther 27 = .ok (.ifCond .ne 5, 3) := by decide +kernel
theorem dX3_isMoveOfOther_30 : decode cX3_isMoveOfOther 30 = .ok (.iconst 0, 1) := by decide +kernel
theorem dX3_isMoveOfOther_31 : decode cX3_isMoveOfOther 31 = .ok (.ireturn, 1) := by decide +kernel
theorem dX3_isMoveOfOther_32 : decode cX3_isMoveOfOther 32 = .ok (.aload_n 0, 1) := by decide +kernel
theorem dX3_isMoveOfOther_33 : decode cX3_isMoveOfOther 33 = .ok (.getfield 21, 3) := by decide +kernel
theorem dX3_isMoveOfOther_36 : decode cX3_isMoveOfOther 36 = .ok (.iload_n 1, 1) := by decide +kernel
theorem dX3_isMoveOfOther_37 : decode cX3_isMoveOfOther 37 = .ok (.iconst 0, 1) := by decide +kernel
theorem dX3_isMoveOfOther_38 : decode cX3_isMoveOfOther 38 = .ok (.invokevirtual 103, 3) := by decide +kernel
theorem dX3_isMoveOfOther_41 : decode cX3_isMoveOfOther 41 = .ok (.istore_n 3, 1) := by decide +kernel
theorem dX3_isMoveOfOther_42 : decode cX3_isMoveOfOther 42 = .ok (.iload_n 3, 1) := by decide +kernel
theorem dX3_isMoveOfOther_43 : decode cX3_isMoveOfOther 43 = .ok (.aload_n 2, 1) := by decide +kernel
theorem dX3_isMoveOfOther_44 : decode cX3_isMoveOfOther 44 = .ok (.iload_n 1, 1) := by decide +kernel
theorem dX3_isMoveOfOther_45 : decode cX3_isMoveOfOther 45 = .ok (.iconst 0, 1) := by decide +kernel
theorem dX3_isMoveOfOther_46 : decode cX3_isMoveOfOther 46 = .ok (.invokevirtual 103, 3) := by decide +kernel
theorem dX3_isMoveOfOther_49 : decode cX3_isMoveOfOther 49 = .ok (.if_icmp .ne 23, 3) := by decide +kernel
theorem dX3_isMoveOfOther_52 : decode cX3_isMoveOfOther 52 = .ok (.iload_n 3, 1) := by decide +kernel
theorem dX3_isMoveOfOther_53 : decode cX3_isMoveOfOther 53 = .ok (.aload_n 0, 1) := by decide +kernel
theorem dX3_isMoveOfOther_54 : decode cX3_isMoveOfOther 54 = .ok (.getfield 12, 3) := by decide +kernel
theorem dX3_isMoveOfOther_57 : decode cX3_isMoveOfOther 57 = .ok (.getfield 82, 3) := by decide +kernel
theorem dX3_isMoveOfOther_60 : decode cX3_isMoveOfOther 60 = .ok (.iload_n 1, 1) := by decide +kernel
theorem dX3_isMoveOfOther_61 : decode cX3_isMoveOfOther 61 = .ok (.iconst 0, 1) := by decide +kernel
theorem dX3_isMoveOfOther_62 : decode cX3_isMoveOfOther 62 = .ok (.invokevirtual 103, 3) := by decide +kernel
theorem dX3_isMoveOfOther_65 : decode cX3_isMoveOfOther 65 = .ok (.if_icmp .eq 7, 3) := by decide +kernel
theorem dX3_isMoveOfOther_68 : decode cX3_isMoveOfOther 68 = .ok (.iconst 1, 1) := by decide +kernel
theorem dX3_isMoveOfOther_69 : decode cX3_isMoveOfOther 69 = .ok (.goto 4, 3) := by decide +kernel
theorem dX3_isMoveOfOther_72 : decode cX3_isMoveOfOther 72 = .ok (.iconst 0, 1) := by decide +kernel
theorem dX3_isMoveOfOther_73 : decode cX3_isMoveOfOther 73 = .ok (.ireturn, 1) := by decide +kernel
theorem dX3_orderChildren_0 : decode cX3_orderChildren 0 = .ok (.iconst 1, 1) := by decide +kernel
theorem dX3_orderChildren_1 : decode cX3_orderChildren 1 = .ok (.istore_n 1, 1) := by decide +kernel
theorem dX3_orderChildren_2 : decode cX3_orderChildren 2 = .ok (.iload_n 1, 1) := by decide +kernel
theorem dX3_orderChildren_3 : decode cX3_orderChildren 3 = .ok (.bipush 16, 2) := by decide +kernel
theorem dX3_orderChildren_5 : decode cX3_orderChildren 5 = .ok (.if_icmp .ge 20, 3) := by decide +kernel
theorem dX3_orderChildren_8 : decode cX3_orderChildren 8 = .ok (.aload_n 0, 1) := by decide +kernel
theorem dX3_orderChildren_9 : decode cX3_orderChildren 9 = .ok (.getfield 38, 3) := by decide +kernel
theorem dX3_orderChildren_12 : decode cX3_orderChildren 12 = .ok (.iload_n 1, 1) := by decide +kernel
theorem dX3_orderChildren_13 : decode cX3_orderChildren 13 = .ok (.aload_n 0, 1) := by decide +kernel
theorem dX3_orderChildren_14 : decode cX3_orderChildren 14 = .ok (.iload_n 1, 1) := by decide +kernel
theorem dX3_orderChildren_15 : decode cX3_orderChildren 15 = .ok (.invokevirtual 151, 3) := by decide +kernel
theorem dX3_orderChildren_18 : decode cX3_orderChildren 18 = .ok (.iastore, 1) := by decide +kernel
theorem dX3_orderChildren_19 : decode cX3_orderChildren 19 = .ok (.iinc 1 1, 3) := by decide +kernel
theorem dX3_orderChildren_22 : decode cX3_orderChildren 22 = .ok (.goto (-20), 3) := by decide +kernel
theorem dX3_orderChildren_25 : decode cX3_orderChildren 25 = .ok (.iconst 1, 1) := by decide +kernel
theorem dX3_orderChildren_26 : decode cX3_orderChildren 26 = .ok (.istore_n 1, 1) := by decide +kernel
theorem dX3_orderChildren_27 : decode cX3_orderChildren 27 = .ok (.iload_n 1, 1) := by decide +kernel
theorem dX3_orderChildren_28 : decode cX3_orderChildren 28 = .ok (.bipush 16, 2) := by decide +kernel
theorem dX3_orderChildren_30 : decode cX3_orderChildren 30 = .ok (.if_icmp .ge 34, 3) := by decide +kernel
theorem dX3_orderChildren_33 : decode cX3_orderChildren 33 = .ok (.aload_n 0, 1) := by decide +kernel
theorem dX3_orderChildren_34 : decode cX3_orderChildren 34 = .ok (.getfield 21, 3) := by decide +kernel
theorem dX3_orderChildren_37 : decode cX3_orderChildren 37 = .ok (.iload_n 1, 1) := by decide +kernel
theorem dX3_orderChildren_38 : decode cX3_orderChildren 38 = .ok (.invokevirtual 75, 3) := by decide +kernel
theorem dX3_orderChildren_41 : decode cX3_orderChildren 41 = .ok (.ifCond .eq 17, 3) := by decide +kernel
theorem dX3_orderChildren_44 : decode cX3_orderChildren 44 = .ok (.aload_n 0, 1) := by decide +kernel
theorem dX3_orderChildren_45 : decode cX3_orderChildren 45 = .ok (.getfield 21, 3) := by decide +kernel
theorem dX3_orderChildren_48 : decode cX3_orderChildren 48 = .ok (.iload_n 1, 1) := by decide +kernel
theorem dX3_orderChildren_49 : decode cX3_orderChildren 49 = .ok (.iconst 1, 1) := by decide +kernel
theorem dX3_orderChildren_50 : decode cX3_orderChildren 50 = .ok (.aload_n 0, 1) := by decide +kernel
theorem dX3_orderChildren_51 : decode cX3_orderChildren 51 = .ok (.iload_n 1, 1) := by decide +kernel
theorem dX3_orderChildren_52 : decode cX3_orderChildren 52 = .ok (.invokevirtual 154, 3) := by decide +kernel
theorem dX3_orderChildren_55 : decode cX3_orderChildren 55 = .ok (.invokevirtual 115, 3) := by decide +kernel
theorem dX3_orderChildren_58 : decode cX3_orderChildren 58 = .ok (.iinc 1 1, 3) := by decide +kernel
theorem dX3_orderChildren_61 : decode cX3_orderChildren 61 = .ok (.goto (-34), 3) := by decide +kernel
theorem dX3_orderChildren_64 : decode cX3_orderChildren 64 = .ok (.return_, 1) := by decide +kernel
theorem dX3_keyOf_0 : decode cX3_keyOf 0 = .ok (.aload_n 0, 1) := by decide +kernel
theorem dX3_keyOf_1 : decode cX3_keyOf 1 = .ok (.getfield 21, 3) := by decide +kernel
theorem dX3_keyOf_4 : decode cX3_keyOf 4 = .ok (.iload_n 1, 1) := by decide +kernel
theorem dX3_keyOf_5 : decode cX3_keyOf 5 = .ok (.iconst 0, 1) := by decide +kernel
theorem dX3_keyOf_6 : decode cX3_keyOf 6 = .ok (.invokevirtual 103, 3) := by decide +kernel
theorem dX3_keyOf_9 : decode cX3_keyOf 9 = .ok (.istore_n 2, 1) := by decide +kernel
theorem dX3_keyOf_10 : decode cX3_keyOf 10 = .ok (.aload_n 0, 1) := by decide +kernel
theorem dX3_keyOf_11 : decode cX3_keyOf 11 = .ok (.getfield 12, 3) := by decide +kernel
theorem dX3_keyOf_14 : decode cX3_keyOf 14 = .ok (.invokevirtual 125, 3) := by decide +kernel
theorem dX3_keyOf_17 : decode cX3_keyOf 17 = .ok (.astore_n 3, 1) := by decide +kernel
theorem dX3_keyOf_18 : decode cX3_keyOf 18 = .ok (.aload_n 3, 1) := by decide +kernel
theorem dX3_keyOf_19 : decode cX3_keyOf 19 = .ok (.iload_n 1, 1) := by decide +kernel
theorem dX3_keyOf_20 : decode cX3_keyOf 20 = .ok (.iload_n 2, 1) := by decide +kernel
theorem dX3_keyOf_21 : decode cX3_keyOf 21 = .ok (.invokevirtual 107, 3) := by decide +kernel
theorem dX3_keyOf_24 : decode cX3_keyOf 24 = .ok (.ifCond .eq 12, 3) := by decide +kernel
theorem dX3_keyOf_27 : decode cX3_keyOf 27 = .ok (.iconst 2, 1) := by decide +kernel
theorem dX3_keyOf_28 : decode cX3_keyOf 28 = .ok (.aload_n 3, 1) := by decide +kernel
theorem dX3_keyOf_29 : decode cX3_keyOf 29 = .ok (.iload_n 1, 1) := by decide +kernel
theorem dX3_keyOf_30 : decode cX3_keyOf 30 = .ok (.iconst 1, 1) := by decide +kernel
theorem dX3_keyOf_31 : decode cX3_keyOf 31 = .ok (.invokevirtual 103, 3) := by decide +kernel
theorem dX3_keyOf_34 : decode cX3_keyOf 34 = .ok (.imul, 1) := by decide +kernel
theorem dX3_keyOf_35 : decode cX3_keyOf 35 = .ok (.ireturn, 1) := by decide +kernel
theorem dX3_keyOf_36 : decode cX3_keyOf 36 = .ok (.aload_n 0, 1) := by decide +kernel
theorem dX3_keyOf_37 : decode cX3_keyOf 37 = .ok (.getfield 12, 3) := by decide +kernel
theorem dX3_keyOf_40 : decode cX3_keyOf 40 = .ok (.invokevirtual 121, 3) := by decide +kernel
theorem dX3_keyOf_43 : decode cX3_keyOf 43 = .ok (.astore 4, 2) := by decide +kernel
theorem dX3_keyOf_45 : decode cX3_keyOf 45 = .ok (.aload 4, 2) := by decide +kernel
theorem dX3_keyOf_47 : decode cX3_keyOf 47 = .ok (.iload_n 1, 1) := by decide +kernel
theorem dX3_keyOf_48 : decode cX3_keyOf 48 = .ok (.iload_n 2, 1) := by decide +kernel
theorem dX3_keyOf_49 : decode cX3_keyOf 49 = .ok (.invokevirtual 107, 3) := by decide +kernel
theorem dX3_keyOf_52 : decode cX3_keyOf 52 = .ok (.ifCond .eq 17, 3) := by decide +kernel
theorem dX3_keyOf_55 : decode cX3_keyOf 55 = .ok (.iconst 2, 1) := by decide +kernel
theorem dX3_keyOf_56 : decode cX3_keyOf 56 = .ok (.aload 4, 2) := by decide +kernel
theorem dX3_keyOf_58 : decode cX3_keyOf 58 = .ok (.iload_n 1, 1) := by decide +kernel
theorem dX3_keyOf_59 : decode cX3_keyOf 59 = .ok (.iconst 1, 1) := by decide +kernel
theorem dX3_keyOf_60 : decode cX3_keyOf 60 = .ok (.invokevirtual 103, 3) := by decide +kernel
theorem dX3_keyOf_63 : decode cX3_keyOf 63 = .ok (.imul, 1) := by decide +kernel
theorem dX3_keyOf_64 : decode cX3_keyOf 64 = .ok (.iconst 1, 1) := by decide +kernel
theorem dX3_keyOf_65 : decode cX3_keyOf 65 = .ok (.iadd, 1) := by decide +kernel
theorem dX3_keyOf_66 : decode cX3_keyOf 66 = .ok (.goto 5, 3) := by decide +kernel
theorem dX3_keyOf_69 : decode cX3_keyOf 69 = .ok (.bipush 100, 2) := by decide +kernel
theorem dX3_keyOf_71 : decode cX3_keyOf 71 = .ok (.ireturn, 1) := by decide +kernel
theorem dX3_countAhead_0 : decode cX3_countAhead 0 = .ok (.iconst 0, 1) := by decide +kernel
theorem dX3_countAhead_1 : decode cX3_countAhead 1 = .ok (.istore_n 2, 1) := by decide +kernel
theorem dX3_countAhead_2 : decode cX3_countAhead 2 = .ok (.aload_n 0, 1) := by decide +kernel
theorem dX3_countAhead_3 : decode cX3_countAhead 3 = .ok (.getfield 21, 3) := by decide +kernel
theorem dX3_countAhead_6 : decode cX3_countAhead 6 = .ok (.iload_n 1, 1) := by decide +kernel
theorem dX3_countAhead_7 : decode cX3_countAhead 7 = .ok (.iconst 0, 1) := by decide +kernel
theorem dX3_countAhead_8 : decode cX3_countAhead 8 = .ok (.invokevirtual 103, 3) := by decide +kernel
theorem dX3_countAhead_11 : decode cX3_countAhead 11 = .ok (.istore_n 3, 1) := by decide +kernel
theorem dX3_countAhead_12 : decode cX3_countAhead 12 = .ok (.iconst 1, 1) := by decide +kernel
theorem dX3_countAhead_13 : decode cX3_countAhead 13 = .ok (.istore 4, 2) := by decide +kernel
theorem dX3_countAhead_15 : decode cX3_countAhead 15 = .ok (.iload 4, 2) := by decide +kernel
theorem dX3_countAhead_17 : decode cX3_countAhead 17 = .ok (.bipush 16, 2) := by decide +kernel
theorem dX3_countAhead_19 : decode cX3_countAhead 19 = .ok (.if_icmp .ge 40, 3) := by decide +kernel
theorem dX3_countAhead_22 : decode cX3_countAhead 22 = .ok (.iload_n 2, 1) := by decide +kernel
theorem dX3_countAhead_23 : decode cX3_countAhead 23 = .ok (.aload_n 0, 1) := by decide +kernel
theorem dX3_countAhead_24 : decode cX3_countAhead 24 = .ok (.getfield 21, 3) := by decide +kernel
theorem dX3_countAhead_27 : decode cX3_countAhead 27 = .ok (.iload 4, 2) := by decide +kernel
theorem dX3_countAhead_29 : decode cX3_countAhead 29 = .ok (.iload_n 3, 1) := by decide +kernel
theorem dX3_countAhead_30 : decode cX3_countAhead 30 = .ok (.invokevirtual 107, 3) := by decide +kernel
theorem dX3_countAhead_33 : decode cX3_countAhead 33 = .ok (.ifCond .eq 17, 3) := by decide +kernel
theorem dX3_countAhead_36 : decode cX3_countAhead 36 = .ok (.aload_n 0, 1) := by decide +kernel
theorem dX3_countAhead_37 : decode cX3_countAhead 37 = .ok (.iload 4, 2) := by decide +kernel
theorem dX3_countAhead_39 : decode cX3_countAhead 39 = .ok (.iload_n 1, 1) := by decide +kernel
theorem dX3_countAhead_40 : decode cX3_countAhead 40 = .ok (.invokevirtual 157, 3) := by decide +kernel
theorem dX3_countAhead_43 : decode cX3_countAhead 43 = .ok (.ifCond .eq 7, 3) := by decide +kernel
theorem dX3_countAhead_46 : decode cX3_countAhead 46 = .ok (.iconst 1, 1) := by decide +kernel
theorem dX3_countAhead_47 : decode cX3_countAhead 47 = .ok (.goto 4, 3) := by decide +kernel
theorem dX3_countAhead_50 : decode cX3_countAhead 50 = .ok (.iconst 0, 1) := by decide +kernel
theorem dX3_countAhead_51 : decode cX3_countAhead 51 = .ok (.iadd, 1) := by decide +kernel
theorem dX3_countAhead_52 : decode cX3_countAhead 52 = .ok (.istore_n 2, 1) := by decide +kernel
theorem dX3_countAhead_53 : decode cX3_countAhead 53 = .ok (.iinc 4 1, 3) := by decide +kernel
theorem dX3_countAhead_56 : decode cX3_countAhead 56 = .ok (.goto (-41), 3) := by decide +kernel
theorem dX3_countAhead_59 : decode cX3_countAhead 59 = .ok (.iload_n 2, 1) := by decide +kernel
theorem dX3_countAhead_60 : decode cX3_countAhead 60 = .ok (.ireturn, 1) := by decide +kernel
theorem dX3_isAhead_0 : decode cX3_isAhead 0 = .ok (.iload_n 1, 1) := by decide +kernel
theorem dX3_isAhead_1 : decode cX3_isAhead 1 = .ok (.invokestatic 139, 3) := by decide +kernel
theorem dX3_isAhead_4 : decode cX3_isAhead 4 = .ok (.ifCond .eq 10, 3) := by decide +kernel
theorem dX3_isAhead_7 : decode cX3_isAhead 7 = .ok (.iload_n 2, 1) := by decide +kernel
theorem dX3_isAhead_8 : decode cX3_isAhead 8 = .ok (.invokestatic 139, 3) := by decide +kernel
theorem dX3_isAhead_11 : decode cX3_isAhead 11 = .ok (.ifCond .ne 5, 3) := by decide +kernel
theorem dX3_isAhead_14 : decode cX3_isAhead 14 = .ok (.iconst 0, 1) := by decide +kernel
theorem dX3_isAhead_15 : decode cX3_isAhead 15 = .ok (.ireturn, 1) := by decide +kernel
theorem dX3_isAhead_16 : decode cX3_isAhead 16 = .ok (.aload_n 0, 1) := by decide +kernel
theorem dX3_isAhead_17 : decode cX3_isAhead 17 = .ok (.getfield 38, 3) := by decide +kernel
theorem dX3_isAhead_20 : decode cX3_isAhead 20 = .ok (.iload_n 1, 1) := by decide +kernel
theorem dX3_isAhead_21 : decode cX3_isAhead 21 = .ok (.iaload, 1) := by decide +kernel
theorem dX3_isAhead_22 : decode cX3_isAhead 22 = .ok (.aload_n 0, 1) := by decide +kernel
theorem dX3_isAhead_23 : decode cX3_isAhead 23 = .ok (.getfield 38, 3) := by decide +kernel
theorem dX3_isAhead_26 : decode cX3_isAhead 26 = .ok (.iload_n 2, 1) := by decide +kernel
theorem dX3_isAhead_27 : decode cX3_isAhead 27 = .ok (.iaload, 1) := by decide +kernel
theorem dX3_isAhead_28 : decode cX3_isAhead 28 = .ok (.if_icmp .lt 23, 3) := by decide +kernel
theorem dX3_isAhead_31 : decode cX3_isAhead 31 = .ok (.aload_n 0, 1) := by decide +kernel
theorem dX3_isAhead_32 : decode cX3_isAhead 32 = .ok (.getfield 38, 3) := by decide +kernel
theorem dX3_isAhead_35 : decode cX3_isAhead 35 = .ok (.iload_n 1, 1) := by decide +kernel
theorem dX3_isAhead_36 : decode cX3_isAhead 36 = .ok (.iaload, 1) := by decide +kernel
theorem dX3_isAhead_37 : decode cX3_isAhead 37 = .ok (.aload_n 0, 1) := by decide +kernel
theorem dX3_isAhead_38 : decode cX3_isAhead 38 = .ok (.getfield 38, 3) := by decide +kernel
theorem dX3_isAhead_41 : decode cX3_isAhead 41 = .ok (.iload_n 2, 1) := by decide +kernel
theorem dX3_isAhead_42 : decode cX3_isAhead 42 = .ok (.iaload, 1) := by decide +kernel
theorem dX3_isAhead_43 : decode cX3_isAhead 43 = .ok (.if_icmp .ne 12, 3) := by decide +kernel
theorem dX3_isAhead_46 : decode cX3_isAhead 46 = .ok (.iload_n 1, 1) := by decide +kernel
theorem dX3_isAhead_47 : decode cX3_isAhead 47 = .ok (.iload_n 2, 1) := by decide +kernel
theorem dX3_isAhead_48 : decode cX3_isAhead 48 = .ok (.if_icmp .ge 7, 3) := by decide +kernel
theorem dX3_isAhead_51 : decode cX3_isAhead 51 = .ok (.iconst 1, 1) := by decide +kernel
theorem dX3_isAhead_52 : decode cX3_isAhead 52 = .ok (.goto 4, 3) := by decide +kernel
theorem dX3_isAhead_55 : decode cX3_isAhead 55 = .ok (.iconst 0, 1) := by decide +kernel
theorem dX3_isAhead_56 : decode cX3_isAhead 56 = .ok (.ireturn, 1) := by decide +kernel
theorem dX4_init_0 : decode cX4_init 0 = .ok (.aload_n 0, 1) := by decide +kernel
theorem dX4_init_1 : decode cX4_init 1 = .ok (.invokespecial 3, 3) := by decide +kernel
theorem dX4_init_4 : decode cX4_init 4 = .ok (.aload_n 0, 1) := by decide +kernel
theorem dX4_init_5 : decode cX4_init 5 = .ok (.bipush 80, 2) := by decide +kernel
theorem dX4_init_7 : decode cX4_init 7 = .ok (.newarray .int, 2) := by decide +kernel
theorem dX4_init_9 : decode cX4_init 9 = .ok (.putfield 9, 3) := by decide +kernel
theorem dX4_init_12 : decode cX4_init 12 = .ok (.aload_n 0, 1) := by decide +kernel
theorem dX4_init_13 : decode cX4_init 13 = .ok (.invokevirtual 15, 3) := by decide +kernel
theorem dX4_init_16 : decode cX4_init 16 = .ok (.return_, 1) := by decide +kernel
theorem dX4_reset_0 : decode cX4_reset 0 = .ok (.iconst 0, 1) := by decide +kernel
theorem dX4_reset_1 : decode cX4_reset 1 = .ok (.istore_n 1, 1) := by decide +kernel
theorem dX4_reset_2 : decode cX4_reset 2 = .ok (.iload_n 1, 1) := by decide +kernel
theorem dX4_reset_3 : decode cX4_reset 3 = .ok (.bipush 80, 2) := by decide +kernel
theorem dX4_reset_5 : decode cX4_reset 5 = .ok (.if_icmp .ge 16, 3) := by decide +kernel
theorem dX4_reset_8 : decode cX4_reset 8 = .ok (.aload_n 0, 1) := by decide +kernel
theorem dX4_reset_9 : decode cX4_reset 9 = .ok (.getfield 9, 3) := by decide +kernel
theorem dX4_reset_12 : decode cX4_reset 12 = .ok (.iload_n 1, 1) := by decide +kernel
theorem dX4_reset_13 : decode cX4_reset 13 = .ok (.iconst 0, 1) := by decide +kernel
theorem dX4_reset_14 : decode cX4_reset 14 = .ok (.iastore, 1) := by decide +kernel
theorem dX4_reset_15 : decode cX4_reset 15 = .ok (.iinc 1 1, 3) := by decide +kernel
theorem dX4_reset_18 : decode cX4_reset 18 = .ok (.goto (-16), 3) := by decide +kernel
theorem dX4_reset_21 : decode cX4_reset 21 = .ok (.aload_n 0, 1) := by decide +kernel
theorem dX4_reset_22 : decode cX4_reset 22 = .ok (.iconst 0, 1) := by decide +kernel
theorem dX4_reset_23 : decode cX4_reset 23 = .ok (.iconst 4, 1) := by decide +kernel
theorem dX4_reset_24 : decode cX4_reset 24 = .ok (.iconst 1, 1) := by decide +kernel
theorem dX4_reset_25 : decode cX4_reset 25 = .ok (.invokevirtual 18, 3) := by decide +kernel
theorem dX4_reset_28 : decode cX4_reset 28 = .ok (.aload_n 0, 1) := by decide +kernel
theorem dX4_reset_29 : decode cX4_reset 29 = .ok (.iconst 0, 1) := by decide +kernel
theorem dX4_reset_30 : decode cX4_reset 30 = .ok (.iconst 0, 1) := by decide +kernel
theorem dX4_reset_31 : decode cX4_reset 31 = .ok (.iconst (-1), 1) := by decide +kernel
theorem dX4_reset_32 : decode cX4_reset 32 = .ok (.invokevirtual 18, 3) := by decide +kernel
theorem dX4_reset_35 : decode cX4_reset 35 = .ok (.return_, 1) := by decide +kernel
theorem dX4_copyFrom_0 : decode cX4_copyFrom 0 = .ok (.aload_n 1, 1) := by decide +kernel
theorem dX4_copyFrom_1 : decode cX4_copyFrom 1 = .ok (.getfield 9, 3) := by decide +kernel
theorem dX4_copyFrom_4 : decode cX4_copyFrom 4 = .ok (.iconst 0, 1) := by decide +kernel
theorem dX4_copyFrom_5 : decode cX4_copyFrom 5 = .ok (.aload_n 0, 1) := by decide +kernel
theorem dX4_copyFrom_6 : decode cX4_copyFrom 6 = .ok (.getfield 9, 3) := by decide +kernel
theorem dX4_copyFrom_9 : decode cX4_copyFrom 9 = .ok (.iconst 0, 1) := by decide +kernel
theorem dX4_copyFrom_10 : decode cX4_copyFrom 10 = .ok (.bipush 80, 2) := by decide +kernel
theorem dX4_copyFrom_12 : decode cX4_copyFrom 12 = .ok (.invokestatic 22, 3) := by decide +kernel
theorem dX4_copyFrom_15 : decode cX4_copyFrom 15 = .ok (.return_, 1) := by decide +kernel
theorem dX4_holds_0 : decode cX4_holds 0 = .ok (.iload_n 1, 1) := by decide +kernel
theorem dX4_holds_1 : decode cX4_holds 1 = .ok (.ifCond .lt 26, 3) := by decide +kernel
theorem dX4_holds_4 : decode cX4_holds 4 = .ok (.iload_n 1, 1) := by decide +kernel
theorem dX4_holds_5 : decode cX4_holds 5 = .ok (.bipush 16, 2) := by decide +kernel
theorem dX4_holds_7 : decode cX4_holds 7 = .ok (.if_icmp .ge 20, 3) := by decide +kernel
theorem dX4_holds_10 : decode cX4_holds 10 = .ok (.aload_n 0, 1) := by decide +kernel
theorem dX4_holds_11 : decode cX4_holds 11 = .ok (.getfield 9, 3) := by decide +kernel
theorem dX4_holds_14 : decode cX4_holds 14 = .ok (.bipush 64, 2) := by decide +kernel
theorem dX4_holds_16 : decode cX4_holds 16 = .ok (.iload_n 1, 1) := by decide +kernel
theorem dX4_holds_17 : decode cX4_holds 17 = .ok (.iadd, 1) := by decide +kernel
theorem dX4_holds_18 : decode cX4_holds 18 = .ok (.iaload, 1) := by decide +kernel
theorem dX4_holds_19 : decode cX4_holds 19 = .ok (.iconst 1, 1) := by decide +kernel
theorem dX4_holds_20 : decode cX4_holds 20 = .ok (.if_icmp .ne 7, 3) := by decide +kernel
theorem dX4_holds_23 : decode cX4_holds 23 = .ok (.iconst 1, 1) := by decide +kernel
theorem dX4_holds_24 : decode cX4_holds 24 = .ok (.goto 4, 3) := by decide +kernel
theorem dX4_holds_27 : decode cX4_holds 27 = .ok (.iconst 0, 1) := by decide +kernel
theorem dX4_holds_28 : decode cX4_holds 28 = .ok (.ireturn, 1) := by decide +kernel
theorem dX4_trait_0 : decode cX4_trait 0 = .ok (.iload_n 1, 1) := by decide +kernel
theorem dX4_trait_1 : decode cX4_trait 1 = .ok (.ifCond .lt 30, 3) := by decide +kernel
theorem dX4_trait_4 : decode cX4_trait 4 = .ok (.iload_n 1, 1) := by decide +kernel
theorem dX4_trait_5 : decode cX4_trait 5 = .ok (.bipush 16, 2) := by decide +kernel
theorem dX4_trait_7 : decode cX4_trait 7 = .ok (.if_icmp .ge 24, 3) := by decide +kernel
theorem dX4_trait_10 : decode cX4_trait 10 = .ok (.iload_n 2, 1) := by decide +kernel
theorem dX4_trait_11 : decode cX4_trait 11 = .ok (.ifCond .lt 20, 3) := by decide +kernel
theorem dX4_trait_14 : decode cX4_trait 14 = .ok (.iload_n 2, 1) := by decide +kernel
theorem dX4_trait_15 : decode cX4_trait 15 = .ok (.iconst 5, 1) := by decide +kernel
theorem dX4_trait_16 : decode cX4_trait 16 = .ok (.if_icmp .ge 15, 3) := by decide +kernel
theorem dX4_trait_19 : decode cX4_trait 19 = .ok (.aload_n 0, 1) := by decide +kernel
theorem dX4_trait_20 : decode cX4_trait 20 = .ok (.getfield 9, 3) := by decide +kernel
theorem dX4_trait_23 : decode cX4_trait 23 = .ok (.bipush 64, 2) := by decide +kernel
theorem dX4_trait_25 : decode cX4_trait 25 = .ok (.iload_n 1, 1) := by decide +kernel
theorem dX4_trait_26 : decode cX4_trait 26 = .ok (.iadd, 1) := by decide +kernel
theorem dX4_trait_27 : decode cX4_trait 27 = .ok (.iaload, 1) := by decide +kernel
theorem dX4_trait_28 : decode cX4_trait 28 = .ok (.ifCond .ne 5, 3) := by decide +kernel
theorem dX4_trait_31 : decode cX4_trait 31 = .ok (.iconst (-1), 1) := by decide +kernel
theorem dX4_trait_32 : decode cX4_trait 32 = .ok (.ireturn, 1) := by decide +kernel
theorem dX4_trait_33 : decode cX4_trait 33 = .ok (.aload_n 0, 1) := by decide +kernel
theorem dX4_trait_34 : decode cX4_trait 34 = .ok (.getfield 9, 3) := by decide +kernel
theorem dX4_trait_37 : decode cX4_trait 37 = .ok (.iload_n 2, 1) := by decide +kernel
theorem dX4_trait_38 : decode cX4_trait 38 = .ok (.bipush 16, 2) := by decide +kernel
theorem dX4_trait_40 : decode cX4_trait 40 = .ok (.imul, 1) := by decide +kernel
theorem dX4_trait_41 : decode cX4_trait 41 = .ok (.iload_n 1, 1) := by decide +kernel
theorem dX4_trait_42 : decode cX4_trait 42 = .ok (.iadd, 1) := by decide +kernel
theorem dX4_trait_43 : decode cX4_trait 43 = .ok (.iaload, 1) := by decide +kernel
theorem dX4_trait_44 : decode cX4_trait 44 = .ok (.ireturn, 1) := by decide +kernel
theorem dX4_put_0 : decode cX4_put 0 = .ok (.iload_n 1, 1) := by decide +kernel
theorem dX4_put_1 : decode cX4_put 1 = .ok (.ifCond .lt 30, 3) := by decide +kernel
theorem dX4_put_4 : decode cX4_put 4 = .ok (.iload_n 1, 1) := by decide +kernel
theorem dX4_put_5 : decode cX4_put 5 = .ok (.bipush 16, 2) := by decide +kernel
theorem dX4_put_7 : decode cX4_put 7 = .ok (.if_icmp .ge 24, 3) := by decide +kernel
theorem dX4_put_10 : decode cX4_put 10 = .ok (.iload_n 2, 1) := by decide +kernel
theorem dX4_put_11 : decode cX4_put 11 = .ok (.ifCond .lt 20, 3) := by decide +kernel
theorem dX4_put_14 : decode cX4_put 14 = .ok (.iload_n 2, 1) := by decide +kernel
theorem dX4_put_15 : decode cX4_put 15 = .ok (.iconst 5, 1) := by decide +kernel
theorem dX4_put_16 : decode cX4_put 16 = .ok (.if_icmp .ge 15, 3) := by decide +kernel
theorem dX4_put_19 : decode cX4_put 19 = .ok (.aload_n 0, 1) := by decide +kernel
theorem dX4_put_20 : decode cX4_put 20 = .ok (.getfield 9, 3) := by decide +kernel
theorem dX4_put_23 : decode cX4_put 23 = .ok (.iload_n 2, 1) := by decide +kernel
theorem dX4_put_24 : decode cX4_put 24 = .ok (.bipush 16, 2) := by decide +kernel
theorem dX4_put_26 : decode cX4_put 26 = .ok (.imul, 1) := by decide +kernel
theorem dX4_put_27 : decode cX4_put 27 = .ok (.iload_n 1, 1) := by decide +kernel
theorem dX4_put_28 : decode cX4_put 28 = .ok (.iadd, 1) := by decide +kernel
theorem dX4_put_29 : decode cX4_put 29 = .ok (.iload_n 3, 1) := by decide +kernel
theorem dX4_put_30 : decode cX4_put 30 = .ok (.iastore, 1) := by decide +kernel
theorem dX4_put_31 : decode cX4_put 31 = .ok (.return_, 1) := by decide +kernel
theorem dX4_include_0 : decode cX4_include 0 = .ok (.aload_n 0, 1) := by decide +kernel
theorem dX4_include_1 : decode cX4_include 1 = .ok (.iload_n 1, 1) := by decide +kernel
theorem dX4_include_2 : decode cX4_include 2 = .ok (.iconst 4, 1) := by decide +kernel
theorem dX4_include_3 : decode cX4_include 3 = .ok (.iconst 1, 1) := by decide +kernel
theorem dX4_include_4 : decode cX4_include 4 = .ok (.invokevirtual 18, 3) := by decide +kernel
theorem dX4_include_7 : decode cX4_include 7 = .ok (.return_, 1) := by decide +kernel
theorem dX4_count_0 : decode cX4_count 0 = .ok (.iconst 0, 1) := by decide +kernel
theorem dX4_count_1 : decode cX4_count 1 = .ok (.istore_n 1, 1) := by decide +kernel
theorem dX4_count_2 : decode cX4_count 2 = .ok (.iconst 0, 1) := by decide +kernel
theorem dX4_count_3 : decode cX4_count 3 = .ok (.istore_n 2, 1) := by decide +kernel
theorem dX4_count_4 : decode cX4_count 4 = .ok (.iload_n 2, 1) := by decide +kernel
theorem dX4_count_5 : decode cX4_count 5 = .ok (.bipush 16, 2) := by decide +kernel
theorem dX4_count_7 : decode cX4_count 7 = .ok (.if_icmp .ge 25, 3) := by decide +kernel
theorem dX4_count_10 : decode cX4_count 10 = .ok (.iload_n 1, 1) := by decide +kernel
theorem dX4_count_11 : decode cX4_count 11 = .ok (.aload_n 0, 1) := by decide +kernel
theorem dX4_count_12 : decode cX4_count 12 = .ok (.iload_n 2, 1) := by decide +kernel
theorem dX4_count_13 : decode cX4_count 13 = .ok (.invokevirtual 28, 3) := by decide +kernel
theorem dX4_count_16 : decode cX4_count 16 = .ok (.ifCond .eq 7, 3) := by decide +kernel
theorem dX4_count_19 : decode cX4_count 19 = .ok (.iconst 1, 1) := by decide +kernel
theorem dX4_count_20 : decode cX4_count 20 = .ok (.goto 4, 3) := by decide +kernel
theorem dX4_count_23 : decode cX4_count 23 = .ok (.iconst 0, 1) := by decide +kernel
theorem dX4_count_24 : decode cX4_count 24 = .ok (.iadd, 1) := by decide +kernel
theorem dX4_count_25 : decode cX4_count 25 = .ok (.istore_n 1, 1) := by decide +kernel
theorem dX4_count_26 : decode cX4_count 26 = .ok (.iinc 2 1, 3) := by decide +kernel
theorem dX4_count_29 : decode cX4_count 29 = .ok (.goto (-25), 3) := by decide +kernel
theorem dX4_count_32 : decode cX4_count 32 = .ok (.iload_n 1, 1) := by decide +kernel
theorem dX4_count_33 : decode cX4_count 33 = .ok (.ireturn, 1) := by decide +kernel
theorem dX4_isChild_0 : decode cX4_isChild 0 = .ok (.iload_n 1, 1) := by decide +kernel
theorem dX4_isChild_1 : decode cX4_isChild 1 = .ok (.ifCond .le 38, 3) := by decide +kernel
theorem dX4_isChild_4 : decode cX4_isChild 4 = .ok (.iload_n 1, 1) := by decide +kernel
theorem dX4_isChild_5 : decode cX4_isChild 5 = .ok (.bipush 16, 2) := by decide +kernel
theorem dX4_isChild_7 : decode cX4_isChild 7 = .ok (.if_icmp .ge 32, 3) := by decide +kernel
theorem dX4_isChild_10 : decode cX4_isChild 10 = .ok (.aload_n 0, 1) := by decide +kernel
theorem dX4_isChild_11 : decode cX4_isChild 11 = .ok (.getfield 9, 3) := by decide +kernel
theorem dX4_isChild_14 : decode cX4_isChild 14 = .ok (.bipush 64, 2) := by decide +kernel
theorem dX4_isChild_16 : decode cX4_isChild 16 = .ok (.iload_n 1, 1) := by decide +kernel
theorem dX4_isChild_17 : decode cX4_isChild 17 = .ok (.iadd, 1) := by decide +kernel
theorem dX4_isChild_18 : decode cX4_isChild 18 = .ok (.iaload, 1) := by decide +kernel
theorem dX4_isChild_19 : decode cX4_isChild 19 = .ok (.iconst 1, 1) := by decide +kernel
theorem dX4_isChild_20 : decode cX4_isChild 20 = .ok (.if_icmp .ne 19, 3) := by decide +kernel
theorem dX4_isChild_23 : decode cX4_isChild 23 = .ok (.aload_n 0, 1) := by decide +kernel
theorem dX4_isChild_24 : decode cX4_isChild 24 = .ok (.getfield 9, 3) := by decide +kernel
theorem dX4_isChild_27 : decode cX4_isChild 27 = .ok (.iconst 0, 1) := by decide +kernel
theorem dX4_isChild_28 : decode cX4_isChild 28 = .ok (.iload_n 1, 1) := by decide +kernel
theorem dX4_isChild_29 : decode cX4_isChild 29 = .ok (.iadd, 1) := by decide +kernel
theorem dX4_isChild_30 : decode cX4_isChild 30 = .ok (.iaload, 1) := by decide +kernel
theorem dX4_isChild_31 : decode cX4_isChild 31 = .ok (.iload_n 2, 1) := by decide +kernel
theorem dX4_isChild_32 : decode cX4_isChild 32 = .ok (.if_icmp .ne 7, 3) := by decide +kernel
theorem dX4_isChild_35 : decode cX4_isChild 35 = .ok (.iconst 1, 1) := by decide +kernel
theorem dX4_isChild_36 : decode cX4_isChild 36 = .ok (.goto 4, 3) := by decide +kernel
theorem dX4_isChild_39 : decode cX4_isChild 39 = .ok (.iconst 0, 1) := by decide +kernel
theorem dX4_isChild_40 : decode cX4_isChild 40 = .ok (.ireturn, 1) := by decide +kernel
theorem dX4_childCount_0 : decode cX4_childCount 0 = .ok (.iconst 0, 1) := by decide +kernel
theorem dX4_childCount_1 : decode cX4_childCount 1 = .ok (.istore_n 2, 1) := by decide +kernel
theorem dX4_childCount_2 : decode cX4_childCount 2 = .ok (.iconst 0, 1) := by decide +kernel
theorem dX4_childCount_3 : decode cX4_childCount 3 = .ok (.istore_n 3, 1) := by decide +kernel
theorem dX4_childCount_4 : decode cX4_childCount 4 = .ok (.iload_n 3, 1) := by decide +kernel
theorem dX4_childCount_5 : decode cX4_childCount 5 = .ok (.bipush 16, 2) := by decide +kernel
theorem dX4_childCount_7 : decode cX4_childCount 7 = .ok (.if_icmp .ge 26, 3) := by decide +kernel
theorem dX4_childCount_10 : decode cX4_childCount 10 = .ok (.iload_n 2, 1) := by decide +kernel
theorem dX4_childCount_11 : decode cX4_childCount 11 = .ok (.aload_n 0, 1) := by decide +kernel
theorem dX4_childCount_12 : decode cX4_childCount 12 = .ok (.iload_n 3, 1) := by decide +kernel
theorem dX4_childCount_13 : decode cX4_childCount 13 = .ok (.iload_n 1, 1) := by decide +kernel
theorem dX4_childCount_14 : decode cX4_childCount 14 = .ok (.invokevirtual 32, 3) := by decide +kernel
theorem dX4_childCount_17 : decode cX4_childCount 17 = .ok (.ifCond .eq 7, 3) := by decide +kernel
theorem dX4_childCount_20 : decode cX4_childCount 20 = .ok (.iconst 1, 1) := by decide +kernel
theorem dX4_childCount_21 : decode cX4_childCount 21 = .ok (.goto 4, 3) := by decide +kernel
theorem dX4_childCount_24 : decode cX4_childCount 24 = .ok (.iconst 0, 1) := by decide +kernel
theorem dX4_childCount_25 : decode cX4_childCount 25 = .ok (.iadd, 1) := by decide +kernel
theorem dX4_childCount_26 : decode cX4_childCount 26 = .ok (.istore_n 2, 1) := by decide +kernel
theorem dX4_childCount_27 : decode cX4_childCount 27 = .ok (.iinc 3 1, 3) := by decide +kernel
theorem dX4_childCount_30 : decode cX4_childCount 30 = .ok (.goto (-26), 3) := by decide +kernel
theorem dX4_childCount_33 : decode cX4_childCount 33 = .ok (.iload_n 2, 1) := by decide +kernel
theorem dX4_childCount_34 : decode cX4_childCount 34 = .ok (.ireturn, 1) := by decide +kernel
theorem dX4_childAt_0 : decode cX4_childAt 0 = .ok (.iconst 0, 1) := by decide +kernel
theorem dX4_childAt_1 : decode cX4_childAt 1 = .ok (.istore_n 3, 1) := by decide +kernel
theorem dX4_childAt_2 : decode cX4_childAt 2 = .ok (.iload_n 3, 1) := by decide +kernel
theorem dX4_childAt_3 : decode cX4_childAt 3 = .ok (.bipush 16, 2) := by decide +kernel
theorem dX4_childAt_5 : decode cX4_childAt 5 = .ok (.if_icmp .ge 30, 3) := by decide +kernel
theorem dX4_childAt_8 : decode cX4_childAt 8 = .ok (.aload_n 0, 1) := by decide +kernel
theorem dX4_childAt_9 : decode cX4_childAt 9 = .ok (.iload_n 3, 1) := by decide +kernel
theorem dX4_childAt_10 : decode cX4_childAt 10 = .ok (.iload_n 1, 1) := by decide +kernel
theorem dX4_childAt_11 : decode cX4_childAt 11 = .ok (.invokevirtual 32, 3) := by decide +kernel
theorem dX4_childAt_14 : decode cX4_childAt 14 = .ok (.ifCond .eq 15, 3) := by decide +kernel
theorem dX4_childAt_17 : decode cX4_childAt 17 = .ok (.aload_n 0, 1) := by decide +kernel
theorem dX4_childAt_18 : decode cX4_childAt 18 = .ok (.iload_n 3, 1) := by decide +kernel
theorem dX4_childAt_19 : decode cX4_childAt 19 = .ok (.iconst 1, 1) := by decide +kernel
theorem dX4_childAt_20 : decode cX4_childAt 20 = .ok (.invokevirtual 36, 3) := by decide +kernel
theorem dX4_childAt_23 : decode cX4_childAt 23 = .ok (.iload_n 2, 1) := by decide +kernel
theorem dX4_childAt_24 : decode cX4_childAt 24 = .ok (.if_icmp .ne 5, 3) := by decide +kernel
theorem dX4_childAt_27 : decode cX4_childAt 27 = .ok (.iload_n 3, 1) := by decide +kernel
theorem dX4_childAt_28 : decode cX4_childAt 28 = .ok (.ireturn, 1) := by decide +kernel
theorem dX4_childAt_29 : decode cX4_childAt 29 = .ok (.iinc 3 1, 3) := by decide +kernel
theorem dX4_childAt_32 : decode cX4_childAt 32 = .ok (.goto (-30), 3) := by decide +kernel
theorem dX4_childAt_35 : decode cX4_childAt 35 = .ok (.iconst (-1), 1) := by decide +kernel
theorem dX4_childAt_36 : decode cX4_childAt 36 = .ok (.ireturn, 1) := by decide +kernel
theorem dX4_isBelow_0 : decode cX4_isBelow 0 = .ok (.iload_n 1, 1) := by decide +kernel
theorem dX4_isBelow_1 : decode cX4_isBelow 1 = .ok (.istore_n 3, 1) := by decide +kernel
theorem dX4_isBelow_2 : decode cX4_isBelow 2 = .ok (.iconst 0, 1) := by decide +kernel
theorem dX4_isBelow_3 : decode cX4_isBelow 3 = .ok (.istore 4, 2) := by decide +kernel
theorem dX4_isBelow_5 : decode cX4_isBelow 5 = .ok (.iload 4, 2) := by decide +kernel
theorem dX4_isBelow_7 : decode cX4_isBelow 7 = .ok (.bipush 16, 2) := by decide +kernel
theorem dX4_isBelow_9 : decode cX4_isBelow 9 = .ok (.if_icmp .ge 23, 3) := by decide +kernel
theorem dX4_isBelow_12 : decode cX4_isBelow 12 = .ok (.iload_n 3, 1) := by decide +kernel
theorem dX4_isBelow_13 : decode cX4_isBelow 13 = .ok (.iload_n 2, 1) := by decide +kernel
theorem dX4_isBelow_14 : decode cX4_isBelow 14 = .ok (.if_icmp .ne 5, 3) := by decide +kernel
theorem dX4_isBelow_17 : decode cX4_isBelow 17 = .ok (.iconst 1, 1) := by decide +kernel
theorem dX4_isBelow_18 : decode cX4_isBelow 18 = .ok (.ireturn, 1) := by decide +kernel
theorem dX4_isBelow_19 : decode cX4_isBelow 19 = .ok (.aload_n 0, 1) := by decide +kernel
theorem dX4_isBelow_20 : decode cX4_isBelow 20 = .ok (.iload_n 3, 1) := by decide +kernel
theorem dX4_isBelow_21 : decode cX4_isBelow 21 = .ok (.iconst 0, 1) := by decide +kernel
theorem dX4_isBelow_22 : decode cX4_isBelow 22 = .ok (.invokevirtual 36, 3) := by decide +kernel
theorem dX4_isBelow_25 : decode cX4_isBelow 25 = .ok (.istore_n 3, 1) := by decide +kernel
theorem dX4_isBelow_26 : decode cX4_isBelow 26 = .ok (.iinc 4 1, 3) := by decide +kernel
theorem dX4_isBelow_29 : decode cX4_isBelow 29 = .ok (.goto (-24), 3) := by decide +kernel
theorem dX4_isBelow_32 : decode cX4_isBelow 32 = .ok (.iconst 0, 1) := by decide +kernel
theorem dX4_isBelow_33 : decode cX4_isBelow 33 = .ok (.ireturn, 1) := by decide +kernel
theorem dX4_countBelow_0 : decode cX4_countBelow 0 = .ok (.iconst 0, 1) := by decide +kernel
theorem dX4_countBelow_1 : decode cX4_countBelow 1 = .ok (.istore_n 2, 1) := by decide +kernel
theorem dX4_countBelow_2 : decode cX4_countBelow 2 = .ok (.iconst 0, 1) := by decide +kernel
theorem dX4_countBelow_3 : decode cX4_countBelow 3 = .ok (.istore_n 3, 1) := by decide +kernel
theorem dX4_countBelow_4 : decode cX4_countBelow 4 = .ok (.iload_n 3, 1) := by decide +kernel
theorem dX4_countBelow_5 : decode cX4_countBelow 5 = .ok (.bipush 16, 2) := by decide +kernel
theorem dX4_countBelow_7 : decode cX4_countBelow 7 = .ok (.if_icmp .ge 34, 3) := by decide +kernel
theorem dX4_countBelow_10 : decode cX4_countBelow 10 = .ok (.iload_n 2, 1) := by decide +kernel
theorem dX4_countBelow_11 : decode cX4_countBelow 11 = .ok (.aload_n 0, 1) := by decide +kernel
theorem dX4_countBelow_12 : decode cX4_countBelow 12 = .ok (.iload_n 3, 1) := by decide +kernel
theorem dX4_countBelow_13 : decode cX4_countBelow 13 = .ok (.invokevirtual 28, 3) := by decide +kernel
theorem dX4_countBelow_16 : decode cX4_countBelow 16 = .ok (.ifCond .eq 16, 3) := by decide +kernel
theorem dX4_countBelow_19 : decode cX4_countBelow 19 = .ok (.aload_n 0, 1) := by decide +kernel
theorem dX4_countBelow_20 : decode cX4_countBelow 20 = .ok (.iload_n 3, 1) := by decide +kernel
theorem dX4_countBelow_21 : decode cX4_countBelow 21 = .ok (.iload_n 1, 1) := by decide +kernel
theorem dX4_countBelow_22 : decode cX4_countBelow 22 = .ok (.invokevirtual 40, 3) := by decide +kernel
theorem dX4_countBelow_25 : decode cX4_countBelow 25 = .ok (.ifCond .eq 7, 3) := by decide +kernel
theorem dX4_countBelow_28 : decode cX4_countBelow 28 = .ok (.iconst 1, 1) := by decide +kernel
theorem dX4_countBelow_29 : decode cX4_countBelow 29 = .ok (.goto 4, 3) := by decide +kernel
theorem dX4_countBelow_32 : decode cX4_countBelow 32 = .ok (.iconst 0, 1) := by decide +kernel
theorem dX4_countBelow_33 : decode cX4_countBelow 33 = .ok (.iadd, 1) := by decide +kernel
theorem dX4_countBelow_34 : decode cX4_countBelow 34 = .ok (.istore_n 2, 1) := by decide +kernel
theorem dX4_countBelow_35 : decode cX4_countBelow 35 = .ok (.iinc 3 1, 3) := by decide +kernel
theorem dX4_countBelow_38 : decode cX4_countBelow 38 = .ok (.goto (-34), 3) := by decide +kernel
theorem dX4_countBelow_41 : decode cX4_countBelow 41 = .ok (.iload_n 2, 1) := by decide +kernel
theorem dX4_countBelow_42 : decode cX4_countBelow 42 = .ok (.ireturn, 1) := by decide +kernel
theorem dX4_depth_0 : decode cX4_depth 0 = .ok (.iconst 0, 1) := by decide +kernel
theorem dX4_depth_1 : decode cX4_depth 1 = .ok (.istore_n 1, 1) := by decide +kernel
theorem dX4_depth_2 : decode cX4_depth 2 = .ok (.iconst 0, 1) := by decide +kernel
theorem dX4_depth_3 : decode cX4_depth 3 = .ok (.istore_n 2, 1) := by decide +kernel
theorem dX4_depth_4 : decode cX4_depth 4 = .ok (.iload_n 2, 1) := by decide +kernel
theorem dX4_depth_5 : decode cX4_depth 5 = .ok (.bipush 16, 2) := by decide +kernel
theorem dX4_depth_7 : decode cX4_depth 7 = .ok (.if_icmp .ge 19, 3) := by decide +kernel
theorem dX4_depth_10 : decode cX4_depth 10 = .ok (.iload_n 1, 1) := by decide +kernel
theorem dX4_depth_11 : decode cX4_depth 11 = .ok (.aload_n 0, 1) := by decide +kernel
theorem dX4_depth_12 : decode cX4_depth 12 = .ok (.iload_n 2, 1) := by decide +kernel
theorem dX4_depth_13 : decode cX4_depth 13 = .ok (.invokevirtual 43, 3) := by decide +kernel
theorem dX4_depth_16 : decode cX4_depth 16 = .ok (.invokestatic 47, 3) := by decide +kernel
theorem dX4_depth_19 : decode cX4_depth 19 = .ok (.istore_n 1, 1) := by decide +kernel
theorem dX4_depth_20 : decode cX4_depth 20 = .ok (.iinc 2 1, 3) := by decide +kernel
theorem dX4_depth_23 : decode cX4_depth 23 = .ok (.goto (-19), 3) := by decide +kernel
theorem dX4_depth_26 : decode cX4_depth 26 = .ok (.iload_n 1, 1) := by decide +kernel
theorem dX4_depth_27 : decode cX4_depth 27 = .ok (.ireturn, 1) := by decide +kernel
theorem dX4_depthOf_0 : decode cX4_depthOf 0 = .ok (.iconst 0, 1) := by decide +kernel
theorem dX4_depthOf_1 : decode cX4_depthOf 1 = .ok (.istore_n 2, 1) := by decide +kernel
theorem dX4_depthOf_2 : decode cX4_depthOf 2 = .ok (.aload_n 0, 1) := by decide +kernel
theorem dX4_depthOf_3 : decode cX4_depthOf 3 = .ok (.iload_n 1, 1) := by decide +kernel
theorem dX4_depthOf_4 : decode cX4_depthOf 4 = .ok (.iconst 0, 1) := by decide +kernel
theorem dX4_depthOf_5 : decode cX4_depthOf 5 = .ok (.invokevirtual 36, 3) := by decide +kernel
theorem dX4_depthOf_8 : decode cX4_depthOf 8 = .ok (.istore_n 3, 1) := by decide +kernel
theorem dX4_depthOf_9 : decode cX4_depthOf 9 = .ok (.iconst 0, 1) := by decide +kernel
theorem dX4_depthOf_10 : decode cX4_depthOf 10 = .ok (.istore 4, 2) := by decide +kernel
theorem dX4_depthOf_12 : decode cX4_depthOf 12 = .ok (.iload 4, 2) := by decide +kernel
theorem dX4_depthOf_14 : decode cX4_depthOf 14 = .ok (.bipush 16, 2) := by decide +kernel
theorem dX4_depthOf_16 : decode cX4_depthOf 16 = .ok (.if_icmp .ge 24, 3) := by decide +kernel
theorem dX4_depthOf_19 : decode cX4_depthOf 19 = .ok (.iload_n 3, 1) := by decide +kernel
theorem dX4_depthOf_20 : decode cX4_depthOf 20 = .ok (.iconst (-1), 1) := by decide +kernel
theorem dX4_depthOf_21 : decode cX4_depthOf 21 = .ok (.if_icmp .eq 19, 3) := by decide +kernel
theorem dX4_depthOf_24 : decode cX4_depthOf 24 = .ok (.iinc 2 1, 3) := by decide +kernel
theorem dX4_depthOf_27 : decode cX4_depthOf 27 = .ok (.aload_n 0, 1) := by decide +kernel
theorem dX4_depthOf_28 : decode cX4_depthOf 28 = .ok (.iload_n 3, 1) := by decide +kernel
theorem dX4_depthOf_29 : decode cX4_depthOf 29 = .ok (.iconst 0, 1) := by decide +kernel
theorem dX4_depthOf_30 : decode cX4_depthOf 30 = .ok (.invokevirtual 36, 3) := by decide +kernel
theorem dX4_depthOf_33 : decode cX4_depthOf 33 = .ok (.istore_n 3, 1) := by decide +kernel
theorem dX4_depthOf_34 : decode cX4_depthOf 34 = .ok (.iinc 4 1, 3) := by decide +kernel
theorem dX4_depthOf_37 : decode cX4_depthOf 37 = .ok (.goto (-25), 3) := by decide +kernel
theorem dX4_depthOf_40 : decode cX4_depthOf 40 = .ok (.iload_n 2, 1) := by decide +kernel
theorem dX4_depthOf_41 : decode cX4_depthOf 41 = .ok (.ireturn, 1) := by decide +kernel
theorem dX4_following_0 : decode cX4_following 0 = .ok (.aload_n 0, 1) := by decide +kernel
theorem dX4_following_1 : decode cX4_following 1 = .ok (.iload_n 1, 1) := by decide +kernel
theorem dX4_following_2 : decode cX4_following 2 = .ok (.iconst 0, 1) := by decide +kernel
theorem dX4_following_3 : decode cX4_following 3 = .ok (.invokevirtual 52, 3) := by decide +kernel
theorem dX4_following_6 : decode cX4_following 6 = .ok (.istore_n 2, 1) := by decide +kernel
theorem dX4_following_7 : decode cX4_following 7 = .ok (.iload_n 1, 1) := by decide +kernel
theorem dX4_following_8 : decode cX4_following 8 = .ok (.istore_n 3, 1) := by decide +kernel
theorem dX4_following_9 : decode cX4_following 9 = .ok (.iconst 0, 1) := by decide +kernel
theorem dX4_following_10 : decode cX4_following 10 = .ok (.istore 4, 2) := by decide +kernel
theorem dX4_following_12 : decode cX4_following 12 = .ok (.iload 4, 2) := by decide +kernel
theorem dX4_following_14 : decode cX4_following 14 = .ok (.bipush 16, 2) := by decide +kernel
theorem dX4_following_16 : decode cX4_following 16 = .ok (.if_icmp .ge 45, 3) := by decide +kernel
theorem dX4_following_19 : decode cX4_following 19 = .ok (.iload_n 2, 1) := by decide +kernel
theorem dX4_following_20 : decode cX4_following 20 = .ok (.iconst (-1), 1) := by decide +kernel
theorem dX4_following_21 : decode cX4_following 21 = .ok (.if_icmp .ne 40, 3) := by decide +kernel
theorem dX4_following_24 : decode cX4_following 24 = .ok (.iload_n 3, 1) := by decide +kernel
theorem dX4_following_25 : decode cX4_following 25 = .ok (.iconst (-1), 1) := by decide +kernel
theorem dX4_following_26 : decode cX4_following 26 = .ok (.if_icmp .eq 35, 3) := by decide +kernel
theorem dX4_following_29 : decode cX4_following 29 = .ok (.aload_n 0, 1) := by decide +kernel
theorem dX4_following_30 : decode cX4_following 30 = .ok (.aload_n 0, 1) := by decide +kernel
theorem dX4_following_31 : decode cX4_following 31 = .ok (.iload_n 3, 1) := by decide +kernel
theorem dX4_following_32 : decode cX4_following 32 = .ok (.iconst 0, 1) := by decide +kernel
theorem dX4_following_33 : decode cX4_following 33 = .ok (.invokevirtual 36, 3) := by decide +kernel
theorem dX4_following_36 : decode cX4_following 36 = .ok (.aload_n 0, 1) := by decide +kernel
theorem dX4_following_37 : decode cX4_following 37 = .ok (.iload_n 3, 1) := by decide +kernel
theorem dX4_following_38 : decode cX4_following 38 = .ok (.iconst 1, 1) := by decide +kernel
theorem dX4_following_39 : decode cX4_following 39 = .ok (.invokevirtual 36, 3) := by decide +kernel
theorem dX4_following_42 : decode cX4_following 42 = .ok (.iconst 1, 1) := by decide +kernel
theorem dX4_following_43 : decode cX4_following 43 = .ok (.iadd, 1) := by decide +kernel
theorem dX4_following_44 : decode cX4_following 44 = .ok (.invokevirtual 52, 3) := by decide +kernel
theorem dX4_following_47 : decode cX4_following 47 = .ok (.istore_n 2, 1) := by decide +kernel
theorem dX4_following_48 : decode cX4_following 48 = .ok (.aload_n 0, 1) := by decide +kernel
theorem dX4_following_49 : decode cX4_following 49 = .ok (.iload_n 3, 1) := by decide +kernel
theorem dX4_following_50 : decode cX4_following 50 = .ok (.iconst 0, 1) := by decide +kernel
theorem dX4_following_51 : decode cX4_following 51 = .ok (.invokevirtual 36, 3) := by decide +kernel
theorem dX4_following_54 : decode cX4_following 54 = .ok (.istore_n 3, 1) := by decide +kernel
theorem dX4_following_55 : decode cX4_following 55 = .ok (.iinc 4 1, 3) := by decide +kernel
theorem dX4_following_58 : decode cX4_following 58 = .ok (.goto (-46), 3) := by decide +kernel
theorem dX4_following_61 : decode cX4_following 61 = .ok (.iload_n 2, 1) := by decide +kernel
