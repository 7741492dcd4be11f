theorem dX9_alike_80 : decode cX9_alike 80 = .ok (.goto 4, 3) := by decide +kernel
theorem dX9_alike_83 : decode cX9_alike 83 = .ok (.iconst 0, 1) := by decide +kernel
theorem dX9_alike_84 : decode cX9_alike 84 = .ok (.istore 5, 2) := by decide +kernel
theorem dX9_alike_86 : decode cX9_alike 86 = .ok (.iload_n 3, 1) := by decide +kernel
theorem dX9_alike_87 : decode cX9_alike 87 = .ok (.iload 5, 2) := by decide +kernel
theorem dX9_alike_89 : decode cX9_alike 89 = .ok (.ifCond .eq 41, 3) := by decide +kernel
theorem dX9_alike_92 : decode cX9_alike 92 = .ok (.aload_n 0, 1) := by decide +kernel
theorem dX9_alike_93 : decode cX9_alike 93 = .ok (.iload_n 1, 1) := by decide +kernel
theorem dX9_alike_94 : decode cX9_alike 94 = .ok (.iload 4, 2) := by decide +kernel
theorem dX9_alike_96 : decode cX9_alike 96 = .ok (.invokevirtual 148, 3) := by decide +kernel
theorem dX9_alike_99 : decode cX9_alike 99 = .ok (.aload_n 0, 1) := by decide +kernel
theorem dX9_alike_100 : decode cX9_alike 100 = .ok (.iload_n 2, 1) := by decide +kernel
theorem dX9_alike_101 : decode cX9_alike 101 = .ok (.iload 4, 2) := by decide +kernel
theorem dX9_alike_103 : decode cX9_alike 103 = .ok (.invokevirtual 148, 3) := by decide +kernel
theorem dX9_alike_106 : decode cX9_alike 106 = .ok (.if_icmp .ne 24, 3) := by decide +kernel
theorem dX9_alike_109 : decode cX9_alike 109 = .ok (.aload_n 0, 1) := by decide +kernel
theorem dX9_alike_110 : decode cX9_alike 110 = .ok (.iload_n 1, 1) := by decide +kernel
theorem dX9_alike_111 : decode cX9_alike 111 = .ok (.iload 4, 2) := by decide +kernel
theorem dX9_alike_113 : decode cX9_alike 113 = .ok (.invokevirtual 151, 3) := by decide +kernel
theorem dX9_alike_116 : decode cX9_alike 116 = .ok (.aload_n 0, 1) := by decide +kernel
theorem dX9_alike_117 : decode cX9_alike 117 = .ok (.iload_n 2, 1) := by decide +kernel
theorem dX9_alike_118 : decode cX9_alike 118 = .ok (.iload 4, 2) := by decide +kernel
theorem dX9_alike_120 : decode cX9_alike 120 = .ok (.invokevirtual 151, 3) := by decide +kernel
theorem dX9_alike_123 : decode cX9_alike 123 = .ok (.if_icmp .ne 7, 3) := by decide +kernel
theorem dX9_alike_126 : decode cX9_alike 126 = .ok (.iconst 1, 1) := by decide +kernel
theorem dX9_alike_127 : decode cX9_alike 127 = .ok (.goto 4, 3) := by decide +kernel
theorem dX9_alike_130 : decode cX9_alike 130 = .ok (.iconst 0, 1) := by decide +kernel
theorem dX9_alike_131 : decode cX9_alike 131 = .ok (.iadd, 1) := by decide +kernel
theorem dX9_alike_132 : decode cX9_alike 132 = .ok (.istore_n 3, 1) := by decide +kernel
theorem dX9_alike_133 : decode cX9_alike 133 = .ok (.iinc 4 1, 3) := by decide +kernel
theorem dX9_alike_136 : decode cX9_alike 136 = .ok (.goto (-108), 3) := by decide +kernel
theorem dX9_alike_139 : decode cX9_alike 139 = .ok (.iload_n 3, 1) := by decide +kernel
theorem dX9_alike_140 : decode cX9_alike 140 = .ok (.ireturn, 1) := by decide +kernel
theorem dX9_conflicts_0 : decode cX9_conflicts 0 = .ok (.iload_n 1, 1) := by decide +kernel
theorem dX9_conflicts_1 : decode cX9_conflicts 1 = .ok (.iconst (-1), 1) := by decide +kernel
theorem dX9_conflicts_2 : decode cX9_conflicts 2 = .ok (.if_icmp .lt 21, 3) := by decide +kernel
theorem dX9_conflicts_5 : decode cX9_conflicts 5 = .ok (.iload_n 2, 1) := by decide +kernel
theorem dX9_conflicts_6 : decode cX9_conflicts 6 = .ok (.iconst 0, 1) := by decide +kernel
theorem dX9_conflicts_7 : decode cX9_conflicts 7 = .ok (.iload_n 1, 1) := by decide +kernel
theorem dX9_conflicts_8 : decode cX9_conflicts 8 = .ok (.iconst (-1), 1) := by decide +kernel
theorem dX9_conflicts_9 : decode cX9_conflicts 9 = .ok (.if_icmp .ne 7, 3) := by decide +kernel
theorem dX9_conflicts_12 : decode cX9_conflicts 12 = .ok (.iconst 0, 1) := by decide +kernel
theorem dX9_conflicts_13 : decode cX9_conflicts 13 = .ok (.goto 4, 3) := by decide +kernel
theorem dX9_conflicts_16 : decode cX9_conflicts 16 = .ok (.iconst 2, 1) := by decide +kernel
theorem dX9_conflicts_17 : decode cX9_conflicts 17 = .ok (.invokestatic 68, 3) := by decide +kernel
theorem dX9_conflicts_20 : decode cX9_conflicts 20 = .ok (.ifCond .ne 10, 3) := by decide +kernel
theorem dX9_conflicts_23 : decode cX9_conflicts 23 = .ok (.aload_n 0, 1) := by decide +kernel
theorem dX9_conflicts_24 : decode cX9_conflicts 24 = .ok (.bipush (-2), 2) := by decide +kernel
theorem dX9_conflicts_26 : decode cX9_conflicts 26 = .ok (.invokevirtual 60, 3) := by decide +kernel
theorem dX9_conflicts_29 : decode cX9_conflicts 29 = .ok (.ireturn, 1) := by decide +kernel
theorem dX9_conflicts_30 : decode cX9_conflicts 30 = .ok (.aload_n 0, 1) := by decide +kernel
theorem dX9_conflicts_31 : decode cX9_conflicts 31 = .ok (.invokevirtual 142, 3) := by decide +kernel
theorem dX9_conflicts_34 : decode cX9_conflicts 34 = .ok (.iload_n 1, 1) := by decide +kernel
theorem dX9_conflicts_35 : decode cX9_conflicts 35 = .ok (.iconst (-1), 1) := by decide +kernel
theorem dX9_conflicts_36 : decode cX9_conflicts 36 = .ok (.if_icmp .ne 10, 3) := by decide +kernel
theorem dX9_conflicts_39 : decode cX9_conflicts 39 = .ok (.aload_n 0, 1) := by decide +kernel
theorem dX9_conflicts_40 : decode cX9_conflicts 40 = .ok (.getfield 145, 3) := by decide +kernel
theorem dX9_conflicts_43 : decode cX9_conflicts 43 = .ok (.goto 26, 3) := by decide +kernel
theorem dX9_conflicts_46 : decode cX9_conflicts 46 = .ok (.iload_n 1, 1) := by decide +kernel
theorem dX9_conflicts_47 : decode cX9_conflicts 47 = .ok (.aload_n 0, 1) := by decide +kernel
theorem dX9_conflicts_48 : decode cX9_conflicts 48 = .ok (.getfield 145, 3) := by decide +kernel
theorem dX9_conflicts_51 : decode cX9_conflicts 51 = .ok (.if_icmp .ge 16, 3) := by decide +kernel
theorem dX9_conflicts_54 : decode cX9_conflicts 54 = .ok (.aload_n 0, 1) := by decide +kernel
theorem dX9_conflicts_55 : decode cX9_conflicts 55 = .ok (.getfield 37, 3) := by decide +kernel
theorem dX9_conflicts_58 : decode cX9_conflicts 58 = .ok (.iconst 3, 1) := by decide +kernel
theorem dX9_conflicts_59 : decode cX9_conflicts 59 = .ok (.iload_n 1, 1) := by decide +kernel
theorem dX9_conflicts_60 : decode cX9_conflicts 60 = .ok (.imul, 1) := by decide +kernel
theorem dX9_conflicts_61 : decode cX9_conflicts 61 = .ok (.iload_n 2, 1) := by decide +kernel
theorem dX9_conflicts_62 : decode cX9_conflicts 62 = .ok (.iadd, 1) := by decide +kernel
theorem dX9_conflicts_63 : decode cX9_conflicts 63 = .ok (.iaload, 1) := by decide +kernel
theorem dX9_conflicts_64 : decode cX9_conflicts 64 = .ok (.goto 5, 3) := by decide +kernel
theorem dX9_conflicts_67 : decode cX9_conflicts 67 = .ok (.bipush (-5), 2) := by decide +kernel
theorem dX9_conflicts_69 : decode cX9_conflicts 69 = .ok (.ireturn, 1) := by decide +kernel
theorem dX9_step_0 : decode cX9_step 0 = .ok (.aload_n 0, 1) := by decide +kernel
theorem dX9_step_1 : decode cX9_step 1 = .ok (.getfield 46, 3) := by decide +kernel
theorem dX9_step_4 : decode cX9_step 4 = .ok (.iconst 2, 1) := by decide +kernel
theorem dX9_step_5 : decode cX9_step 5 = .ok (.aload_n 0, 1) := by decide +kernel
theorem dX9_step_6 : decode cX9_step 6 = .ok (.getfield 196, 3) := by decide +kernel
theorem dX9_step_9 : decode cX9_step 9 = .ok (.imul, 1) := by decide +kernel
theorem dX9_step_10 : decode cX9_step 10 = .ok (.iload_n 1, 1) := by decide +kernel
theorem dX9_step_11 : decode cX9_step 11 = .ok (.iastore, 1) := by decide +kernel
theorem dX9_step_12 : decode cX9_step 12 = .ok (.aload_n 0, 1) := by decide +kernel
theorem dX9_step_13 : decode cX9_step 13 = .ok (.getfield 46, 3) := by decide +kernel
theorem dX9_step_16 : decode cX9_step 16 = .ok (.iconst 2, 1) := by decide +kernel
theorem dX9_step_17 : decode cX9_step 17 = .ok (.aload_n 0, 1) := by decide +kernel
theorem dX9_step_18 : decode cX9_step 18 = .ok (.getfield 196, 3) := by decide +kernel
theorem dX9_step_21 : decode cX9_step 21 = .ok (.imul, 1) := by decide +kernel
theorem dX9_step_22 : decode cX9_step 22 = .ok (.iconst 1, 1) := by decide +kernel
theorem dX9_step_23 : decode cX9_step 23 = .ok (.iadd, 1) := by decide +kernel
theorem dX9_step_24 : decode cX9_step 24 = .ok (.iload_n 2, 1) := by decide +kernel
theorem dX9_step_25 : decode cX9_step 25 = .ok (.iastore, 1) := by decide +kernel
theorem dX9_step_26 : decode cX9_step 26 = .ok (.aload_n 0, 1) := by decide +kernel
theorem dX9_step_27 : decode cX9_step 27 = .ok (.dup, 1) := by decide +kernel
theorem dX9_step_28 : decode cX9_step 28 = .ok (.getfield 196, 3) := by decide +kernel
theorem dX9_step_31 : decode cX9_step 31 = .ok (.iconst 1, 1) := by decide +kernel
theorem dX9_step_32 : decode cX9_step 32 = .ok (.iadd, 1) := by decide +kernel
theorem dX9_step_33 : decode cX9_step 33 = .ok (.putfield 196, 3) := by decide +kernel
theorem dX9_step_36 : decode cX9_step 36 = .ok (.return_, 1) := by decide +kernel
theorem dX9_layScript_0 : decode cX9_layScript 0 = .ok (.aload_n 0, 1) := by decide +kernel
theorem dX9_layScript_1 : decode cX9_layScript 1 = .ok (.iconst 0, 1) := by decide +kernel
theorem dX9_layScript_2 : decode cX9_layScript 2 = .ok (.putfield 196, 3) := by decide +kernel
theorem dX9_layScript_5 : decode cX9_layScript 5 = .ok (.iconst 0, 1) := by decide +kernel
theorem dX9_layScript_6 : decode cX9_layScript 6 = .ok (.istore_n 2, 1) := by decide +kernel
theorem dX9_layScript_7 : decode cX9_layScript 7 = .ok (.iload_n 2, 1) := by decide +kernel
theorem dX9_layScript_8 : decode cX9_layScript 8 = .ok (.bipush 16, 2) := by decide +kernel
theorem dX9_layScript_10 : decode cX9_layScript 10 = .ok (.if_icmp .ge 115, 3) := by decide +kernel
theorem dX9_layScript_13 : decode cX9_layScript 13 = .ok (.aload_n 0, 1) := by decide +kernel
theorem dX9_layScript_14 : decode cX9_layScript 14 = .ok (.iconst 0, 1) := by decide +kernel
theorem dX9_layScript_15 : decode cX9_layScript 15 = .ok (.iload_n 2, 1) := by decide +kernel
theorem dX9_layScript_16 : decode cX9_layScript 16 = .ok (.invokevirtual 72, 3) := by decide +kernel
theorem dX9_layScript_19 : decode cX9_layScript 19 = .ok (.istore_n 3, 1) := by decide +kernel
theorem dX9_layScript_20 : decode cX9_layScript 20 = .ok (.aload_n 0, 1) := by decide +kernel
theorem dX9_layScript_21 : decode cX9_layScript 21 = .ok (.iload_n 1, 1) := by decide +kernel
theorem dX9_layScript_22 : decode cX9_layScript 22 = .ok (.iload_n 2, 1) := by decide +kernel
theorem dX9_layScript_23 : decode cX9_layScript 23 = .ok (.invokevirtual 72, 3) := by decide +kernel
theorem dX9_layScript_26 : decode cX9_layScript 26 = .ok (.istore 4, 2) := by decide +kernel
theorem dX9_layScript_28 : decode cX9_layScript 28 = .ok (.iload_n 3, 1) := by decide +kernel
theorem dX9_layScript_29 : decode cX9_layScript 29 = .ok (.iload 4, 2) := by decide +kernel
theorem dX9_layScript_31 : decode cX9_layScript 31 = .ok (.if_icmp .eq 21, 3) := by decide +kernel
theorem dX9_layScript_34 : decode cX9_layScript 34 = .ok (.aload_n 0, 1) := by decide +kernel
theorem dX9_layScript_35 : decode cX9_layScript 35 = .ok (.iload 4, 2) := by decide +kernel
theorem dX9_layScript_37 : decode cX9_layScript 37 = .ok (.ifCond .eq 7, 3) := by decide +kernel
theorem dX9_layScript_40 : decode cX9_layScript 40 = .ok (.iconst 1, 1) := by decide +kernel
theorem dX9_layScript_41 : decode cX9_layScript 41 = .ok (.goto 4, 3) := by decide +kernel
theorem dX9_layScript_44 : decode cX9_layScript 44 = .ok (.iconst 2, 1) := by decide +kernel
theorem dX9_layScript_45 : decode cX9_layScript 45 = .ok (.iload_n 2, 1) := by decide +kernel
theorem dX9_layScript_46 : decode cX9_layScript 46 = .ok (.invokevirtual 199, 3) := by decide +kernel
theorem dX9_layScript_49 : decode cX9_layScript 49 = .ok (.goto 70, 3) := by decide +kernel
theorem dX9_layScript_52 : decode cX9_layScript 52 = .ok (.iload_n 3, 1) := by decide +kernel
theorem dX9_layScript_53 : decode cX9_layScript 53 = .ok (.ifCond .eq 66, 3) := by decide +kernel
theorem dX9_layScript_56 : decode cX9_layScript 56 = .ok (.aload_n 0, 1) := by decide +kernel
theorem dX9_layScript_57 : decode cX9_layScript 57 = .ok (.iconst 0, 1) := by decide +kernel
theorem dX9_layScript_58 : decode cX9_layScript 58 = .ok (.iload_n 2, 1) := by decide +kernel
theorem dX9_layScript_59 : decode cX9_layScript 59 = .ok (.invokevirtual 76, 3) := by decide +kernel
theorem dX9_layScript_62 : decode cX9_layScript 62 = .ok (.aload_n 0, 1) := by decide +kernel
theorem dX9_layScript_63 : decode cX9_layScript 63 = .ok (.iload_n 1, 1) := by decide +kernel
theorem dX9_layScript_64 : decode cX9_layScript 64 = .ok (.iload_n 2, 1) := by decide +kernel
theorem dX9_layScript_65 : decode cX9_layScript 65 = .ok (.invokevirtual 76, 3) := by decide +kernel
theorem dX9_layScript_68 : decode cX9_layScript 68 = .ok (.if_icmp .eq 9, 3) := by decide +kernel
theorem dX9_layScript_71 : decode cX9_layScript 71 = .ok (.aload_n 0, 1) := by decide +kernel
theorem dX9_layScript_72 : decode cX9_layScript 72 = .ok (.iconst 3, 1) := by decide +kernel
theorem dX9_layScript_73 : decode cX9_layScript 73 = .ok (.iload_n 2, 1) := by decide +kernel
theorem dX9_layScript_74 : decode cX9_layScript 74 = .ok (.invokevirtual 199, 3) := by decide +kernel
theorem dX9_layScript_77 : decode cX9_layScript 77 = .ok (.aload_n 0, 1) := by decide +kernel
theorem dX9_layScript_78 : decode cX9_layScript 78 = .ok (.iconst 0, 1) := by decide +kernel
theorem dX9_layScript_79 : decode cX9_layScript 79 = .ok (.iload_n 2, 1) := by decide +kernel
theorem dX9_layScript_80 : decode cX9_layScript 80 = .ok (.invokevirtual 148, 3) := by decide +kernel
theorem dX9_layScript_83 : decode cX9_layScript 83 = .ok (.aload_n 0, 1) := by decide +kernel
theorem dX9_layScript_84 : decode cX9_layScript 84 = .ok (.iload_n 1, 1) := by decide +kernel
theorem dX9_layScript_85 : decode cX9_layScript 85 = .ok (.iload_n 2, 1) := by decide +kernel
theorem dX9_layScript_86 : decode cX9_layScript 86 = .ok (.invokevirtual 148, 3) := by decide +kernel
theorem dX9_layScript_89 : decode cX9_layScript 89 = .ok (.if_icmp .eq 9, 3) := by decide +kernel
theorem dX9_layScript_92 : decode cX9_layScript 92 = .ok (.aload_n 0, 1) := by decide +kernel
theorem dX9_layScript_93 : decode cX9_layScript 93 = .ok (.iconst 4, 1) := by decide +kernel
theorem dX9_layScript_94 : decode cX9_layScript 94 = .ok (.iload_n 2, 1) := by decide +kernel
theorem dX9_layScript_95 : decode cX9_layScript 95 = .ok (.invokevirtual 199, 3) := by decide +kernel
theorem dX9_layScript_98 : decode cX9_layScript 98 = .ok (.aload_n 0, 1) := by decide +kernel
theorem dX9_layScript_99 : decode cX9_layScript 99 = .ok (.iconst 0, 1) := by decide +kernel
theorem dX9_layScript_100 : decode cX9_layScript 100 = .ok (.iload_n 2, 1) := by decide +kernel
theorem dX9_layScript_101 : decode cX9_layScript 101 = .ok (.invokevirtual 151, 3) := by decide +kernel
theorem dX9_layScript_104 : decode cX9_layScript 104 = .ok (.aload_n 0, 1) := by decide +kernel
theorem dX9_layScript_105 : decode cX9_layScript 105 = .ok (.iload_n 1, 1) := by decide +kernel
theorem dX9_layScript_106 : decode cX9_layScript 106 = .ok (.iload_n 2, 1) := by decide +kernel
theorem dX9_layScript_107 : decode cX9_layScript 107 = .ok (.invokevirtual 151, 3) := by decide +kernel
theorem dX9_layScript_110 : decode cX9_layScript 110 = .ok (.if_icmp .eq 9, 3) := by decide +kernel
theorem dX9_layScript_113 : decode cX9_layScript 113 = .ok (.aload_n 0, 1) := by decide +kernel
theorem dX9_layScript_114 : decode cX9_layScript 114 = .ok (.iconst 5, 1) := by decide +kernel
theorem dX9_layScript_115 : decode cX9_layScript 115 = .ok (.iload_n 2, 1) := by decide +kernel
theorem dX9_layScript_116 : decode cX9_layScript 116 = .ok (.invokevirtual 199, 3) := by decide +kernel
theorem dX9_layScript_119 : decode cX9_layScript 119 = .ok (.iinc 2 1, 3) := by decide +kernel
theorem dX9_layScript_122 : decode cX9_layScript 122 = .ok (.goto (-115), 3) := by decide +kernel
theorem dX9_layScript_125 : decode cX9_layScript 125 = .ok (.return_, 1) := by decide +kernel
theorem dX9_script_0 : decode cX9_script 0 = .ok (.iload_n 1, 1) := by decide +kernel
theorem dX9_script_1 : decode cX9_script 1 = .ok (.iconst 1, 1) := by decide +kernel
theorem dX9_script_2 : decode cX9_script 2 = .ok (.iconst 2, 1) := by decide +kernel
theorem dX9_script_3 : decode cX9_script 3 = .ok (.invokestatic 68, 3) := by decide +kernel
theorem dX9_script_6 : decode cX9_script 6 = .ok (.ifCond .eq 26, 3) := by decide +kernel
theorem dX9_script_9 : decode cX9_script 9 = .ok (.iload_n 2, 1) := by decide +kernel
theorem dX9_script_10 : decode cX9_script 10 = .ok (.iconst (-1), 1) := by decide +kernel
theorem dX9_script_11 : decode cX9_script 11 = .ok (.if_icmp .lt 21, 3) := by decide +kernel
theorem dX9_script_14 : decode cX9_script 14 = .ok (.iload_n 3, 1) := by decide +kernel
theorem dX9_script_15 : decode cX9_script 15 = .ok (.iconst 0, 1) := by decide +kernel
theorem dX9_script_16 : decode cX9_script 16 = .ok (.iload_n 2, 1) := by decide +kernel
theorem dX9_script_17 : decode cX9_script 17 = .ok (.iconst (-1), 1) := by decide +kernel
theorem dX9_script_18 : decode cX9_script 18 = .ok (.if_icmp .ne 7, 3) := by decide +kernel
theorem dX9_script_21 : decode cX9_script 21 = .ok (.iconst 0, 1) := by decide +kernel
theorem dX9_script_22 : decode cX9_script 22 = .ok (.goto 4, 3) := by decide +kernel
theorem dX9_script_25 : decode cX9_script 25 = .ok (.iconst 1, 1) := by decide +kernel
theorem dX9_script_26 : decode cX9_script 26 = .ok (.invokestatic 68, 3) := by decide +kernel
theorem dX9_script_29 : decode cX9_script 29 = .ok (.ifCond .ne 10, 3) := by decide +kernel
theorem dX9_script_32 : decode cX9_script 32 = .ok (.aload_n 0, 1) := by decide +kernel
theorem dX9_script_33 : decode cX9_script 33 = .ok (.bipush (-2), 2) := by decide +kernel
theorem dX9_script_35 : decode cX9_script 35 = .ok (.invokevirtual 60, 3) := by decide +kernel
theorem dX9_script_38 : decode cX9_script 38 = .ok (.ireturn, 1) := by decide +kernel
theorem dX9_script_39 : decode cX9_script 39 = .ok (.aload_n 0, 1) := by decide +kernel
theorem dX9_script_40 : decode cX9_script 40 = .ok (.iload_n 1, 1) := by decide +kernel
theorem dX9_script_41 : decode cX9_script 41 = .ok (.invokevirtual 202, 3) := by decide +kernel
theorem dX9_script_44 : decode cX9_script 44 = .ok (.iload_n 2, 1) := by decide +kernel
theorem dX9_script_45 : decode cX9_script 45 = .ok (.iconst (-1), 1) := by decide +kernel
theorem dX9_script_46 : decode cX9_script 46 = .ok (.if_icmp .ne 10, 3) := by decide +kernel
theorem dX9_script_49 : decode cX9_script 49 = .ok (.aload_n 0, 1) := by decide +kernel
theorem dX9_script_50 : decode cX9_script 50 = .ok (.getfield 196, 3) := by decide +kernel
theorem dX9_script_53 : decode cX9_script 53 = .ok (.goto 26, 3) := by decide +kernel
theorem dX9_script_56 : decode cX9_script 56 = .ok (.iload_n 2, 1) := by decide +kernel
theorem dX9_script_57 : decode cX9_script 57 = .ok (.aload_n 0, 1) := by decide +kernel
theorem dX9_script_58 : decode cX9_script 58 = .ok (.getfield 196, 3) := by decide +kernel
theorem dX9_script_61 : decode cX9_script 61 = .ok (.if_icmp .ge 16, 3) := by decide +kernel
theorem dX9_script_64 : decode cX9_script 64 = .ok (.aload_n 0, 1) := by decide +kernel
theorem dX9_script_65 : decode cX9_script 65 = .ok (.getfield 46, 3) := by decide +kernel
theorem dX9_script_68 : decode cX9_script 68 = .ok (.iconst 2, 1) := by decide +kernel
theorem dX9_script_69 : decode cX9_script 69 = .ok (.iload_n 2, 1) := by decide +kernel
theorem dX9_script_70 : decode cX9_script 70 = .ok (.imul, 1) := by decide +kernel
theorem dX9_script_71 : decode cX9_script 71 = .ok (.iload_n 3, 1) := by decide +kernel
theorem dX9_script_72 : decode cX9_script 72 = .ok (.iadd, 1) := by decide +kernel
theorem dX9_script_73 : decode cX9_script 73 = .ok (.iaload, 1) := by decide +kernel
theorem dX9_script_74 : decode cX9_script 74 = .ok (.goto 5, 3) := by decide +kernel
theorem dX9_script_77 : decode cX9_script 77 = .ok (.bipush (-5), 2) := by decide +kernel
theorem dX9_script_79 : decode cX9_script 79 = .ok (.ireturn, 1) := by decide +kernel
theorem dX9_scoreOf_0 : decode cX9_scoreOf 0 = .ok (.aload_n 0, 1) := by decide +kernel
theorem dX9_scoreOf_1 : decode cX9_scoreOf 1 = .ok (.iconst 0, 1) := by decide +kernel
theorem dX9_scoreOf_2 : decode cX9_scoreOf 2 = .ok (.iload_n 2, 1) := by decide +kernel
theorem dX9_scoreOf_3 : decode cX9_scoreOf 3 = .ok (.invokevirtual 148, 3) := by decide +kernel
theorem dX9_scoreOf_6 : decode cX9_scoreOf 6 = .ok (.aload_n 0, 1) := by decide +kernel
theorem dX9_scoreOf_7 : decode cX9_scoreOf 7 = .ok (.iload_n 1, 1) := by decide +kernel
theorem dX9_scoreOf_8 : decode cX9_scoreOf 8 = .ok (.iload_n 3, 1) := by decide +kernel
theorem dX9_scoreOf_9 : decode cX9_scoreOf 9 = .ok (.invokevirtual 148, 3) := by decide +kernel
theorem dX9_scoreOf_12 : decode cX9_scoreOf 12 = .ok (.if_icmp .ne 7, 3) := by decide +kernel
theorem dX9_scoreOf_15 : decode cX9_scoreOf 15 = .ok (.iconst 4, 1) := by decide +kernel
theorem dX9_scoreOf_16 : decode cX9_scoreOf 16 = .ok (.goto 4, 3) := by decide +kernel
theorem dX9_scoreOf_19 : decode cX9_scoreOf 19 = .ok (.iconst 0, 1) := by decide +kernel
theorem dX9_scoreOf_20 : decode cX9_scoreOf 20 = .ok (.istore 4, 2) := by decide +kernel
theorem dX9_scoreOf_22 : decode cX9_scoreOf 22 = .ok (.iload 4, 2) := by decide +kernel
theorem dX9_scoreOf_24 : decode cX9_scoreOf 24 = .ok (.aload_n 0, 1) := by decide +kernel
theorem dX9_scoreOf_25 : decode cX9_scoreOf 25 = .ok (.iconst 0, 1) := by decide +kernel
theorem dX9_scoreOf_26 : decode cX9_scoreOf 26 = .ok (.iload_n 2, 1) := by decide +kernel
theorem dX9_scoreOf_27 : decode cX9_scoreOf 27 = .ok (.invokevirtual 151, 3) := by decide +kernel
theorem dX9_scoreOf_30 : decode cX9_scoreOf 30 = .ok (.aload_n 0, 1) := by decide +kernel
theorem dX9_scoreOf_31 : decode cX9_scoreOf 31 = .ok (.iload_n 1, 1) := by decide +kernel
theorem dX9_scoreOf_32 : decode cX9_scoreOf 32 = .ok (.iload_n 3, 1) := by decide +kernel
theorem dX9_scoreOf_33 : decode cX9_scoreOf 33 = .ok (.invokevirtual 151, 3) := by decide +kernel
theorem dX9_scoreOf_36 : decode cX9_scoreOf 36 = .ok (.if_icmp .ne 7, 3) := by decide +kernel
theorem dX9_scoreOf_39 : decode cX9_scoreOf 39 = .ok (.iconst 2, 1) := by decide +kernel
theorem dX9_scoreOf_40 : decode cX9_scoreOf 40 = .ok (.goto 4, 3) := by decide +kernel
theorem dX9_scoreOf_43 : decode cX9_scoreOf 43 = .ok (.iconst 0, 1) := by decide +kernel
theorem dX9_scoreOf_44 : decode cX9_scoreOf 44 = .ok (.iadd, 1) := by decide +kernel
theorem dX9_scoreOf_45 : decode cX9_scoreOf 45 = .ok (.istore 4, 2) := by decide +kernel
theorem dX9_scoreOf_47 : decode cX9_scoreOf 47 = .ok (.iload 4, 2) := by decide +kernel
theorem dX9_scoreOf_49 : decode cX9_scoreOf 49 = .ok (.aload_n 0, 1) := by decide +kernel
theorem dX9_scoreOf_50 : decode cX9_scoreOf 50 = .ok (.iconst 0, 1) := by decide +kernel
theorem dX9_scoreOf_51 : decode cX9_scoreOf 51 = .ok (.aload_n 0, 1) := by decide +kernel
theorem dX9_scoreOf_52 : decode cX9_scoreOf 52 = .ok (.iconst 0, 1) := by decide +kernel
theorem dX9_scoreOf_53 : decode cX9_scoreOf 53 = .ok (.iload_n 2, 1) := by decide +kernel
theorem dX9_scoreOf_54 : decode cX9_scoreOf 54 = .ok (.invokevirtual 76, 3) := by decide +kernel
theorem dX9_scoreOf_57 : decode cX9_scoreOf 57 = .ok (.invokevirtual 148, 3) := by decide +kernel
theorem dX9_scoreOf_60 : decode cX9_scoreOf 60 = .ok (.aload_n 0, 1) := by decide +kernel
theorem dX9_scoreOf_61 : decode cX9_scoreOf 61 = .ok (.iload_n 1, 1) := by decide +kernel
theorem dX9_scoreOf_62 : decode cX9_scoreOf 62 = .ok (.aload_n 0, 1) := by decide +kernel
theorem dX9_scoreOf_63 : decode cX9_scoreOf 63 = .ok (.iload_n 1, 1) := by decide +kernel
theorem dX9_scoreOf_64 : decode cX9_scoreOf 64 = .ok (.iload_n 3, 1) := by decide +kernel
theorem dX9_scoreOf_65 : decode cX9_scoreOf 65 = .ok (.invokevirtual 76, 3) := by decide +kernel
theorem dX9_scoreOf_68 : decode cX9_scoreOf 68 = .ok (.invokevirtual 148, 3) := by decide +kernel
theorem dX9_scoreOf_71 : decode cX9_scoreOf 71 = .ok (.if_icmp .ne 7, 3) := by decide +kernel
theorem dX9_scoreOf_74 : decode cX9_scoreOf 74 = .ok (.iconst 2, 1) := by decide +kernel
theorem dX9_scoreOf_75 : decode cX9_scoreOf 75 = .ok (.goto 4, 3) := by decide +kernel
theorem dX9_scoreOf_78 : decode cX9_scoreOf 78 = .ok (.iconst 0, 1) := by decide +kernel
theorem dX9_scoreOf_79 : decode cX9_scoreOf 79 = .ok (.iadd, 1) := by decide +kernel
theorem dX9_scoreOf_80 : decode cX9_scoreOf 80 = .ok (.istore 4, 2) := by decide +kernel
theorem dX9_scoreOf_82 : decode cX9_scoreOf 82 = .ok (.iload 4, 2) := by decide +kernel
theorem dX9_scoreOf_84 : decode cX9_scoreOf 84 = .ok (.aload_n 0, 1) := by decide +kernel
theorem dX9_scoreOf_85 : decode cX9_scoreOf 85 = .ok (.iconst 0, 1) := by decide +kernel
theorem dX9_scoreOf_86 : decode cX9_scoreOf 86 = .ok (.iload_n 2, 1) := by decide +kernel
theorem dX9_scoreOf_87 : decode cX9_scoreOf 87 = .ok (.invokevirtual 80, 3) := by decide +kernel
theorem dX9_scoreOf_90 : decode cX9_scoreOf 90 = .ok (.aload_n 0, 1) := by decide +kernel
theorem dX9_scoreOf_91 : decode cX9_scoreOf 91 = .ok (.iload_n 1, 1) := by decide +kernel
theorem dX9_scoreOf_92 : decode cX9_scoreOf 92 = .ok (.iload_n 3, 1) := by decide +kernel
theorem dX9_scoreOf_93 : decode cX9_scoreOf 93 = .ok (.invokevirtual 80, 3) := by decide +kernel
theorem dX9_scoreOf_96 : decode cX9_scoreOf 96 = .ok (.if_icmp .ne 7, 3) := by decide +kernel
theorem dX9_scoreOf_99 : decode cX9_scoreOf 99 = .ok (.iconst 1, 1) := by decide +kernel
theorem dX9_scoreOf_100 : decode cX9_scoreOf 100 = .ok (.goto 4, 3) := by decide +kernel
theorem dX9_scoreOf_103 : decode cX9_scoreOf 103 = .ok (.iconst 0, 1) := by decide +kernel
theorem dX9_scoreOf_104 : decode cX9_scoreOf 104 = .ok (.iadd, 1) := by decide +kernel
theorem dX9_scoreOf_105 : decode cX9_scoreOf 105 = .ok (.ireturn, 1) := by decide +kernel
theorem dX9_layMatches_0 : decode cX9_layMatches 0 = .ok (.iconst 0, 1) := by decide +kernel
theorem dX9_layMatches_1 : decode cX9_layMatches 1 = .ok (.istore_n 2, 1) := by decide +kernel
theorem dX9_layMatches_2 : decode cX9_layMatches 2 = .ok (.iload_n 2, 1) := by decide +kernel
theorem dX9_layMatches_3 : decode cX9_layMatches 3 = .ok (.bipush 16, 2) := by decide +kernel
theorem dX9_layMatches_5 : decode cX9_layMatches 5 = .ok (.if_icmp .ge 16, 3) := by decide +kernel
theorem dX9_layMatches_8 : decode cX9_layMatches 8 = .ok (.aload_n 0, 1) := by decide +kernel
theorem dX9_layMatches_9 : decode cX9_layMatches 9 = .ok (.getfield 49, 3) := by decide +kernel
theorem dX9_layMatches_12 : decode cX9_layMatches 12 = .ok (.iload_n 2, 1) := by decide +kernel
theorem dX9_layMatches_13 : decode cX9_layMatches 13 = .ok (.iconst (-1), 1) := by decide +kernel
theorem dX9_layMatches_14 : decode cX9_layMatches 14 = .ok (.iastore, 1) := by decide +kernel
theorem dX9_layMatches_15 : decode cX9_layMatches 15 = .ok (.iinc 2 1, 3) := by decide +kernel
theorem dX9_layMatches_18 : decode cX9_layMatches 18 = .ok (.goto (-16), 3) := by decide +kernel
theorem dX9_layMatches_21 : decode cX9_layMatches 21 = .ok (.iconst 0, 1) := by decide +kernel
theorem dX9_layMatches_22 : decode cX9_layMatches 22 = .ok (.istore_n 2, 1) := by decide +kernel
theorem dX9_layMatches_23 : decode cX9_layMatches 23 = .ok (.bipush 9, 2) := by decide +kernel
theorem dX9_layMatches_25 : decode cX9_layMatches 25 = .ok (.istore_n 3, 1) := by decide +kernel
theorem dX9_layMatches_26 : decode cX9_layMatches 26 = .ok (.iload_n 3, 1) := by decide +kernel
theorem dX9_layMatches_27 : decode cX9_layMatches 27 = .ok (.iconst 3, 1) := by decide +kernel
theorem dX9_layMatches_28 : decode cX9_layMatches 28 = .ok (.if_icmp .lt 122, 3) := by decide +kernel
theorem dX9_layMatches_31 : decode cX9_layMatches 31 = .ok (.iconst 1, 1) := by decide +kernel
theorem dX9_layMatches_32 : decode cX9_layMatches 32 = .ok (.istore 4, 2) := by decide +kernel
theorem dX9_layMatches_34 : decode cX9_layMatches 34 = .ok (.iload 4, 2) := by decide +kernel
theorem dX9_layMatches_36 : decode cX9_layMatches 36 = .ok (.bipush 16, 2) := by decide +kernel
theorem dX9_layMatches_38 : decode cX9_layMatches 38 = .ok (.if_icmp .ge 106, 3) := by decide +kernel
theorem dX9_layMatches_41 : decode cX9_layMatches 41 = .ok (.iconst 1, 1) := by decide +kernel
theorem dX9_layMatches_42 : decode cX9_layMatches 42 = .ok (.istore 5, 2) := by decide +kernel
theorem dX9_layMatches_44 : decode cX9_layMatches 44 = .ok (.iload 5, 2) := by decide +kernel
theorem dX9_layMatches_46 : decode cX9_layMatches 46 = .ok (.bipush 16, 2) := by decide +kernel
theorem dX9_layMatches_48 : decode cX9_layMatches 48 = .ok (.if_icmp .ge 90, 3) := by decide +kernel
theorem dX9_layMatches_51 : decode cX9_layMatches 51 = .ok (.aload_n 0, 1) := by decide +kernel
theorem dX9_layMatches_52 : decode cX9_layMatches 52 = .ok (.iconst 0, 1) := by decide +kernel
theorem dX9_layMatches_53 : decode cX9_layMatches 53 = .ok (.iload 4, 2) := by decide +kernel
theorem dX9_layMatches_55 : decode cX9_layMatches 55 = .ok (.invokevirtual 72, 3) := by decide +kernel
theorem dX9_layMatches_58 : decode cX9_layMatches 58 = .ok (.ifCond .eq 37, 3) := by decide +kernel
theorem dX9_layMatches_61 : decode cX9_layMatches 61 = .ok (.aload_n 0, 1) := by decide +kernel
theorem dX9_layMatches_62 : decode cX9_layMatches 62 = .ok (.iload_n 1, 1) := by decide +kernel
theorem dX9_layMatches_63 : decode cX9_layMatches 63 = .ok (.iload 5, 2) := by decide +kernel
theorem dX9_layMatches_65 : decode cX9_layMatches 65 = .ok (.invokevirtual 72, 3) := by decide +kernel
theorem dX9_layMatches_68 : decode cX9_layMatches 68 = .ok (.ifCond .eq 27, 3) := by decide +kernel
theorem dX9_layMatches_71 : decode cX9_layMatches 71 = .ok (.iload_n 2, 1) := by decide +kernel
theorem dX9_layMatches_72 : decode cX9_layMatches 72 = .ok (.iload 4, 2) := by decide +kernel
theorem dX9_layMatches_74 : decode cX9_layMatches 74 = .ok (.ishr, 1) := by decide +kernel
theorem dX9_layMatches_75 : decode cX9_layMatches 75 = .ok (.iconst 1, 1) := by decide +kernel
theorem dX9_layMatches_76 : decode cX9_layMatches 76 = .ok (.iand, 1) := by decide +kernel
theorem dX9_layMatches_77 : decode cX9_layMatches 77 = .ok (.ifCond .ne 18, 3) := by decide +kernel
theorem dX9_layMatches_80 : decode cX9_layMatches 80 = .ok (.aload_n 0, 1) := by decide +kernel
theorem dX9_layMatches_81 : decode cX9_layMatches 81 = .ok (.getfield 49, 3) := by decide +kernel
theorem dX9_layMatches_84 : decode cX9_layMatches 84 = .ok (.iload 5, 2) := by decide +kernel
theorem dX9_layMatches_86 : decode cX9_layMatches 86 = .ok (.iaload, 1) := by decide +kernel
theorem dX9_layMatches_87 : decode cX9_layMatches 87 = .ok (.iconst (-1), 1) := by decide +kernel
theorem dX9_layMatches_88 : decode cX9_layMatches 88 = .ok (.if_icmp .ne 7, 3) := by decide +kernel
theorem dX9_layMatches_91 : decode cX9_layMatches 91 = .ok (.iconst 1, 1) := by decide +kernel
theorem dX9_layMatches_92 : decode cX9_layMatches 92 = .ok (.goto 4, 3) := by decide +kernel
theorem dX9_layMatches_95 : decode cX9_layMatches 95 = .ok (.iconst 0, 1) := by decide +kernel
theorem dX9_layMatches_96 : decode cX9_layMatches 96 = .ok (.istore 6, 2) := by decide +kernel
theorem dX9_layMatches_98 : decode cX9_layMatches 98 = .ok (.iload 6, 2) := by decide +kernel
theorem dX9_layMatches_100 : decode cX9_layMatches 100 = .ok (.ifCond .eq 32, 3) := by decide +kernel
theorem dX9_layMatches_103 : decode cX9_layMatches 103 = .ok (.aload_n 0, 1) := by decide +kernel
theorem dX9_layMatches_104 : decode cX9_layMatches 104 = .ok (.iload_n 1, 1) := by decide +kernel
theorem dX9_layMatches_105 : decode cX9_layMatches 105 = .ok (.iload 4, 2) := by decide +kernel
theorem dX9_layMatches_107 : decode cX9_layMatches 107 = .ok (.iload 5, 2) := by decide +kernel
theorem dX9_layMatches_109 : decode cX9_layMatches 109 = .ok (.invokevirtual 205, 3) := by decide +kernel
theorem dX9_layMatches_112 : decode cX9_layMatches 112 = .ok (.iload_n 3, 1) := by decide +kernel
theorem dX9_layMatches_113 : decode cX9_layMatches 113 = .ok (.if_icmp .ne 19, 3) := by decide +kernel
theorem dX9_layMatches_116 : decode cX9_layMatches 116 = .ok (.aload_n 0, 1) := by decide +kernel
theorem dX9_layMatches_117 : decode cX9_layMatches 117 = .ok (.getfield 49, 3) := by decide +kernel
theorem dX9_layMatches_120 : decode cX9_layMatches 120 = .ok (.iload 5, 2) := by decide +kernel
theorem dX9_layMatches_122 : decode cX9_layMatches 122 = .ok (.iload 4, 2) := by decide +kernel
theorem dX9_layMatches_124 : decode cX9_layMatches 124 = .ok (.iastore, 1) := by decide +kernel
theorem dX9_layMatches_125 : decode cX9_layMatches 125 = .ok (.iload_n 2, 1) := by decide +kernel
theorem dX9_layMatches_126 : decode cX9_layMatches 126 = .ok (.iconst 1, 1) := by decide +kernel
theorem dX9_layMatches_127 : decode cX9_layMatches 127 = .ok (.iload 4, 2) := by decide +kernel
theorem dX9_layMatches_129 : decode cX9_layMatches 129 = .ok (.ishl, 1) := by decide +kernel
theorem dX9_layMatches_130 : decode cX9_layMatches 130 = .ok (.ior, 1) := by decide +kernel
theorem dX9_layMatches_131 : decode cX9_layMatches 131 = .ok (.istore_n 2, 1) := by decide +kernel
theorem dX9_layMatches_132 : decode cX9_layMatches 132 = .ok (.iinc 5 1, 3) := by decide +kernel
theorem dX9_layMatches_135 : decode cX9_layMatches 135 = .ok (.goto (-91), 3) := by decide +kernel
theorem dX9_layMatches_138 : decode cX9_layMatches 138 = .ok (.iinc 4 1, 3) := by decide +kernel
theorem dX9_layMatches_141 : decode cX9_layMatches 141 = .ok (.goto (-107), 3) := by decide +kernel
theorem dX9_layMatches_144 : decode cX9_layMatches 144 = .ok (.iinc 3 (-1), 3) := by decide +kernel
theorem dX9_layMatches_147 : decode cX9_layMatches 147 = .ok (.goto (-121), 3) := by decide +kernel
theorem dX9_layMatches_150 : decode cX9_layMatches 150 = .ok (.return_, 1) := by decide +kernel
theorem dX9_matches_0 : decode cX9_matches 0 = .ok (.iload_n 1, 1) := by decide +kernel
theorem dX9_matches_1 : decode cX9_matches 1 = .ok (.iconst 1, 1) := by decide +kernel
theorem dX9_matches_2 : decode cX9_matches 2 = .ok (.iconst 2, 1) := by decide +kernel
theorem dX9_matches_3 : decode cX9_matches 3 = .ok (.invokestatic 68, 3) := by decide +kernel
theorem dX9_matches_6 : decode cX9_matches 6 = .ok (.ifCond .eq 16, 3) := by decide +kernel
theorem dX9_matches_9 : decode cX9_matches 9 = .ok (.aload_n 0, 1) := by decide +kernel
theorem dX9_matches_10 : decode cX9_matches 10 = .ok (.iload_n 1, 1) := by decide +kernel
theorem dX9_matches_11 : decode cX9_matches 11 = .ok (.iload_n 2, 1) := by decide +kernel
theorem dX9_matches_12 : decode cX9_matches 12 = .ok (.invokevirtual 90, 3) := by decide +kernel
theorem dX9_matches_15 : decode cX9_matches 15 = .ok (.ifCond .eq 7, 3) := by decide +kernel
theorem dX9_matches_18 : decode cX9_matches 18 = .ok (.iload_n 2, 1) := by decide +kernel
theorem dX9_matches_19 : decode cX9_matches 19 = .ok (.ifCond .ne 10, 3) := by decide +kernel
theorem dX9_matches_22 : decode cX9_matches 22 = .ok (.aload_n 0, 1) := by decide +kernel
theorem dX9_matches_23 : decode cX9_matches 23 = .ok (.bipush (-2), 2) := by decide +kernel
theorem dX9_matches_25 : decode cX9_matches 25 = .ok (.invokevirtual 60, 3) := by decide +kernel
theorem dX9_matches_28 : decode cX9_matches 28 = .ok (.ireturn, 1) := by decide +kernel
theorem dX9_matches_29 : decode cX9_matches 29 = .ok (.aload_n 0, 1) := by decide +kernel
theorem dX9_matches_30 : decode cX9_matches 30 = .ok (.iload_n 1, 1) := by decide +kernel
theorem dX9_matches_31 : decode cX9_matches 31 = .ok (.invokevirtual 208, 3) := by decide +kernel
theorem dX9_matches_34 : decode cX9_matches 34 = .ok (.aload_n 0, 1) := by decide +kernel
theorem dX9_matches_35 : decode cX9_matches 35 = .ok (.getfield 49, 3) := by decide +kernel
theorem dX9_matches_38 : decode cX9_matches 38 = .ok (.iload_n 2, 1) := by decide +kernel
theorem dX9_matches_39 : decode cX9_matches 39 = .ok (.iaload, 1) := by decide +kernel
theorem dX9_matches_40 : decode cX9_matches 40 = .ok (.ireturn, 1) := by decide +kernel
theorem dX9_strangers_0 : decode cX9_strangers 0 = .ok (.aload_n 0, 1) := by decide +kernel
theorem dX9_strangers_1 : decode cX9_strangers 1 = .ok (.iload_n 1, 1) := by decide +kernel
theorem dX9_strangers_2 : decode cX9_strangers 2 = .ok (.invokevirtual 208, 3) := by decide +kernel
theorem dX9_strangers_5 : decode cX9_strangers 5 = .ok (.iconst 0, 1) := by decide +kernel
theorem dX9_strangers_6 : decode cX9_strangers 6 = .ok (.istore_n 2, 1) := by decide +kernel
theorem dX9_strangers_7 : decode cX9_strangers 7 = .ok (.iconst 1, 1) := by decide +kernel
theorem dX9_strangers_8 : decode cX9_strangers 8 = .ok (.istore_n 3, 1) := by decide +kernel
theorem dX9_strangers_9 : decode cX9_strangers 9 = .ok (.iload_n 3, 1) := by decide +kernel
theorem dX9_strangers_10 : decode cX9_strangers 10 = .ok (.bipush 16, 2) := by decide +kernel
theorem dX9_strangers_12 : decode cX9_strangers 12 = .ok (.if_icmp .ge 37, 3) := by decide +kernel
theorem dX9_strangers_15 : decode cX9_strangers 15 = .ok (.iload_n 2, 1) := by decide +kernel
theorem dX9_strangers_16 : decode cX9_strangers 16 = .ok (.aload_n 0, 1) := by decide +kernel
theorem dX9_strangers_17 : decode cX9_strangers 17 = .ok (.getfield 49, 3) := by decide +kernel
theorem dX9_strangers_20 : decode cX9_strangers 20 = .ok (.iload_n 3, 1) := by decide +kernel
theorem dX9_strangers_21 : decode cX9_strangers 21 = .ok (.iaload, 1) := by decide +kernel
theorem dX9_strangers_22 : decode cX9_strangers 22 = .ok (.iconst (-1), 1) := by decide +kernel
theorem dX9_strangers_23 : decode cX9_strangers 23 = .ok (.if_icmp .eq 17, 3) := by decide +kernel
theorem dX9_strangers_26 : decode cX9_strangers 26 = .ok (.aload_n 0, 1) := by decide +kernel
theorem dX9_strangers_27 : decode cX9_strangers 27 = .ok (.getfield 49, 3) := by decide +kernel
theorem dX9_strangers_30 : decode cX9_strangers 30 = .ok (.iload_n 3, 1) := by decide +kernel
theorem dX9_strangers_31 : decode cX9_strangers 31 = .ok (.iaload, 1) := by decide +kernel
theorem dX9_strangers_32 : decode cX9_strangers 32 = .ok (.iload_n 3, 1) := by decide +kernel
theorem dX9_strangers_33 : decode cX9_strangers 33 = .ok (.if_icmp .eq 7, 3) := by decide +kernel
theorem dX9_strangers_36 : decode cX9_strangers 36 = .ok (.iconst 1, 1) := by decide +kernel
theorem dX9_strangers_37 : decode cX9_strangers 37 = .ok (.goto 4, 3) := by decide +kernel
theorem dX9_strangers_40 : decode cX9_strangers 40 = .ok (.iconst 0, 1) := by decide +kernel
theorem dX9_strangers_41 : decode cX9_strangers 41 = .ok (.iadd, 1) := by decide +kernel
theorem dX9_strangers_42 : decode cX9_strangers 42 = .ok (.istore_n 2, 1) := by decide +kernel
theorem dX9_strangers_43 : decode cX9_strangers 43 = .ok (.iinc 3 1, 3) := by decide +kernel
theorem dX9_strangers_46 : decode cX9_strangers 46 = .ok (.goto (-37), 3) := by decide +kernel
theorem dX9_strangers_49 : decode cX9_strangers 49 = .ok (.iload_n 2, 1) := by decide +kernel
theorem dX9_strangers_50 : decode cX9_strangers 50 = .ok (.ireturn, 1) := by decide +kernel
theorem dX9_toldOf_0 : decode cX9_toldOf 0 = .ok (.iload_n 1, 1) := by decide +kernel
theorem dX9_toldOf_1 : decode cX9_toldOf 1 = .ok (.iconst 2, 1) := by decide +kernel
theorem dX9_toldOf_2 : decode cX9_toldOf 2 = .ok (.if_icmp .ge 16, 3) := by decide +kernel
theorem dX9_toldOf_5 : decode cX9_toldOf 5 = .ok (.aload_n 0, 1) := by decide +kernel
theorem dX9_toldOf_6 : decode cX9_toldOf 6 = .ok (.getfield 7, 3) := by decide +kernel
theorem dX9_toldOf_9 : decode cX9_toldOf 9 = .ok (.sipush 256, 3) := by decide +kernel
theorem dX9_toldOf_12 : decode cX9_toldOf 12 = .ok (.iload_n 1, 1) := by decide +kernel
theorem dX9_toldOf_13 : decode cX9_toldOf 13 = .ok (.iadd, 1) := by decide +kernel
theorem dX9_toldOf_14 : decode cX9_toldOf 14 = .ok (.iaload, 1) := by decide +kernel
theorem dX9_toldOf_15 : decode cX9_toldOf 15 = .ok (.goto 10, 3) := by decide +kernel
theorem dX9_toldOf_18 : decode cX9_toldOf 18 = .ok (.aload_n 0, 1) := by decide +kernel
theorem dX9_toldOf_19 : decode cX9_toldOf 19 = .ok (.iload_n 1, 1) := by decide +kernel
theorem dX9_toldOf_20 : decode cX9_toldOf 20 = .ok (.iconst 1, 1) := by decide +kernel
theorem dX9_toldOf_21 : decode cX9_toldOf 21 = .ok (.isub, 1) := by decide +kernel
theorem dX9_toldOf_22 : decode cX9_toldOf 22 = .ok (.invokevirtual 211, 3) := by decide +kernel
theorem dX9_toldOf_25 : decode cX9_toldOf 25 = .ok (.ireturn, 1) := by decide +kernel
theorem dX9_told_0 : decode cX9_told 0 = .ok (.iload_n 1, 1) := by decide +kernel
theorem dX9_told_1 : decode cX9_told 1 = .ok (.iconst 0, 1) := by decide +kernel
theorem dX9_told_2 : decode cX9_told 2 = .ok (.iconst 3, 1) := by decide +kernel
theorem dX9_told_3 : decode cX9_told 3 = .ok (.invokestatic 68, 3) := by decide +kernel
theorem dX9_told_6 : decode cX9_told 6 = .ok (.ifCond .eq 11, 3) := by decide +kernel
theorem dX9_told_9 : decode cX9_told 9 = .ok (.aload_n 0, 1) := by decide +kernel
theorem dX9_told_10 : decode cX9_told 10 = .ok (.iload_n 1, 1) := by decide +kernel
theorem dX9_told_11 : decode cX9_told 11 = .ok (.invokevirtual 214, 3) := by decide +kernel
theorem dX9_told_14 : decode cX9_told 14 = .ok (.goto 9, 3) := by decide +kernel
theorem dX9_told_17 : decode cX9_told 17 = .ok (.aload_n 0, 1) := by decide +kernel
theorem dX9_told_18 : decode cX9_told 18 = .ok (.bipush (-2), 2) := by decide +kernel
theorem dX9_told_20 : decode cX9_told 20 = .ok (.invokevirtual 60, 3) := by decide +kernel
theorem dX9_told_23 : decode cX9_told 23 = .ok (.ireturn, 1) := by decide +kernel
theorem dX9_type_0 : decode cX9_type 0 = .ok (.iload_n 1, 1) := by decide +kernel
theorem dX9_type_1 : decode cX9_type 1 = .ok (.iconst 0, 1) := by decide +kernel
theorem dX9_type_2 : decode cX9_type 2 = .ok (.bipush 127, 2) := by decide +kernel
theorem dX9_type_4 : decode cX9_type 4 = .ok (.invokestatic 68, 3) := by decide +kernel
theorem dX9_type_7 : decode cX9_type 7 = .ok (.ifCond .ne 10, 3) := by decide +kernel
theorem dX9_type_10 : decode cX9_type 10 = .ok (.aload_n 0, 1) := by decide +kernel
theorem dX9_type_11 : decode cX9_type 11 = .ok (.bipush (-2), 2) := by decide +kernel
theorem dX9_type_13 : decode cX9_type 13 = .ok (.invokevirtual 60, 3) := by decide +kernel
theorem dX9_type_16 : decode cX9_type 16 = .ok (.ireturn, 1) := by decide +kernel
theorem dX9_type_17 : decode cX9_type 17 = .ok (.aload_n 0, 1) := by decide +kernel
theorem dX9_type_18 : decode cX9_type 18 = .ok (.getfield 217, 3) := by decide +kernel
theorem dX9_type_21 : decode cX9_type 21 = .ok (.sipush 150, 3) := by decide +kernel
theorem dX9_type_24 : decode cX9_type 24 = .ok (.if_icmp .ne 10, 3) := by decide +kernel
theorem dX9_type_27 : decode cX9_type 27 = .ok (.aload_n 0, 1) := by decide +kernel
theorem dX9_type_28 : decode cX9_type 28 = .ok (.bipush (-4), 2) := by decide +kernel
theorem dX9_type_30 : decode cX9_type 30 = .ok (.invokevirtual 60, 3) := by decide +kernel
theorem dX9_type_33 : decode cX9_type 33 = .ok (.ireturn, 1) := by decide +kernel
theorem dX9_type_34 : decode cX9_type 34 = .ok (.aload_n 0, 1) := by decide +kernel
theorem dX9_type_35 : decode cX9_type 35 = .ok (.getfield 25, 3) := by decide +kernel
theorem dX9_type_38 : decode cX9_type 38 = .ok (.aload_n 0, 1) := by decide +kernel
theorem dX9_type_39 : decode cX9_type 39 = .ok (.getfield 217, 3) := by decide +kernel
theorem dX9_type_42 : decode cX9_type 42 = .ok (.iload_n 1, 1) := by decide +kernel
theorem dX9_type_43 : decode cX9_type 43 = .ok (.iastore, 1) := by decide +kernel
theorem dX9_type_44 : decode cX9_type 44 = .ok (.aload_n 0, 1) := by decide +kernel
theorem dX9_type_45 : decode cX9_type 45 = .ok (.dup, 1) := by decide +kernel
theorem dX9_type_46 : decode cX9_type 46 = .ok (.getfield 217, 3) := by decide +kernel
theorem dX9_type_49 : decode cX9_type 49 = .ok (.iconst 1, 1) := by decide +kernel
theorem dX9_type_50 : decode cX9_type 50 = .ok (.iadd, 1) := by decide +kernel
theorem dX9_type_51 : decode cX9_type 51 = .ok (.putfield 217, 3) := by decide +kernel
theorem dX9_type_54 : decode cX9_type 54 = .ok (.aload_n 0, 1) := by decide +kernel
theorem dX9_type_55 : decode cX9_type 55 = .ok (.getfield 217, 3) := by decide +kernel
theorem dX9_type_58 : decode cX9_type 58 = .ok (.ireturn, 1) := by decide +kernel
theorem dX9_clear_0 : decode cX9_clear 0 = .ok (.aload_n 0, 1) := by decide +kernel
theorem dX9_clear_1 : decode cX9_clear 1 = .ok (.getfield 217, 3) := by decide +kernel
theorem dX9_clear_4 : decode cX9_clear 4 = .ok (.istore_n 1, 1) := by decide +kernel
theorem dX9_clear_5 : decode cX9_clear 5 = .ok (.aload_n 0, 1) := by decide +kernel
theorem dX9_clear_6 : decode cX9_clear 6 = .ok (.iconst 0, 1) := by decide +kernel
theorem dX9_clear_7 : decode cX9_clear 7 = .ok (.putfield 217, 3) := by decide +kernel
theorem dX9_clear_10 : decode cX9_clear 10 = .ok (.iload_n 1, 1) := by decide +kernel
theorem dX9_clear_11 : decode cX9_clear 11 = .ok (.ireturn, 1) := by decide +kernel
theorem dX9_wantsOf_0 : decode cX9_wantsOf 0 = .ok (.iload_n 0, 1) := by decide +kernel
theorem dX9_wantsOf_1 : decode cX9_wantsOf 1 = .ok (.tableswitch 99 97 114 #[97, 99, 99, 91, 93, 87, 99, 99, 99, 99, 99, 99, 95, 99, 99, 89, 99, 93], 87) := by decide +kernel
theorem dX9_wantsOf_88 : decode cX9_wantsOf 88 = .ok (.iconst 0, 1) := by decide +kernel
theorem dX9_wantsOf_89 : decode cX9_wantsOf 89 = .ok (.ireturn, 1) := by decide +kernel
theorem dX9_wantsOf_90 : decode cX9_wantsOf 90 = .ok (.iconst 1, 1) := by decide +kernel
theorem dX9_wantsOf_91 : decode cX9_wantsOf 91 = .ok (.ireturn, 1) := by decide +kernel
theorem dX9_wantsOf_92 : decode cX9_wantsOf 92 = .ok (.iconst 2, 1) := by decide +kernel
theorem dX9_wantsOf_93 : decode cX9_wantsOf 93 = .ok (.ireturn, 1) := by decide +kernel
theorem dX9_wantsOf_94 : decode cX9_wantsOf 94 = .ok (.iconst 3, 1) := by decide +kernel
theorem dX9_wantsOf_95 : decode cX9_wantsOf 95 = .ok (.ireturn, 1) := by decide +kernel
theorem dX9_wantsOf_96 : decode cX9_wantsOf 96 = .ok (.iconst 4, 1) := by decide +kernel
theorem dX9_wantsOf_97 : decode cX9_wantsOf 97 = .ok (.ireturn, 1) := by decide +kernel
theorem dX9_wantsOf_98 : decode cX9_wantsOf 98 = .ok (.iconst 5, 1) := by decide +kernel
theorem dX9_wantsOf_99 : decode cX9_wantsOf 99 = .ok (.ireturn, 1) := by decide +kernel
theorem dX9_wantsOf_100 : decode cX9_wantsOf 100 = .ok (.iconst (-1), 1) := by decide +kernel
theorem dX9_wantsOf_101 : decode cX9_wantsOf 101 = .ok (.ireturn, 1) := by decide +kernel
theorem dX9_readByte_0 : decode cX9_readByte 0 = .ok (.aload_n 0, 1) := by decide +kernel
theorem dX9_readByte_1 : decode cX9_readByte 1 = .ok (.getfield 220, 3) := by decide +kernel
theorem dX9_readByte_4 : decode cX9_readByte 4 = .ok (.ifCond .ne 58, 3) := by decide +kernel
theorem dX9_readByte_7 : decode cX9_readByte 7 = .ok (.aload_n 0, 1) := by decide +kernel
theorem dX9_readByte_8 : decode cX9_readByte 8 = .ok (.iload_n 1, 1) := by decide +kernel
theorem dX9_readByte_9 : decode cX9_readByte 9 = .ok (.bipush 32, 2) := by decide +kernel
theorem dX9_readByte_11 : decode cX9_readByte 11 = .ok (.if_icmp .ne 7, 3) := by decide +kernel
theorem dX9_readByte_14 : decode cX9_readByte 14 = .ok (.iconst 0, 1) := by decide +kernel
theorem dX9_readByte_15 : decode cX9_readByte 15 = .ok (.goto 4, 3) := by decide +kernel
theorem dX9_readByte_18 : decode cX9_readByte 18 = .ok (.iload_n 1, 1) := by decide +kernel
theorem dX9_readByte_19 : decode cX9_readByte 19 = .ok (.putfield 220, 3) := by decide +kernel
theorem dX9_readByte_22 : decode cX9_readByte 22 = .ok (.aload_n 0, 1) := by decide +kernel
theorem dX9_readByte_23 : decode cX9_readByte 23 = .ok (.iconst 0, 1) := by decide +kernel
theorem dX9_readByte_24 : decode cX9_readByte 24 = .ok (.putfield 223, 3) := by decide +kernel
theorem dX9_readByte_27 : decode cX9_readByte 27 = .ok (.aload_n 0, 1) := by decide +kernel
theorem dX9_readByte_28 : decode cX9_readByte 28 = .ok (.iconst 0, 1) := by decide +kernel
theorem dX9_readByte_29 : decode cX9_readByte 29 = .ok (.putfield 226, 3) := by decide +kernel
theorem dX9_readByte_32 : decode cX9_readByte 32 = .ok (.aload_n 0, 1) := by decide +kernel
theorem dX9_readByte_33 : decode cX9_readByte 33 = .ok (.getfield 28, 3) := by decide +kernel
theorem dX9_readByte_36 : decode cX9_readByte 36 = .ok (.aload_n 0, 1) := by decide +kernel
theorem dX9_readByte_37 : decode cX9_readByte 37 = .ok (.getfield 229, 3) := by decide +kernel
theorem dX9_readByte_40 : decode cX9_readByte 40 = .ok (.iload_n 1, 1) := by decide +kernel
theorem dX9_readByte_41 : decode cX9_readByte 41 = .ok (.iastore, 1) := by decide +kernel
theorem dX9_readByte_42 : decode cX9_readByte 42 = .ok (.iload_n 1, 1) := by decide +kernel
theorem dX9_readByte_43 : decode cX9_readByte 43 = .ok (.bipush 32, 2) := by decide +kernel
theorem dX9_readByte_45 : decode cX9_readByte 45 = .ok (.if_icmp .eq 11, 3) := by decide +kernel
theorem dX9_readByte_48 : decode cX9_readByte 48 = .ok (.iload_n 1, 1) := by decide +kernel
theorem dX9_readByte_49 : decode cX9_readByte 49 = .ok (.invokestatic 232, 3) := by decide +kernel
theorem dX9_readByte_52 : decode cX9_readByte 52 = .ok (.iconst (-1), 1) := by decide +kernel
theorem dX9_readByte_53 : decode cX9_readByte 53 = .ok (.if_icmp .eq 7, 3) := by decide +kernel
theorem dX9_readByte_56 : decode cX9_readByte 56 = .ok (.iconst 1, 1) := by decide +kernel
theorem dX9_readByte_57 : decode cX9_readByte 57 = .ok (.goto 4, 3) := by decide +kernel
theorem dX9_readByte_60 : decode cX9_readByte 60 = .ok (.iconst 0, 1) := by decide +kernel
theorem dX9_readByte_61 : decode cX9_readByte 61 = .ok (.ireturn, 1) := by decide +kernel
theorem dX9_readByte_62 : decode cX9_readByte 62 = .ok (.iload_n 1, 1) := by decide +kernel
theorem dX9_readByte_63 : decode cX9_readByte 63 = .ok (.bipush 32, 2) := by decide +kernel
theorem dX9_readByte_65 : decode cX9_readByte 65 = .ok (.if_icmp .ne 10, 3) := by decide +kernel
theorem dX9_readByte_68 : decode cX9_readByte 68 = .ok (.aload_n 0, 1) := by decide +kernel
theorem dX9_readByte_69 : decode cX9_readByte 69 = .ok (.iconst 0, 1) := by decide +kernel
theorem dX9_readByte_70 : decode cX9_readByte 70 = .ok (.putfield 226, 3) := by decide +kernel
theorem dX9_readByte_73 : decode cX9_readByte 73 = .ok (.iconst 1, 1) := by decide +kernel
theorem dX9_readByte_74 : decode cX9_readByte 74 = .ok (.ireturn, 1) := by decide +kernel
theorem dX9_readByte_75 : decode cX9_readByte 75 = .ok (.iload_n 1, 1) := by decide +kernel
theorem dX9_readByte_76 : decode cX9_readByte 76 = .ok (.bipush 48, 2) := by decide +kernel
theorem dX9_readByte_78 : decode cX9_readByte 78 = .ok (.bipush 57, 2) := by decide +kernel
theorem dX9_readByte_80 : decode cX9_readByte 80 = .ok (.invokestatic 68, 3) := by decide +kernel
theorem dX9_readByte_83 : decode cX9_readByte 83 = .ok (.ifCond .eq 126, 3) := by decide +kernel
theorem dX9_readByte_86 : decode cX9_readByte 86 = .ok (.aload_n 0, 1) := by decide +kernel
theorem dX9_readByte_87 : decode cX9_readByte 87 = .ok (.getfield 226, 3) := by decide +kernel
theorem dX9_readByte_90 : decode cX9_readByte 90 = .ok (.iconst 2, 1) := by decide +kernel
theorem dX9_readByte_91 : decode cX9_readByte 91 = .ok (.if_icmp .eq 24, 3) := by decide +kernel
theorem dX9_readByte_94 : decode cX9_readByte 94 = .ok (.aload_n 0, 1) := by decide +kernel
theorem dX9_readByte_95 : decode cX9_readByte 95 = .ok (.getfield 226, 3) := by decide +kernel
theorem dX9_readByte_98 : decode cX9_readByte 98 = .ok (.ifCond .ne 19, 3) := by decide +kernel
theorem dX9_readByte_101 : decode cX9_readByte 101 = .ok (.aload_n 0, 1) := by decide +kernel
theorem dX9_readByte_102 : decode cX9_readByte 102 = .ok (.getfield 223, 3) := by decide +kernel
theorem dX9_readByte_105 : decode cX9_readByte 105 = .ok (.aload_n 0, 1) := by decide +kernel
theorem dX9_readByte_106 : decode cX9_readByte 106 = .ok (.getfield 220, 3) := by decide +kernel
theorem dX9_readByte_109 : decode cX9_readByte 109 = .ok (.invokestatic 232, 3) := by decide +kernel
theorem dX9_readByte_112 : decode cX9_readByte 112 = .ok (.if_icmp .ne 5, 3) := by decide +kernel
theorem dX9_readByte_115 : decode cX9_readByte 115 = .ok (.iconst 0, 1) := by decide +kernel
theorem dX9_readByte_116 : decode cX9_readByte 116 = .ok (.ireturn, 1) := by decide +kernel
theorem dX9_readByte_117 : decode cX9_readByte 117 = .ok (.aload_n 0, 1) := by decide +kernel
theorem dX9_readByte_118 : decode cX9_readByte 118 = .ok (.getfield 31, 3) := by decide +kernel
theorem dX9_readByte_121 : decode cX9_readByte 121 = .ok (.aload_n 0, 1) := by decide +kernel
theorem dX9_readByte_122 : decode cX9_readByte 122 = .ok (.getfield 229, 3) := by decide +kernel
theorem dX9_readByte_125 : decode cX9_readByte 125 = .ok (.iaload, 1) := by decide +kernel
theorem dX9_readByte_126 : decode cX9_readByte 126 = .ok (.aload_n 0, 1) := by decide +kernel
theorem dX9_readByte_127 : decode cX9_readByte 127 = .ok (.getfield 223, 3) := by decide +kernel
theorem dX9_readByte_130 : decode cX9_readByte 130 = .ok (.iadd, 1) := by decide +kernel
theorem dX9_readByte_131 : decode cX9_readByte 131 = .ok (.aload_n 0, 1) := by decide +kernel
theorem dX9_readByte_132 : decode cX9_readByte 132 = .ok (.getfield 226, 3) := by decide +kernel
theorem dX9_readByte_135 : decode cX9_readByte 135 = .ok (.ifCond .ne 7, 3) := by decide +kernel
theorem dX9_readByte_138 : decode cX9_readByte 138 = .ok (.iconst 0, 1) := by decide +kernel
theorem dX9_readByte_139 : decode cX9_readByte 139 = .ok (.goto 4, 3) := by decide +kernel
theorem dX9_readByte_142 : decode cX9_readByte 142 = .ok (.iconst 1, 1) := by decide +kernel
theorem dX9_readByte_143 : decode cX9_readByte 143 = .ok (.isub, 1) := by decide +kernel
theorem dX9_readByte_144 : decode cX9_readByte 144 = .ok (.istore_n 2, 1) := by decide +kernel
theorem dX9_readByte_145 : decode cX9_readByte 145 = .ok (.aload_n 0, 1) := by decide +kernel
theorem dX9_readByte_146 : decode cX9_readByte 146 = .ok (.getfield 34, 3) := by decide +kernel
theorem dX9_readByte_149 : decode cX9_readByte 149 = .ok (.iload_n 2, 1) := by decide +kernel
theorem dX9_readByte_150 : decode cX9_readByte 150 = .ok (.aload_n 0, 1) := by decide +kernel
theorem dX9_readByte_151 : decode cX9_readByte 151 = .ok (.getfield 226, 3) := by decide +kernel
theorem dX9_readByte_154 : decode cX9_readByte 154 = .ok (.ifCond .ne 7, 3) := by decide +kernel
theorem dX9_readByte_157 : decode cX9_readByte 157 = .ok (.iconst 0, 1) := by decide +kernel
theorem dX9_readByte_158 : decode cX9_readByte 158 = .ok (.goto 12, 3) := by decide +kernel
theorem dX9_readByte_161 : decode cX9_readByte 161 = .ok (.bipush 10, 2) := by decide +kernel
theorem dX9_readByte_163 : decode cX9_readByte 163 = .ok (.aload_n 0, 1) := by decide +kernel
theorem dX9_readByte_164 : decode cX9_readByte 164 = .ok (.getfield 34, 3) := by decide +kernel
theorem dX9_readByte_167 : decode cX9_readByte 167 = .ok (.iload_n 2, 1) := by decide +kernel
theorem dX9_readByte_168 : decode cX9_readByte 168 = .ok (.iaload, 1) := by decide +kernel
theorem dX9_readByte_169 : decode cX9_readByte 169 = .ok (.imul, 1) := by decide +kernel
theorem dX9_readByte_170 : decode cX9_readByte 170 = .ok (.iload_n 1, 1) := by decide +kernel
theorem dX9_readByte_171 : decode cX9_readByte 171 = .ok (.iadd, 1) := by decide +kernel
theorem dX9_readByte_172 : decode cX9_readByte 172 = .ok (.bipush 48, 2) := by decide +kernel
theorem dX9_readByte_174 : decode cX9_readByte 174 = .ok (.isub, 1) := by decide +kernel
theorem dX9_readByte_175 : decode cX9_readByte 175 = .ok (.iastore, 1) := by decide +kernel
theorem dX9_readByte_176 : decode cX9_readByte 176 = .ok (.aload_n 0, 1) := by decide +kernel
theorem dX9_readByte_177 : decode cX9_readByte 177 = .ok (.dup, 1) := by decide +kernel
theorem dX9_readByte_178 : decode cX9_readByte 178 = .ok (.getfield 223, 3) := by decide +kernel
theorem dX9_readByte_181 : decode cX9_readByte 181 = .ok (.aload_n 0, 1) := by decide +kernel
theorem dX9_readByte_182 : decode cX9_readByte 182 = .ok (.getfield 226, 3) := by decide +kernel
theorem dX9_readByte_185 : decode cX9_readByte 185 = .ok (.ifCond .ne 7, 3) := by decide +kernel
theorem dX9_readByte_188 : decode cX9_readByte 188 = .ok (.iconst 1, 1) := by decide +kernel
theorem dX9_readByte_189 : decode cX9_readByte 189 = .ok (.goto 4, 3) := by decide +kernel
theorem dX9_readByte_192 : decode cX9_readByte 192 = .ok (.iconst 0, 1) := by decide +kernel
theorem dX9_readByte_193 : decode cX9_readByte 193 = .ok (.iadd, 1) := by decide +kernel
theorem dX9_readByte_194 : decode cX9_readByte 194 = .ok (.putfield 223, 3) := by decide +kernel
theorem dX9_readByte_197 : decode cX9_readByte 197 = .ok (.aload_n 0, 1) := by decide +kernel
theorem dX9_readByte_198 : decode cX9_readByte 198 = .ok (.dup, 1) := by decide +kernel
theorem dX9_readByte_199 : decode cX9_readByte 199 = .ok (.getfield 226, 3) := by decide +kernel
theorem dX9_readByte_202 : decode cX9_readByte 202 = .ok (.iconst 1, 1) := by decide +kernel
theorem dX9_readByte_203 : decode cX9_readByte 203 = .ok (.iadd, 1) := by decide +kernel
theorem dX9_readByte_204 : decode cX9_readByte 204 = .ok (.putfield 226, 3) := by decide +kernel
theorem dX9_readByte_207 : decode cX9_readByte 207 = .ok (.iconst 1, 1) := by decide +kernel
theorem dX9_readByte_208 : decode cX9_readByte 208 = .ok (.ireturn, 1) := by decide +kernel
theorem dX9_readByte_209 : decode cX9_readByte 209 = .ok (.iload_n 1, 1) := by decide +kernel
theorem dX9_readByte_210 : decode cX9_readByte 210 = .ok (.bipush 59, 2) := by decide +kernel
theorem dX9_readByte_212 : decode cX9_readByte 212 = .ok (.if_icmp .ne 17, 3) := by decide +kernel
theorem dX9_readByte_215 : decode cX9_readByte 215 = .ok (.aload_n 0, 1) := by decide +kernel
theorem dX9_readByte_216 : decode cX9_readByte 216 = .ok (.getfield 223, 3) := by decide +kernel
theorem dX9_readByte_219 : decode cX9_readByte 219 = .ok (.aload_n 0, 1) := by decide +kernel
theorem dX9_readByte_220 : decode cX9_readByte 220 = .ok (.getfield 220, 3) := by decide +kernel
theorem dX9_readByte_223 : decode cX9_readByte 223 = .ok (.invokestatic 232, 3) := by decide +kernel
theorem dX9_readByte_226 : decode cX9_readByte 226 = .ok (.if_icmp .ge 5, 3) := by decide +kernel
theorem dX9_readByte_229 : decode cX9_readByte 229 = .ok (.iconst 0, 1) := by decide +kernel
theorem dX9_readByte_230 : decode cX9_readByte 230 = .ok (.ireturn, 1) := by decide +kernel
theorem dX9_readByte_231 : decode cX9_readByte 231 = .ok (.aload_n 0, 1) := by decide +kernel
theorem dX9_readByte_232 : decode cX9_readByte 232 = .ok (.iconst 0, 1) := by decide +kernel
theorem dX9_readByte_233 : decode cX9_readByte 233 = .ok (.putfield 220, 3) := by decide +kernel
theorem dX9_readByte_236 : decode cX9_readByte 236 = .ok (.aload_n 0, 1) := by decide +kernel
theorem dX9_readByte_237 : decode cX9_readByte 237 = .ok (.getfield 31, 3) := by decide +kernel
theorem dX9_readByte_240 : decode cX9_readByte 240 = .ok (.aload_n 0, 1) := by decide +kernel
theorem dX9_readByte_241 : decode cX9_readByte 241 = .ok (.getfield 229, 3) := by decide +kernel
theorem dX9_readByte_244 : decode cX9_readByte 244 = .ok (.iconst 1, 1) := by decide +kernel
theorem dX9_readByte_245 : decode cX9_readByte 245 = .ok (.iadd, 1) := by decide +kernel
theorem dX9_readByte_246 : decode cX9_readByte 246 = .ok (.aload_n 0, 1) := by decide +kernel
theorem dX9_readByte_247 : decode cX9_readByte 247 = .ok (.getfield 31, 3) := by decide +kernel
theorem dX9_readByte_250 : decode cX9_readByte 250 = .ok (.aload_n 0, 1) := by decide +kernel
theorem dX9_readByte_251 : decode cX9_readByte 251 = .ok (.getfield 229, 3) := by decide +kernel
theorem dX9_readByte_254 : decode cX9_readByte 254 = .ok (.iaload, 1) := by decide +kernel
theorem dX9_readByte_255 : decode cX9_readByte 255 = .ok (.aload_n 0, 1) := by decide +kernel
theorem dX9_readByte_256 : decode cX9_readByte 256 = .ok (.getfield 223, 3) := by decide +kernel
theorem dX9_readByte_259 : decode cX9_readByte 259 = .ok (.iadd, 1) := by decide +kernel
theorem dX9_readByte_260 : decode cX9_readByte 260 = .ok (.iastore, 1) := by decide +kernel
theorem dX9_readByte_261 : decode cX9_readByte 261 = .ok (.aload_n 0, 1) := by decide +kernel
theorem dX9_readByte_262 : decode cX9_readByte 262 = .ok (.dup, 1) := by decide +kernel
theorem dX9_readByte_263 : decode cX9_readByte 263 = .ok (.getfield 229, 3) := by decide +kernel
theorem dX9_readByte_266 : decode cX9_readByte 266 = .ok (.iconst 1, 1) := by decide +kernel
theorem dX9_readByte_267 : decode cX9_readByte 267 = .ok (.iadd, 1) := by decide +kernel
theorem dX9_readByte_268 : decode cX9_readByte 268 = .ok (.putfield 229, 3) := by decide +kernel
theorem dX9_readByte_271 : decode cX9_readByte 271 = .ok (.iconst 1, 1) := by decide +kernel
theorem dX9_readByte_272 : decode cX9_readByte 272 = .ok (.ireturn, 1) := by decide +kernel
theorem dX9_readText_0 : decode cX9_readText 0 = .ok (.aload_n 0, 1) := by decide +kernel
theorem dX9_readText_1 : decode cX9_readText 1 = .ok (.iconst 0, 1) := by decide +kernel
theorem dX9_readText_2 : decode cX9_readText 2 = .ok (.putfield 229, 3) := by decide +kernel
theorem dX9_readText_5 : decode cX9_readText 5 = .ok (.aload_n 0, 1) := by decide +kernel
theorem dX9_readText_6 : decode cX9_readText 6 = .ok (.getfield 31, 3) := by decide +kernel
theorem dX9_readText_9 : decode cX9_readText 9 = .ok (.iconst 0, 1) := by decide +kernel
theorem dX9_readText_10 : decode cX9_readText 10 = .ok (.iconst 0, 1) := by decide +kernel
theorem dX9_readText_11 : decode cX9_readText 11 = .ok (.iastore, 1) := by decide +kernel
theorem dX9_readText_12 : decode cX9_readText 12 = .ok (.aload_n 0, 1) := by decide +kernel
theorem dX9_readText_13 : decode cX9_readText 13 = .ok (.iconst 0, 1) := by decide +kernel
theorem dX9_readText_14 : decode cX9_readText 14 = .ok (.putfield 220, 3) := by decide +kernel
theorem dX9_readText_17 : decode cX9_readText 17 = .ok (.iconst 0, 1) := by decide +kernel
theorem dX9_readText_18 : decode cX9_readText 18 = .ok (.istore_n 1, 1) := by decide +kernel
theorem dX9_readText_19 : decode cX9_readText 19 = .ok (.iload_n 1, 1) := by decide +kernel
theorem dX9_readText_20 : decode cX9_readText 20 = .ok (.aload_n 0, 1) := by decide +kernel
theorem dX9_readText_21 : decode cX9_readText 21 = .ok (.getfield 217, 3) := by decide +kernel
theorem dX9_readText_24 : decode cX9_readText 24 = .ok (.if_icmp .ge 24, 3) := by decide +kernel
theorem dX9_readText_27 : decode cX9_readText 27 = .ok (.aload_n 0, 1) := by decide +kernel
theorem dX9_readText_28 : decode cX9_readText 28 = .ok (.aload_n 0, 1) := by decide +kernel
theorem dX9_readText_29 : decode cX9_readText 29 = .ok (.getfield 25, 3) := by decide +kernel
theorem dX9_readText_32 : decode cX9_readText 32 = .ok (.iload_n 1, 1) := by decide +kernel
theorem dX9_readText_33 : decode cX9_readText 33 = .ok (.iaload, 1) := by decide +kernel
theorem dX9_readText_34 : decode cX9_readText 34 = .ok (.invokevirtual 235, 3) := by decide +kernel
theorem dX9_readText_37 : decode cX9_readText 37 = .ok (.ifCond .ne 5, 3) := by decide +kernel
theorem dX9_readText_40 : decode cX9_readText 40 = .ok (.iload_n 1, 1) := by decide +kernel
theorem dX9_readText_41 : decode cX9_readText 41 = .ok (.ireturn, 1) := by decide +kernel
theorem dX9_readText_42 : decode cX9_readText 42 = .ok (.iinc 1 1, 3) := by decide +kernel
theorem dX9_readText_45 : decode cX9_readText 45 = .ok (.goto (-26), 3) := by decide +kernel
theorem dX9_readText_48 : decode cX9_readText 48 = .ok (.aload_n 0, 1) := by decide +kernel
theorem dX9_readText_49 : decode cX9_readText 49 = .ok (.getfield 220, 3) := by decide +kernel
theorem dX9_readText_52 : decode cX9_readText 52 = .ok (.ifCond .ne 10, 3) := by decide +kernel
theorem dX9_readText_55 : decode cX9_readText 55 = .ok (.aload_n 0, 1) := by decide +kernel
theorem dX9_readText_56 : decode cX9_readText 56 = .ok (.getfield 229, 3) := by decide +kernel
theorem dX9_readText_59 : decode cX9_readText 59 = .ok (.ifCond .ne 10, 3) := by decide +kernel
theorem dX9_readText_62 : decode cX9_readText 62 = .ok (.aload_n 0, 1) := by decide +kernel
theorem dX9_readText_63 : decode cX9_readText 63 = .ok (.getfield 217, 3) := by decide +kernel
theorem dX9_readText_66 : decode cX9_readText 66 = .ok (.goto 4, 3) := by decide +kernel
theorem dX9_readText_69 : decode cX9_readText 69 = .ok (.iconst (-1), 1) := by decide +kernel
theorem dX9_readText_70 : decode cX9_readText 70 = .ok (.ireturn, 1) := by decide +kernel
theorem dX9_numberOf_0 : decode cX9_numberOf 0 = .ok (.aload_n 0, 1) := by decide +kernel
theorem dX9_numberOf_1 : decode cX9_numberOf 1 = .ok (.getfield 31, 3) := by decide +kernel
theorem dX9_numberOf_4 : decode cX9_numberOf 4 = .ok (.iload_n 1, 1) := by decide +kernel
theorem dX9_numberOf_5 : decode cX9_numberOf 5 = .ok (.iaload, 1) := by decide +kernel
theorem dX9_numberOf_6 : decode cX9_numberOf 6 = .ok (.iload_n 2, 1) := by decide +kernel
theorem dX9_numberOf_7 : decode cX9_numberOf 7 = .ok (.iadd, 1) := by decide +kernel
theorem dX9_numberOf_8 : decode cX9_numberOf 8 = .ok (.aload_n 0, 1) := by decide +kernel
theorem dX9_numberOf_9 : decode cX9_numberOf 9 = .ok (.getfield 31, 3) := by decide +kernel
theorem dX9_numberOf_12 : decode cX9_numberOf 12 = .ok (.iload_n 1, 1) := by decide +kernel
theorem dX9_numberOf_13 : decode cX9_numberOf 13 = .ok (.iconst 1, 1) := by decide +kernel
theorem dX9_numberOf_14 : decode cX9_numberOf 14 = .ok (.iadd, 1) := by decide +kernel
theorem dX9_numberOf_15 : decode cX9_numberOf 15 = .ok (.iaload, 1) := by decide +kernel
theorem dX9_numberOf_16 : decode cX9_numberOf 16 = .ok (.if_icmp .ge 19, 3) := by decide +kernel
theorem dX9_numberOf_19 : decode cX9_numberOf 19 = .ok (.aload_n 0, 1) := by decide +kernel
theorem dX9_numberOf_20 : decode cX9_numberOf 20 = .ok (.getfield 34, 3) := by decide +kernel
theorem dX9_numberOf_23 : decode cX9_numberOf 23 = .ok (.aload_n 0, 1) := by decide +kernel
theorem dX9_numberOf_24 : decode cX9_numberOf 24 = .ok (.getfield 31, 3) := by decide +kernel
theorem dX9_numberOf_27 : decode cX9_numberOf 27 = .ok (.iload_n 1, 1) := by decide +kernel
theorem dX9_numberOf_28 : decode cX9_numberOf 28 = .ok (.iaload, 1) := by decide +kernel
theorem dX9_numberOf_29 : decode cX9_numberOf 29 = .ok (.iload_n 2, 1) := by decide +kernel
theorem dX9_numberOf_30 : decode cX9_numberOf 30 = .ok (.iadd, 1) := by decide +kernel
theorem dX9_numberOf_31 : decode cX9_numberOf 31 = .ok (.iaload, 1) := by decide +kernel
theorem dX9_numberOf_32 : decode cX9_numberOf 32 = .ok (.goto 4, 3) := by decide +kernel
theorem dX9_numberOf_35 : decode cX9_numberOf 35 = .ok (.iconst 0, 1) := by decide +kernel
theorem dX9_numberOf_36 : decode cX9_numberOf 36 = .ok (.ireturn, 1) := by decide +kernel
theorem dX9_doOrder_0 : decode cX9_doOrder 0 = .ok (.aload_n 0, 1) := by decide +kernel
theorem dX9_doOrder_1 : decode cX9_doOrder 1 = .ok (.iload_n 1, 1) := by decide +kernel
theorem dX9_doOrder_2 : decode cX9_doOrder 2 = .ok (.iconst 0, 1) := by decide +kernel
theorem dX9_doOrder_3 : decode cX9_doOrder 3 = .ok (.invokevirtual 238, 3) := by decide +kernel
theorem dX9_doOrder_6 : decode cX9_doOrder 6 = .ok (.istore_n 2, 1) := by decide +kernel
theorem dX9_doOrder_7 : decode cX9_doOrder 7 = .ok (.aload_n 0, 1) := by decide +kernel
theorem dX9_doOrder_8 : decode cX9_doOrder 8 = .ok (.iload_n 1, 1) := by decide +kernel
theorem dX9_doOrder_9 : decode cX9_doOrder 9 = .ok (.iconst 1, 1) := by decide +kernel
theorem dX9_doOrder_10 : decode cX9_doOrder 10 = .ok (.invokevirtual 238, 3) := by decide +kernel
theorem dX9_doOrder_13 : decode cX9_doOrder 13 = .ok (.istore_n 3, 1) := by decide +kernel
theorem dX9_doOrder_14 : decode cX9_doOrder 14 = .ok (.aload_n 0, 1) := by decide +kernel
theorem dX9_doOrder_15 : decode cX9_doOrder 15 = .ok (.iload_n 1, 1) := by decide +kernel
theorem dX9_doOrder_16 : decode cX9_doOrder 16 = .ok (.iconst 2, 1) := by decide +kernel
theorem dX9_doOrder_17 : decode cX9_doOrder 17 = .ok (.invokevirtual 238, 3) := by decide +kernel
theorem dX9_doOrder_20 : decode cX9_doOrder 20 = .ok (.istore 4, 2) := by decide +kernel
theorem dX9_doOrder_22 : decode cX9_doOrder 22 = .ok (.aload_n 0, 1) := by decide +kernel
theorem dX9_doOrder_23 : decode cX9_doOrder 23 = .ok (.iload_n 1, 1) := by decide +kernel
theorem dX9_doOrder_24 : decode cX9_doOrder 24 = .ok (.iconst 3, 1) := by decide +kernel
theorem dX9_doOrder_25 : decode cX9_doOrder 25 = .ok (.invokevirtual 238, 3) := by decide +kernel
theorem dX9_doOrder_28 : decode cX9_doOrder 28 = .ok (.istore 5, 2) := by decide +kernel
theorem dX9_doOrder_30 : decode cX9_doOrder 30 = .ok (.aload_n 0, 1) := by decide +kernel
theorem dX9_doOrder_31 : decode cX9_doOrder 31 = .ok (.getfield 28, 3) := by decide +kernel
theorem dX9_doOrder_34 : decode cX9_doOrder 34 = .ok (.iload_n 1, 1) := by decide +kernel
theorem dX9_doOrder_35 : decode cX9_doOrder 35 = .ok (.iaload, 1) := by decide +kernel
theorem dX9_doOrder_36 : decode cX9_doOrder 36 = .ok (.tableswitch 150 97 114 #[88, 150, 150, 138, 127, 145, 150, 150, 150, 150, 150, 150, 105, 150, 150, 150, 150, 116], 88) := by decide +kernel
theorem dX9_doOrder_124 : decode cX9_doOrder 124 = .ok (.aload_n 0, 1) := by decide +kernel
theorem dX9_doOrder_125 : decode cX9_doOrder 125 = .ok (.iload_n 2, 1) := by decide +kernel
theorem dX9_doOrder_126 : decode cX9_doOrder 126 = .ok (.iload_n 3, 1) := by decide +kernel
theorem dX9_doOrder_127 : decode cX9_doOrder 127 = .ok (.iload 4, 2) := by decide +kernel
theorem dX9_doOrder_129 : decode cX9_doOrder 129 = .ok (.iload 5, 2) := by decide +kernel
theorem dX9_doOrder_131 : decode cX9_doOrder 131 = .ok (.aload_n 0, 1) := by decide +kernel
theorem dX9_doOrder_132 : decode cX9_doOrder 132 = .ok (.iload_n 1, 1) := by decide +kernel
theorem dX9_doOrder_133 : decode cX9_doOrder 133 = .ok (.iconst 4, 1) := by decide +kernel
theorem dX9_doOrder_134 : decode cX9_doOrder 134 = .ok (.invokevirtual 238, 3) := by decide +kernel
theorem dX9_doOrder_137 : decode cX9_doOrder 137 = .ok (.invokevirtual 118, 3) := by decide +kernel
theorem dX9_doOrder_140 : decode cX9_doOrder 140 = .ok (.ireturn, 1) := by decide +kernel
theorem dX9_doOrder_141 : decode cX9_doOrder 141 = .ok (.aload_n 0, 1) := by decide +kernel
theorem dX9_doOrder_142 : decode cX9_doOrder 142 = .ok (.iload_n 2, 1) := by decide +kernel
theorem dX9_doOrder_143 : decode cX9_doOrder 143 = .ok (.iload_n 3, 1) := by decide +kernel
theorem dX9_doOrder_144 : decode cX9_doOrder 144 = .ok (.iload 4, 2) := by decide +kernel
theorem dX9_doOrder_146 : decode cX9_doOrder 146 = .ok (.iload 5, 2) := by decide +kernel
theorem dX9_doOrder_148 : decode cX9_doOrder 148 = .ok (.invokevirtual 125, 3) := by decide +kernel
theorem dX9_doOrder_151 : decode cX9_doOrder 151 = .ok (.ireturn, 1) := by decide +kernel
theorem dX9_doOrder_152 : decode cX9_doOrder 152 = .ok (.aload_n 0, 1) := by decide +kernel
theorem dX9_doOrder_153 : decode cX9_doOrder 153 = .ok (.iload_n 2, 1) := by decide +kernel
theorem dX9_doOrder_154 : decode cX9_doOrder 154 = .ok (.iload_n 3, 1) := by decide +kernel
theorem dX9_doOrder_155 : decode cX9_doOrder 155 = .ok (.bipush 32, 2) := by decide +kernel
theorem dX9_doOrder_157 : decode cX9_doOrder 157 = .ok (.iload 4, 2) := by decide +kernel
theorem dX9_doOrder_159 : decode cX9_doOrder 159 = .ok (.invokevirtual 129, 3) := by decide +kernel
theorem dX9_doOrder_162 : decode cX9_doOrder 162 = .ok (.ireturn, 1) := by decide +kernel
theorem dX9_doOrder_163 : decode cX9_doOrder 163 = .ok (.aload_n 0, 1) := by decide +kernel
theorem dX9_doOrder_164 : decode cX9_doOrder 164 = .ok (.iload_n 2, 1) := by decide +kernel
theorem dX9_doOrder_165 : decode cX9_doOrder 165 = .ok (.iload_n 3, 1) := by decide +kernel
theorem dX9_doOrder_166 : decode cX9_doOrder 166 = .ok (.bipush 48, 2) := by decide +kernel
theorem dX9_doOrder_168 : decode cX9_doOrder 168 = .ok (.iload 4, 2) := by decide +kernel
theorem dX9_doOrder_170 : decode cX9_doOrder 170 = .ok (.invokevirtual 129, 3) := by decide +kernel
theorem dX9_doOrder_173 : decode cX9_doOrder 173 = .ok (.ireturn, 1) := by decide +kernel
theorem dX9_doOrder_174 : decode cX9_doOrder 174 = .ok (.aload_n 0, 1) := by decide +kernel
theorem dX9_doOrder_175 : decode cX9_doOrder 175 = .ok (.iload_n 2, 1) := by decide +kernel
theorem dX9_doOrder_176 : decode cX9_doOrder 176 = .ok (.iload_n 3, 1) := by decide +kernel
theorem dX9_doOrder_177 : decode cX9_doOrder 177 = .ok (.invokevirtual 132, 3) := by decide +kernel
theorem dX9_doOrder_180 : decode cX9_doOrder 180 = .ok (.ireturn, 1) := by decide +kernel
theorem dX9_doOrder_181 : decode cX9_doOrder 181 = .ok (.aload_n 0, 1) := by decide +kernel
theorem dX9_doOrder_182 : decode cX9_doOrder 182 = .ok (.invokevirtual 135, 3) := by decide +kernel
theorem dX9_doOrder_185 : decode cX9_doOrder 185 = .ok (.ireturn, 1) := by decide +kernel
theorem dX9_doOrder_186 : decode cX9_doOrder 186 = .ok (.aload_n 0, 1) := by decide +kernel
theorem dX9_doOrder_187 : decode cX9_doOrder 187 = .ok (.iload_n 2, 1) := by decide +kernel
theorem dX9_doOrder_188 : decode cX9_doOrder 188 = .ok (.invokevirtual 139, 3) := by decide +kernel
theorem dX9_doOrder_191 : decode cX9_doOrder 191 = .ok (.ireturn, 1) := by decide +kernel
theorem dX9_does_0 : decode cX9_does 0 = .ok (.aload_n 0, 1) := by decide +kernel
theorem dX9_does_1 : decode cX9_does 1 = .ok (.invokevirtual 241, 3) := by decide +kernel
theorem dX9_does_4 : decode cX9_does 4 = .ok (.istore_n 1, 1) := by decide +kernel
theorem dX9_does_5 : decode cX9_does 5 = .ok (.iload_n 1, 1) := by decide +kernel
theorem dX9_does_6 : decode cX9_does 6 = .ok (.iconst (-1), 1) := by decide +kernel
theorem dX9_does_7 : decode cX9_does 7 = .ok (.if_icmp .eq 8, 3) := by decide +kernel
theorem dX9_does_10 : decode cX9_does 10 = .ok (.bipush (-10), 2) := by decide +kernel
theorem dX9_does_12 : decode cX9_does 12 = .ok (.iload_n 1, 1) := by decide +kernel
theorem dX9_does_13 : decode cX9_does 13 = .ok (.isub, 1) := by decide +kernel
theorem dX9_does_14 : decode cX9_does 14 = .ok (.ireturn, 1) := by decide +kernel
theorem dX9_does_15 : decode cX9_does 15 = .ok (.aload_n 0, 1) := by decide +kernel
theorem dX9_does_16 : decode cX9_does 16 = .ok (.getfield 7, 3) := by decide +kernel
theorem dX9_does_19 : decode cX9_does 19 = .ok (.iconst 0, 1) := by decide +kernel
theorem dX9_does_20 : decode cX9_does 20 = .ok (.aload_n 0, 1) := by decide +kernel
theorem dX9_does_21 : decode cX9_does 21 = .ok (.getfield 16, 3) := by decide +kernel
theorem dX9_does_24 : decode cX9_does 24 = .ok (.iconst 0, 1) := by decide +kernel
theorem dX9_does_25 : decode cX9_does 25 = .ok (.sipush 258, 3) := by decide +kernel
theorem dX9_does_28 : decode cX9_does 28 = .ok (.invokestatic 52, 3) := by decide +kernel
theorem dX9_does_31 : decode cX9_does 31 = .ok (.iconst 0, 1) := by decide +kernel
theorem dX9_does_32 : decode cX9_does 32 = .ok (.istore_n 2, 1) := by decide +kernel
theorem dX9_does_33 : decode cX9_does 33 = .ok (.iload_n 2, 1) := by decide +kernel
theorem dX9_does_34 : decode cX9_does 34 = .ok (.aload_n 0, 1) := by decide +kernel
theorem dX9_does_35 : decode cX9_does 35 = .ok (.getfield 229, 3) := by decide +kernel
theorem dX9_does_38 : decode cX9_does 38 = .ok (.if_icmp .ge 42, 3) := by decide +kernel
theorem dX9_does_41 : decode cX9_does 41 = .ok (.aload_n 0, 1) := by decide +kernel
theorem dX9_does_42 : decode cX9_does 42 = .ok (.iload_n 2, 1) := by decide +kernel
theorem dX9_does_43 : decode cX9_does 43 = .ok (.invokevirtual 244, 3) := by decide +kernel
theorem dX9_does_46 : decode cX9_does 46 = .ok (.invokestatic 56, 3) := by decide +kernel
theorem dX9_does_49 : decode cX9_does 49 = .ok (.ifCond .eq 25, 3) := by decide +kernel
theorem dX9_does_52 : decode cX9_does 52 = .ok (.aload_n 0, 1) := by decide +kernel
theorem dX9_does_53 : decode cX9_does 53 = .ok (.getfield 16, 3) := by decide +kernel
theorem dX9_does_56 : decode cX9_does 56 = .ok (.iconst 0, 1) := by decide +kernel
theorem dX9_does_57 : decode cX9_does 57 = .ok (.aload_n 0, 1) := by decide +kernel
theorem dX9_does_58 : decode cX9_does 58 = .ok (.getfield 7, 3) := by decide +kernel
theorem dX9_does_61 : decode cX9_does 61 = .ok (.iconst 0, 1) := by decide +kernel
theorem dX9_does_62 : decode cX9_does 62 = .ok (.sipush 258, 3) := by decide +kernel
theorem dX9_does_65 : decode cX9_does 65 = .ok (.invokestatic 52, 3) := by decide +kernel
theorem dX9_does_68 : decode cX9_does 68 = .ok (.sipush (-1000), 3) := by decide +kernel
theorem dX9_does_71 : decode cX9_does 71 = .ok (.iload_n 2, 1) := by decide +kernel
theorem dX9_does_72 : decode cX9_does 72 = .ok (.isub, 1) := by decide +kernel
theorem dX9_does_73 : decode cX9_does 73 = .ok (.ireturn, 1) := by decide +kernel
theorem dX9_does_74 : decode cX9_does 74 = .ok (.iinc 2 1, 3) := by decide +kernel
theorem dX9_does_77 : decode cX9_does 77 = .ok (.goto (-44), 3) := by decide +kernel
theorem dX9_does_80 : decode cX9_does 80 = .ok (.aload_n 0, 1) := by decide +kernel
theorem dX9_does_81 : decode cX9_does 81 = .ok (.getfield 16, 3) := by decide +kernel
theorem dX9_does_84 : decode cX9_does 84 = .ok (.iconst 0, 1) := by decide +kernel
theorem dX9_does_85 : decode cX9_does 85 = .ok (.aload_n 0, 1) := by decide +kernel
theorem dX9_does_86 : decode cX9_does 86 = .ok (.getfield 13, 3) := by decide +kernel
theorem dX9_does_89 : decode cX9_does 89 = .ok (.iconst 0, 1) := by decide +kernel
theorem dX9_does_90 : decode cX9_does 90 = .ok (.sipush 258, 3) := by decide +kernel
theorem dX9_does_93 : decode cX9_does 93 = .ok (.invokestatic 52, 3) := by decide +kernel
theorem dX9_does_96 : decode cX9_does 96 = .ok (.aload_n 0, 1) := by decide +kernel
theorem dX9_does_97 : decode cX9_does 97 = .ok (.aload_n 0, 1) := by decide +kernel
theorem dX9_does_98 : decode cX9_does 98 = .ok (.getfield 229, 3) := by decide +kernel
theorem dX9_does_101 : decode cX9_does 101 = .ok (.invokevirtual 122, 3) := by decide +kernel
theorem dX9_does_104 : decode cX9_does 104 = .ok (.ireturn, 1) := by decide +kernel
theorem dX9_back_0 : decode cX9_back 0 = .ok (.aload_n 0, 1) := by decide +kernel
theorem dX9_back_1 : decode cX9_back 1 = .ok (.getfield 64, 3) := by decide +kernel
theorem dX9_back_4 : decode cX9_back 4 = .ok (.ifCond .ne 10, 3) := by decide +kernel
theorem dX9_back_7 : decode cX9_back 7 = .ok (.aload_n 0, 1) := by decide +kernel
theorem dX9_back_8 : decode cX9_back 8 = .ok (.bipush (-3), 2) := by decide +kernel
theorem dX9_back_10 : decode cX9_back 10 = .ok (.invokevirtual 60, 3) := by decide +kernel
theorem dX9_back_13 : decode cX9_back 13 = .ok (.ireturn, 1) := by decide +kernel
theorem dX9_back_14 : decode cX9_back 14 = .ok (.aload_n 0, 1) := by decide +kernel
theorem dX9_back_15 : decode cX9_back 15 = .ok (.dup, 1) := by decide +kernel
theorem dX9_back_16 : decode cX9_back 16 = .ok (.getfield 64, 3) := by decide +kernel
theorem dX9_back_19 : decode cX9_back 19 = .ok (.iconst 1, 1) := by decide +kernel
theorem dX9_back_20 : decode cX9_back 20 = .ok (.isub, 1) := by decide +kernel
theorem dX9_back_21 : decode cX9_back 21 = .ok (.putfield 64, 3) := by decide +kernel
theorem dX9_back_24 : decode cX9_back 24 = .ok (.aload_n 0, 1) := by decide +kernel
theorem dX9_back_25 : decode cX9_back 25 = .ok (.getfield 19, 3) := by decide +kernel
theorem dX9_back_28 : decode cX9_back 28 = .ok (.sipush 258, 3) := by decide +kernel
theorem dX9_back_31 : decode cX9_back 31 = .ok (.aload_n 0, 1) := by decide +kernel
theorem dX9_back_32 : decode cX9_back 32 = .ok (.getfield 64, 3) := by decide +kernel
theorem dX9_back_35 : decode cX9_back 35 = .ok (.imul, 1) := by decide +kernel
theorem dX9_back_36 : decode cX9_back 36 = .ok (.aload_n 0, 1) := by decide +kernel
theorem dX9_back_37 : decode cX9_back 37 = .ok (.getfield 7, 3) := by decide +kernel
theorem dX9_back_40 : decode cX9_back 40 = .ok (.iconst 0, 1) := by decide +kernel
theorem dX9_back_41 : decode cX9_back 41 = .ok (.sipush 258, 3) := by decide +kernel
theorem dX9_back_44 : decode cX9_back 44 = .ok (.invokestatic 52, 3) := by decide +kernel
theorem dX9_back_47 : decode cX9_back 47 = .ok (.aload_n 0, 1) := by decide +kernel
theorem dX9_back_48 : decode cX9_back 48 = .ok (.getfield 64, 3) := by decide +kernel
theorem dX9_back_51 : decode cX9_back 51 = .ok (.ireturn, 1) := by decide +kernel
theorem dX9_refusedOf_0 : decode cX9_refusedOf 0 = .ok (.iload_n 1, 1) := by decide +kernel
theorem dX9_refusedOf_1 : decode cX9_refusedOf 1 = .ok (.iconst 3, 1) := by decide +kernel
theorem dX9_refusedOf_2 : decode cX9_refusedOf 2 = .ok (.if_icmp .ge 12, 3) := by decide +kernel
theorem dX9_refusedOf_5 : decode cX9_refusedOf 5 = .ok (.aload_n 0, 1) := by decide +kernel
theorem dX9_refusedOf_6 : decode cX9_refusedOf 6 = .ok (.getfield 22, 3) := by decide +kernel
theorem dX9_refusedOf_9 : decode cX9_refusedOf 9 = .ok (.iload_n 1, 1) := by decide +kernel
theorem dX9_refusedOf_10 : decode cX9_refusedOf 10 = .ok (.iaload, 1) := by decide +kernel
theorem dX9_refusedOf_11 : decode cX9_refusedOf 11 = .ok (.goto 19, 3) := by decide +kernel
theorem dX9_refusedOf_14 : decode cX9_refusedOf 14 = .ok (.iload_n 1, 1) := by decide +kernel
theorem dX9_refusedOf_15 : decode cX9_refusedOf 15 = .ok (.iconst 3, 1) := by decide +kernel
theorem dX9_refusedOf_16 : decode cX9_refusedOf 16 = .ok (.if_icmp .ne 10, 3) := by decide +kernel
theorem dX9_refusedOf_19 : decode cX9_refusedOf 19 = .ok (.aload_n 0, 1) := by decide +kernel
theorem dX9_refusedOf_20 : decode cX9_refusedOf 20 = .ok (.getfield 217, 3) := by decide +kernel
theorem dX9_refusedOf_23 : decode cX9_refusedOf 23 = .ok (.goto 7, 3) := by decide +kernel
theorem dX9_refusedOf_26 : decode cX9_refusedOf 26 = .ok (.aload_n 0, 1) := by decide +kernel
theorem dX9_refusedOf_27 : decode cX9_refusedOf 27 = .ok (.getfield 64, 3) := by decide +kernel
theorem dX9_refusedOf_30 : decode cX9_refusedOf 30 = .ok (.ireturn, 1) := by decide +kernel
theorem dX9_refused_0 : decode cX9_refused 0 = .ok (.iload_n 1, 1) := by decide +kernel
theorem dX9_refused_1 : decode cX9_refused 1 = .ok (.iconst 0, 1) := by decide +kernel
theorem dX9_refused_2 : decode cX9_refused 2 = .ok (.iconst 4, 1) := by decide +kernel
theorem dX9_refused_3 : decode cX9_refused 3 = .ok (.invokestatic 68, 3) := by decide +kernel
theorem dX9_refused_6 : decode cX9_refused 6 = .ok (.ifCond .eq 11, 3) := by decide +kernel
theorem dX9_refused_9 : decode cX9_refused 9 = .ok (.aload_n 0, 1) := by decide +kernel
theorem dX9_refused_10 : decode cX9_refused 10 = .ok (.iload_n 1, 1) := by decide +kernel
theorem dX9_refused_11 : decode cX9_refused 11 = .ok (.invokevirtual 247, 3) := by decide +kernel
theorem dX9_refused_14 : decode cX9_refused 14 = .ok (.goto 9, 3) := by decide +kernel
theorem dX9_refused_17 : decode cX9_refused 17 = .ok (.aload_n 0, 1) := by decide +kernel
theorem dX9_refused_18 : decode cX9_refused 18 = .ok (.bipush (-2), 2) := by decide +kernel
theorem dX9_refused_20 : decode cX9_refused 20 = .ok (.invokevirtual 60, 3) := by decide +kernel
theorem dX9_refused_23 : decode cX9_refused 23 = .ok (.ireturn, 1) := by decide +kernel
theorem dX9_digest_0 : decode cX9_digest 0 = .ok (.ldc2_w 250, 3) := by decide +kernel
theorem dX9_digest_3 : decode cX9_digest 3 = .ok (.lstore_n 1, 1) := by decide +kernel
theorem dX9_digest_4 : decode cX9_digest 4 = .ok (.iconst 0, 1) := by decide +kernel
theorem dX9_digest_5 : decode cX9_digest 5 = .ok (.istore_n 3, 1) := by decide +kernel
theorem dX9_digest_6 : decode cX9_digest 6 = .ok (.iload_n 3, 1) := by decide +kernel
theorem dX9_digest_7 : decode cX9_digest 7 = .ok (.iconst 5, 1) := by decide +kernel
theorem dX9_digest_8 : decode cX9_digest 8 = .ok (.if_icmp .ge 22, 3) := by decide +kernel
theorem dX9_digest_11 : decode cX9_digest 11 = .ok (.ldc2_w 252, 3) := by decide +kernel
theorem dX9_digest_14 : decode cX9_digest 14 = .ok (.lload_n 1, 1) := by decide +kernel
theorem dX9_digest_15 : decode cX9_digest 15 = .ok (.lmul, 1) := by decide +kernel
theorem dX9_digest_16 : decode cX9_digest 16 = .ok (.aload_n 0, 1) := by decide +kernel
theorem dX9_digest_17 : decode cX9_digest 17 = .ok (.iload_n 3, 1) := by decide +kernel
theorem dX9_digest_18 : decode cX9_digest 18 = .ok (.invokevirtual 247, 3) := by decide +kernel
theorem dX9_digest_21 : decode cX9_digest 21 = .ok (.i2l, 1) := by decide +kernel
theorem dX9_digest_22 : decode cX9_digest 22 = .ok (.ladd, 1) := by decide +kernel
theorem dX9_digest_23 : decode cX9_digest 23 = .ok (.lstore_n 1, 1) := by decide +kernel
theorem dX9_digest_24 : decode cX9_digest 24 = .ok (.iinc 3 1, 3) := by decide +kernel
theorem dX9_digest_27 : decode cX9_digest 27 = .ok (.goto (-21), 3) := by decide +kernel
theorem dX9_digest_30 : decode cX9_digest 30 = .ok (.iconst 0, 1) := by decide +kernel
theorem dX9_digest_31 : decode cX9_digest 31 = .ok (.istore_n 3, 1) := by decide +kernel
theorem dX9_digest_32 : decode cX9_digest 32 = .ok (.iload_n 3, 1) := by decide +kernel
theorem dX9_digest_33 : decode cX9_digest 33 = .ok (.iconst 4, 1) := by decide +kernel
theorem dX9_digest_34 : decode cX9_digest 34 = .ok (.if_icmp .ge 22, 3) := by decide +kernel
theorem dX9_digest_37 : decode cX9_digest 37 = .ok (.ldc2_w 252, 3) := by decide +kernel
theorem dX9_digest_40 : decode cX9_digest 40 = .ok (.lload_n 1, 1) := by decide +kernel
theorem dX9_digest_41 : decode cX9_digest 41 = .ok (.lmul, 1) := by decide +kernel
theorem dX9_digest_42 : decode cX9_digest 42 = .ok (.aload_n 0, 1) := by decide +kernel
theorem dX9_digest_43 : decode cX9_digest 43 = .ok (.iload_n 3, 1) := by decide +kernel
theorem dX9_digest_44 : decode cX9_digest 44 = .ok (.invokevirtual 214, 3) := by decide +kernel
theorem dX9_digest_47 : decode cX9_digest 47 = .ok (.i2l, 1) := by decide +kernel
theorem dX9_digest_48 : decode cX9_digest 48 = .ok (.ladd, 1) := by decide +kernel
theorem dX9_digest_49 : decode cX9_digest 49 = .ok (.lstore_n 1, 1) := by decide +kernel
theorem dX9_digest_50 : decode cX9_digest 50 = .ok (.iinc 3 1, 3) := by decide +kernel
theorem dX9_digest_53 : decode cX9_digest 53 = .ok (.goto (-21), 3) := by decide +kernel
theorem dX9_digest_56 : decode cX9_digest 56 = .ok (.aload_n 0, 1) := by decide +kernel
theorem dX9_digest_57 : decode cX9_digest 57 = .ok (.invokevirtual 142, 3) := by decide +kernel
theorem dX9_digest_60 : decode cX9_digest 60 = .ok (.iconst 0, 1) := by decide +kernel
theorem dX9_digest_61 : decode cX9_digest 61 = .ok (.istore_n 3, 1) := by decide +kernel
theorem dX9_digest_62 : decode cX9_digest 62 = .ok (.iload_n 3, 1) := by decide +kernel
theorem dX9_digest_63 : decode cX9_digest 63 = .ok (.iconst 4, 1) := by decide +kernel
theorem dX9_digest_64 : decode cX9_digest 64 = .ok (.if_icmp .ge 108, 3) := by decide +kernel
theorem dX9_digest_67 : decode cX9_digest 67 = .ok (.aload_n 0, 1) := by decide +kernel
theorem dX9_digest_68 : decode cX9_digest 68 = .ok (.iload_n 3, 1) := by decide +kernel
theorem dX9_digest_69 : decode cX9_digest 69 = .ok (.invokevirtual 190, 3) := by decide +kernel
theorem dX9_digest_72 : decode cX9_digest 72 = .ok (.istore 4, 2) := by decide +kernel
theorem dX9_digest_74 : decode cX9_digest 74 = .ok (.ldc2_w 252, 3) := by decide +kernel
theorem dX9_digest_77 : decode cX9_digest 77 = .ok (.ldc2_w 252, 3) := by decide +kernel
theorem dX9_digest_80 : decode cX9_digest 80 = .ok (.lload_n 1, 1) := by decide +kernel
theorem dX9_digest_81 : decode cX9_digest 81 = .ok (.lmul, 1) := by decide +kernel
theorem dX9_digest_82 : decode cX9_digest 82 = .ok (.aload_n 0, 1) := by decide +kernel
theorem dX9_digest_83 : decode cX9_digest 83 = .ok (.iload_n 3, 1) := by decide +kernel
theorem dX9_digest_84 : decode cX9_digest 84 = .ok (.invokevirtual 112, 3) := by decide +kernel
theorem dX9_digest_87 : decode cX9_digest 87 = .ok (.i2l, 1) := by decide +kernel
theorem dX9_digest_88 : decode cX9_digest 88 = .ok (.ladd, 1) := by decide +kernel
theorem dX9_digest_89 : decode cX9_digest 89 = .ok (.lmul, 1) := by decide +kernel
theorem dX9_digest_90 : decode cX9_digest 90 = .ok (.aload_n 0, 1) := by decide +kernel
theorem dX9_digest_91 : decode cX9_digest 91 = .ok (.iload_n 3, 1) := by decide +kernel
theorem dX9_digest_92 : decode cX9_digest 92 = .ok (.invokevirtual 193, 3) := by decide +kernel
theorem dX9_digest_95 : decode cX9_digest 95 = .ok (.i2l, 1) := by decide +kernel
theorem dX9_digest_96 : decode cX9_digest 96 = .ok (.ladd, 1) := by decide +kernel
theorem dX9_digest_97 : decode cX9_digest 97 = .ok (.lstore_n 1, 1) := by decide +kernel
theorem dX9_digest_98 : decode cX9_digest 98 = .ok (.iconst 0, 1) := by decide +kernel
theorem dX9_digest_99 : decode cX9_digest 99 = .ok (.istore 5, 2) := by decide +kernel
theorem dX9_digest_101 : decode cX9_digest 101 = .ok (.iload 5, 2) := by decide +kernel
theorem dX9_digest_103 : decode cX9_digest 103 = .ok (.iload 4, 2) := by decide +kernel
theorem dX9_digest_105 : decode cX9_digest 105 = .ok (.if_icmp .ge 61, 3) := by decide +kernel
theorem dX9_digest_108 : decode cX9_digest 108 = .ok (.ldc2_w 252, 3) := by decide +kernel
theorem dX9_digest_111 : decode cX9_digest 111 = .ok (.lload_n 1, 1) := by decide +kernel
theorem dX9_digest_112 : decode cX9_digest 112 = .ok (.lmul, 1) := by decide +kernel
theorem dX9_digest_113 : decode cX9_digest 113 = .ok (.aload_n 0, 1) := by decide +kernel
theorem dX9_digest_114 : decode cX9_digest 114 = .ok (.getfield 40, 3) := by decide +kernel
theorem dX9_digest_117 : decode cX9_digest 117 = .ok (.iload 5, 2) := by decide +kernel
theorem dX9_digest_119 : decode cX9_digest 119 = .ok (.iaload, 1) := by decide +kernel
theorem dX9_digest_120 : decode cX9_digest 120 = .ok (.i2l, 1) := by decide +kernel
theorem dX9_digest_121 : decode cX9_digest 121 = .ok (.ladd, 1) := by decide +kernel
theorem dX9_digest_122 : decode cX9_digest 122 = .ok (.lstore_n 1, 1) := by decide +kernel
theorem dX9_digest_123 : decode cX9_digest 123 = .ok (.iconst 0, 1) := by decide +kernel
theorem dX9_digest_124 : decode cX9_digest 124 = .ok (.istore 6, 2) := by decide +kernel
theorem dX9_digest_126 : decode cX9_digest 126 = .ok (.iload 6, 2) := by decide +kernel
theorem dX9_digest_128 : decode cX9_digest 128 = .ok (.iconst 4, 1) := by decide +kernel
theorem dX9_digest_129 : decode cX9_digest 129 = .ok (.if_icmp .ge 31, 3) := by decide +kernel
theorem dX9_digest_132 : decode cX9_digest 132 = .ok (.ldc2_w 252, 3) := by decide +kernel
theorem dX9_digest_135 : decode cX9_digest 135 = .ok (.lload_n 1, 1) := by decide +kernel
theorem dX9_digest_136 : decode cX9_digest 136 = .ok (.lmul, 1) := by decide +kernel
theorem dX9_digest_137 : decode cX9_digest 137 = .ok (.aload_n 0, 1) := by decide +kernel
theorem dX9_digest_138 : decode cX9_digest 138 = .ok (.iload_n 3, 1) := by decide +kernel
theorem dX9_digest_139 : decode cX9_digest 139 = .ok (.aload_n 0, 1) := by decide +kernel
theorem dX9_digest_140 : decode cX9_digest 140 = .ok (.getfield 40, 3) := by decide +kernel
theorem dX9_digest_143 : decode cX9_digest 143 = .ok (.iload 5, 2) := by decide +kernel
theorem dX9_digest_145 : decode cX9_digest 145 = .ok (.iaload, 1) := by decide +kernel
theorem dX9_digest_146 : decode cX9_digest 146 = .ok (.iload 6, 2) := by decide +kernel
theorem dX9_digest_148 : decode cX9_digest 148 = .ok (.invokevirtual 186, 3) := by decide +kernel
theorem dX9_digest_151 : decode cX9_digest 151 = .ok (.i2l, 1) := by decide +kernel
theorem dX9_digest_152 : decode cX9_digest 152 = .ok (.ladd, 1) := by decide +kernel
theorem dX9_digest_153 : decode cX9_digest 153 = .ok (.lstore_n 1, 1) := by decide +kernel
theorem dX9_digest_154 : decode cX9_digest 154 = .ok (.iinc 6 1, 3) := by decide +kernel
theorem dX9_digest_157 : decode cX9_digest 157 = .ok (.goto (-31), 3) := by decide +kernel
theorem dX9_digest_160 : decode cX9_digest 160 = .ok (.iinc 5 1, 3) := by decide +kernel
theorem dX9_digest_163 : decode cX9_digest 163 = .ok (.goto (-62), 3) := by decide +kernel
theorem dX9_digest_166 : decode cX9_digest 166 = .ok (.iinc 3 1, 3) := by decide +kernel
theorem dX9_digest_169 : decode cX9_digest 169 = .ok (.goto (-107), 3) := by decide +kernel
theorem dX9_digest_172 : decode cX9_digest 172 = .ok (.ldc2_w 252, 3) := by decide +kernel
theorem dX9_digest_175 : decode cX9_digest 175 = .ok (.lload_n 1, 1) := by decide +kernel
theorem dX9_digest_176 : decode cX9_digest 176 = .ok (.lmul, 1) := by decide +kernel
theorem dX9_digest_177 : decode cX9_digest 177 = .ok (.aload_n 0, 1) := by decide +kernel
theorem dX9_digest_178 : decode cX9_digest 178 = .ok (.getfield 145, 3) := by decide +kernel
theorem dX9_digest_181 : decode cX9_digest 181 = .ok (.i2l, 1) := by decide +kernel
theorem dX9_digest_182 : decode cX9_digest 182 = .ok (.ladd, 1) := by decide +kernel
theorem dX9_digest_183 : decode cX9_digest 183 = .ok (.lstore_n 1, 1) := by decide +kernel
theorem dX9_digest_184 : decode cX9_digest 184 = .ok (.iconst 0, 1) := by decide +kernel
theorem dX9_digest_185 : decode cX9_digest 185 = .ok (.istore_n 3, 1) := by decide +kernel
theorem dX9_digest_186 : decode cX9_digest 186 = .ok (.iload_n 3, 1) := by decide +kernel
theorem dX9_digest_187 : decode cX9_digest 187 = .ok (.iconst 3, 1) := by decide +kernel
theorem dX9_digest_188 : decode cX9_digest 188 = .ok (.aload_n 0, 1) := by decide +kernel
theorem dX9_digest_189 : decode cX9_digest 189 = .ok (.getfield 145, 3) := by decide +kernel
theorem dX9_digest_192 : decode cX9_digest 192 = .ok (.imul, 1) := by decide +kernel
theorem dX9_digest_193 : decode cX9_digest 193 = .ok (.if_icmp .ge 23, 3) := by decide +kernel
theorem dX9_digest_196 : decode cX9_digest 196 = .ok (.ldc2_w 252, 3) := by decide +kernel
theorem dX9_digest_199 : decode cX9_digest 199 = .ok (.lload_n 1, 1) := by decide +kernel
theorem dX9_digest_200 : decode cX9_digest 200 = .ok (.lmul, 1) := by decide +kernel
theorem dX9_digest_201 : decode cX9_digest 201 = .ok (.aload_n 0, 1) := by decide +kernel
theorem dX9_digest_202 : decode cX9_digest 202 = .ok (.getfield 37, 3) := by decide +kernel
theorem dX9_digest_205 : decode cX9_digest 205 = .ok (.iload_n 3, 1) := by decide +kernel
theorem dX9_digest_206 : decode cX9_digest 206 = .ok (.iaload, 1) := by decide +kernel
theorem dX9_digest_207 : decode cX9_digest 207 = .ok (.i2l, 1) := by decide +kernel
theorem dX9_digest_208 : decode cX9_digest 208 = .ok (.ladd, 1) := by decide +kernel
theorem dX9_digest_209 : decode cX9_digest 209 = .ok (.lstore_n 1, 1) := by decide +kernel
theorem dX9_digest_210 : decode cX9_digest 210 = .ok (.iinc 3 1, 3) := by decide +kernel
theorem dX9_digest_213 : decode cX9_digest 213 = .ok (.goto (-27), 3) := by decide +kernel
theorem dX9_digest_216 : decode cX9_digest 216 = .ok (.iconst 1, 1) := by decide +kernel
theorem dX9_digest_217 : decode cX9_digest 217 = .ok (.istore_n 3, 1) := by decide +kernel
theorem dX9_digest_218 : decode cX9_digest 218 = .ok (.iload_n 3, 1) := by decide +kernel
theorem dX9_digest_219 : decode cX9_digest 219 = .ok (.iconst 3, 1) := by decide +kernel
theorem dX9_digest_220 : decode cX9_digest 220 = .ok (.if_icmp .ge 26, 3) := by decide +kernel
theorem dX9_digest_223 : decode cX9_digest 223 = .ok (.aload_n 0, 1) := by decide +kernel
theorem dX9_digest_224 : decode cX9_digest 224 = .ok (.iload_n 3, 1) := by decide +kernel
theorem dX9_digest_225 : decode cX9_digest 225 = .ok (.invokevirtual 202, 3) := by decide +kernel
theorem dX9_digest_228 : decode cX9_digest 228 = .ok (.ldc2_w 252, 3) := by decide +kernel
theorem dX9_digest_231 : decode cX9_digest 231 = .ok (.lload_n 1, 1) := by decide +kernel
theorem dX9_digest_232 : decode cX9_digest 232 = .ok (.lmul, 1) := by decide +kernel
theorem dX9_digest_233 : decode cX9_digest 233 = .ok (.aload_n 0, 1) := by decide +kernel
theorem dX9_digest_234 : decode cX9_digest 234 = .ok (.getfield 196, 3) := by decide +kernel
theorem dX9_digest_237 : decode cX9_digest 237 = .ok (.i2l, 1) := by decide +kernel
theorem dX9_digest_238 : decode cX9_digest 238 = .ok (.ladd, 1) := by decide +kernel
theorem dX9_digest_239 : decode cX9_digest 239 = .ok (.lstore_n 1, 1) := by decide +kernel
theorem dX9_digest_240 : decode cX9_digest 240 = .ok (.iinc 3 1, 3) := by decide +kernel
theorem dX9_digest_243 : decode cX9_digest 243 = .ok (.goto (-25), 3) := by decide +kernel
theorem dX9_digest_246 : decode cX9_digest 246 = .ok (.lload_n 1, 1) := by decide +kernel
theorem dX9_digest_247 : decode cX9_digest 247 = .ok (.lreturn, 1) := by decide +kernel
theorem dJ6_bitCount_0f7a4_0 : decode cJ6_bitCount_0f7a4 0 = .ok (.iload_n 0, 1) := by decide +kernel
theorem dJ6_bitCount_0f7a4_1 : decode cJ6_bitCount_0f7a4 1 = .ok (.iload_n 0, 1) := by decide +kernel
theorem dJ6_bitCount_0f7a4_2 : decode cJ6_bitCount_0f7a4 2 = .ok (.iconst 1, 1) := by decide +kernel
theorem dJ6_bitCount_0f7a4_3 : decode cJ6_bitCount_0f7a4 3 = .ok (.iushr, 1) := by decide +kernel
theorem dJ6_bitCount_0f7a4_4 : decode cJ6_bitCount_0f7a4 4 = .ok (.ldc_w 265, 3) := by decide +kernel
theorem dJ6_bitCount_0f7a4_7 : decode cJ6_bitCount_0f7a4 7 = .ok (.iand, 1) := by decide +kernel
theorem dJ6_bitCount_0f7a4_8 : decode cJ6_bitCount_0f7a4 8 = .ok (.isub, 1) := by decide +kernel
theorem dJ6_bitCount_0f7a4_9 : decode cJ6_bitCount_0f7a4 9 = .ok (.istore_n 0, 1) := by decide +kernel
theorem dJ6_bitCount_0f7a4_10 : decode cJ6_bitCount_0f7a4 10 = .ok (.iload_n 0, 1) := by decide +kernel
theorem dJ6_bitCount_0f7a4_11 : decode cJ6_bitCount_0f7a4 11 = .ok (.ldc_w 266, 3) := by decide +kernel
theorem dJ6_bitCount_0f7a4_14 : decode cJ6_bitCount_0f7a4 14 = .ok (.iand, 1) := by decide +kernel
theorem dJ6_bitCount_0f7a4_15 : decode cJ6_bitCount_0f7a4 15 = .ok (.iload_n 0, 1) := by decide +kernel
theorem dJ6_bitCount_0f7a4_16 : decode cJ6_bitCount_0f7a4 16 = .ok (.iconst 2, 1) := by decide +kernel
theorem dJ6_bitCount_0f7a4_17 : decode cJ6_bitCount_0f7a4 17 = .ok (.iushr, 1) := by decide +kernel
theorem dJ6_bitCount_0f7a4_18 : decode cJ6_bitCount_0f7a4 18 = .ok (.ldc_w 266, 3) := by decide +kernel
theorem dJ6_bitCount_0f7a4_21 : decode cJ6_bitCount_0f7a4 21 = .ok (.iand, 1) := by decide +kernel
theorem dJ6_bitCount_0f7a4_22 : decode cJ6_bitCount_0f7a4 22 = .ok (.iadd, 1) := by decide +kernel
theorem dJ6_bitCount_0f7a4_23 : decode cJ6_bitCount_0f7a4 23 = .ok (.istore_n 0, 1) := by decide +kernel
theorem dJ6_bitCount_0f7a4_24 : decode cJ6_bitCount_0f7a4 24 = .ok (.iload_n 0, 1) := by decide +kernel
theorem dJ6_bitCount_0f7a4_25 : decode cJ6_bitCount_0f7a4 25 = .ok (.iload_n 0, 1) := by decide +kernel
theorem dJ6_bitCount_0f7a4_26 : decode cJ6_bitCount_0f7a4 26 = .ok (.iconst 4, 1) := by decide +kernel
theorem dJ6_bitCount_0f7a4_27 : decode cJ6_bitCount_0f7a4 27 = .ok (.iushr, 1) := by decide +kernel
theorem dJ6_bitCount_0f7a4_28 : decode cJ6_bitCount_0f7a4 28 = .ok (.iadd, 1) := by decide +kernel
theorem dJ6_bitCount_0f7a4_29 : decode cJ6_bitCount_0f7a4 29 = .ok (.ldc_w 267, 3) := by decide +kernel
theorem dJ6_bitCount_0f7a4_32 : decode cJ6_bitCount_0f7a4 32 = .ok (.iand, 1) := by decide +kernel
theorem dJ6_bitCount_0f7a4_33 : decode cJ6_bitCount_0f7a4 33 = .ok (.istore_n 0, 1) := by decide +kernel
theorem dJ6_bitCount_0f7a4_34 : decode cJ6_bitCount_0f7a4 34 = .ok (.iload_n 0, 1) := by decide +kernel
theorem dJ6_bitCount_0f7a4_35 : decode cJ6_bitCount_0f7a4 35 = .ok (.iload_n 0, 1) := by decide +kernel
theorem dJ6_bitCount_0f7a4_36 : decode cJ6_bitCount_0f7a4 36 = .ok (.bipush 8, 2) := by decide +kernel
theorem dJ6_bitCount_0f7a4_38 : decode cJ6_bitCount_0f7a4 38 = .ok (.iushr, 1) := by decide +kernel
theorem dJ6_bitCount_0f7a4_39 : decode cJ6_bitCount_0f7a4 39 = .ok (.iadd, 1) := by decide +kernel
theorem dJ6_bitCount_0f7a4_40 : decode cJ6_bitCount_0f7a4 40 = .ok (.istore_n 0, 1) := by decide +kernel
theorem dJ6_bitCount_0f7a4_41 : decode cJ6_bitCount_0f7a4 41 = .ok (.iload_n 0, 1) := by decide +kernel
theorem dJ6_bitCount_0f7a4_42 : decode cJ6_bitCount_0f7a4 42 = .ok (.iload_n 0, 1) := by decide +kernel
theorem dJ6_bitCount_0f7a4_43 : decode cJ6_bitCount_0f7a4 43 = .ok (.bipush 16, 2) := by decide +kernel
theorem dJ6_bitCount_0f7a4_45 : decode cJ6_bitCount_0f7a4 45 = .ok (.iushr, 1) := by decide +kernel
theorem dJ6_bitCount_0f7a4_46 : decode cJ6_bitCount_0f7a4 46 = .ok (.iadd, 1) := by decide +kernel
theorem dJ6_bitCount_0f7a4_47 : decode cJ6_bitCount_0f7a4 47 = .ok (.istore_n 0, 1) := by decide +kernel
theorem dJ6_bitCount_0f7a4_48 : decode cJ6_bitCount_0f7a4 48 = .ok (.iload_n 0, 1) := by decide +kernel
theorem dJ6_bitCount_0f7a4_49 : decode cJ6_bitCount_0f7a4 49 = .ok (.bipush 63, 2) := by decide +kernel
theorem dJ6_bitCount_0f7a4_51 : decode cJ6_bitCount_0f7a4 51 = .ok (.iand, 1) := by decide +kernel
theorem dJ6_bitCount_0f7a4_52 : decode cJ6_bitCount_0f7a4 52 = .ok (.ireturn, 1) := by decide +kernel
theorem dJ9_max_7cf53_0 : decode cJ9_max_7cf53 0 = .ok (.iload_n 0, 1) := by decide +kernel
theorem dJ9_max_7cf53_1 : decode cJ9_max_7cf53 1 = .ok (.iload_n 1, 1) := by decide +kernel
theorem dJ9_max_7cf53_2 : decode cJ9_max_7cf53 2 = .ok (.if_icmp .lt 7, 3) := by decide +kernel
theorem dJ9_max_7cf53_5 : decode cJ9_max_7cf53 5 = .ok (.iload_n 0, 1) := by decide +kernel
theorem dJ9_max_7cf53_6 : decode cJ9_max_7cf53 6 = .ok (.goto 4, 3) := by decide +kernel
theorem dJ9_max_7cf53_9 : decode cJ9_max_7cf53 9 = .ok (.iload_n 1, 1) := by decide +kernel
theorem dJ9_max_7cf53_10 : decode cJ9_max_7cf53 10 = .ok (.ireturn, 1) := by decide +kernel
theorem dJ9_min_7cf53_0 : decode cJ9_min_7cf53 0 = .ok (.iload_n 0, 1) := by decide +kernel
theorem dJ9_min_7cf53_1 : decode cJ9_min_7cf53 1 = .ok (.iload_n 1, 1) := by decide +kernel
theorem dJ9_min_7cf53_2 : decode cJ9_min_7cf53 2 = .ok (.if_icmp .gt 7, 3) := by decide +kernel
theorem dJ9_min_7cf53_5 : decode cJ9_min_7cf53 5 = .ok (.iload_n 0, 1) := by decide +kernel
theorem dJ9_min_7cf53_6 : decode cJ9_min_7cf53 6 = .ok (.goto 4, 3) := by decide +kernel
theorem dJ9_min_7cf53_9 : decode cJ9_min_7cf53 9 = .ok (.iload_n 1, 1) := by decide +kernel
theorem dJ9_min_7cf53_10 : decode cJ9_min_7cf53 10 = .ok (.ireturn, 1) := by decide +kernel
theorem dL_law_0 : decode cL_law 0 = .ok (.new 7, 3) := by decide +kernel
theorem dL_law_3 : decode cL_law 3 = .ok (.dup, 1) := by decide +kernel
theorem dL_law_4 : decode cL_law 4 = .ok (.invokespecial 9, 3) := by decide +kernel
theorem dL_law_7 : decode cL_law 7 = .ok (.astore_n 1, 1) := by decide +kernel
theorem dL_law_8 : decode cL_law 8 = .ok (.new 10, 3) := by decide +kernel
theorem dL_law_11 : decode cL_law 11 = .ok (.dup, 1) := by decide +kernel
theorem dL_law_12 : decode cL_law 12 = .ok (.invokespecial 12, 3) := by decide +kernel
theorem dL_law_15 : decode cL_law 15 = .ok (.astore_n 2, 1) := by decide +kernel
theorem dL_law_16 : decode cL_law 16 = .ok (.iconst 0, 1) := by decide +kernel
theorem dL_law_17 : decode cL_law 17 = .ok (.istore_n 3, 1) := by decide +kernel
theorem dL_law_18 : decode cL_law 18 = .ok (.iload_n 3, 1) := by decide +kernel
theorem dL_law_19 : decode cL_law 19 = .ok (.aload_n 0, 1) := by decide +kernel
theorem dL_law_20 : decode cL_law 20 = .ok (.arraylength, 1) := by decide +kernel
theorem dL_law_21 : decode cL_law 21 = .ok (.bipush 6, 2) := by decide +kernel
theorem dL_law_23 : decode cL_law 23 = .ok (.isub, 1) := by decide +kernel
theorem dL_law_24 : decode cL_law 24 = .ok (.if_icmp .gt 812, 3) := by decide +kernel
theorem dL_law_27 : decode cL_law 27 = .ok (.aload_n 0, 1) := by decide +kernel
theorem dL_law_28 : decode cL_law 28 = .ok (.iload_n 3, 1) := by decide +kernel
theorem dL_law_29 : decode cL_law 29 = .ok (.iaload, 1) := by decide +kernel
theorem dL_law_30 : decode cL_law 30 = .ok (.bipush 31, 2) := by decide +kernel
theorem dL_law_32 : decode cL_law 32 = .ok (.iand, 1) := by decide +kernel
theorem dL_law_33 : decode cL_law 33 = .ok (.tableswitch 797 0 22 #[107, 170, 223, 266, 309, 342, 355, 378, 391, 424, 467, 500, 533, 566, 599, 642, 675, 698, 721, 734, 747, 760, 783], 107) := by decide +kernel
theorem dL_law_140 : decode cL_law 140 = .ok (.aload_n 1, 1) := by decide +kernel
theorem dL_law_141 : decode cL_law 141 = .ok (.aload_n 0, 1) := by decide +kernel
theorem dL_law_142 : decode cL_law 142 = .ok (.iload_n 3, 1) := by decide +kernel
theorem dL_law_143 : decode cL_law 143 = .ok (.iconst 1, 1) := by decide +kernel
theorem dL_law_144 : decode cL_law 144 = .ok (.iadd, 1) := by decide +kernel
theorem dL_law_145 : decode cL_law 145 = .ok (.iaload, 1) := by decide +kernel
theorem dL_law_146 : decode cL_law 146 = .ok (.aload_n 0, 1) := by decide +kernel
theorem dL_law_147 : decode cL_law 147 = .ok (.iload_n 3, 1) := by decide +kernel
theorem dL_law_148 : decode cL_law 148 = .ok (.iconst 2, 1) := by decide +kernel
theorem dL_law_149 : decode cL_law 149 = .ok (.iadd, 1) := by decide +kernel
theorem dL_law_150 : decode cL_law 150 = .ok (.iaload, 1) := by decide +kernel
theorem dL_law_151 : decode cL_law 151 = .ok (.aload_n 0, 1) := by decide +kernel
theorem dL_law_152 : decode cL_law 152 = .ok (.iload_n 3, 1) := by decide +kernel
theorem dL_law_153 : decode cL_law 153 = .ok (.iconst 3, 1) := by decide +kernel
theorem dL_law_154 : decode cL_law 154 = .ok (.iadd, 1) := by decide +kernel
theorem dL_law_155 : decode cL_law 155 = .ok (.iaload, 1) := by decide +kernel
theorem dL_law_156 : decode cL_law 156 = .ok (.aload_n 0, 1) := by decide +kernel
theorem dL_law_157 : decode cL_law 157 = .ok (.iload_n 3, 1) := by decide +kernel
theorem dL_law_158 : decode cL_law 158 = .ok (.iconst 4, 1) := by decide +kernel
theorem dL_law_159 : decode cL_law 159 = .ok (.iadd, 1) := by decide +kernel
theorem dL_law_160 : decode cL_law 160 = .ok (.iaload, 1) := by decide +kernel
theorem dL_law_161 : decode cL_law 161 = .ok (.aload_n 0, 1) := by decide +kernel
theorem dL_law_162 : decode cL_law 162 = .ok (.iload_n 3, 1) := by decide +kernel
theorem dL_law_163 : decode cL_law 163 = .ok (.iconst 5, 1) := by decide +kernel
theorem dL_law_164 : decode cL_law 164 = .ok (.iadd, 1) := by decide +kernel
theorem dL_law_165 : decode cL_law 165 = .ok (.iaload, 1) := by decide +kernel
theorem dL_law_166 : decode cL_law 166 = .ok (.invokevirtual 13, 3) := by decide +kernel
theorem dL_law_169 : decode cL_law 169 = .ok (.aload_n 2, 1) := by decide +kernel
theorem dL_law_170 : decode cL_law 170 = .ok (.aload_n 0, 1) := by decide +kernel
theorem dL_law_171 : decode cL_law 171 = .ok (.iload_n 3, 1) := by decide +kernel
theorem dL_law_172 : decode cL_law 172 = .ok (.iconst 1, 1) := by decide +kernel
theorem dL_law_173 : decode cL_law 173 = .ok (.iadd, 1) := by decide +kernel
theorem dL_law_174 : decode cL_law 174 = .ok (.iaload, 1) := by decide +kernel
theorem dL_law_175 : decode cL_law 175 = .ok (.aload_n 0, 1) := by decide +kernel
theorem dL_law_176 : decode cL_law 176 = .ok (.iload_n 3, 1) := by decide +kernel
theorem dL_law_177 : decode cL_law 177 = .ok (.iconst 2, 1) := by decide +kernel
theorem dL_law_178 : decode cL_law 178 = .ok (.iadd, 1) := by decide +kernel
theorem dL_law_179 : decode cL_law 179 = .ok (.iaload, 1) := by decide +kernel
theorem dL_law_180 : decode cL_law 180 = .ok (.aload_n 0, 1) := by decide +kernel
theorem dL_law_181 : decode cL_law 181 = .ok (.iload_n 3, 1) := by decide +kernel
theorem dL_law_182 : decode cL_law 182 = .ok (.iconst 3, 1) := by decide +kernel
theorem dL_law_183 : decode cL_law 183 = .ok (.iadd, 1) := by decide +kernel
theorem dL_law_184 : decode cL_law 184 = .ok (.iaload, 1) := by decide +kernel
theorem dL_law_185 : decode cL_law 185 = .ok (.aload_n 0, 1) := by decide +kernel
theorem dL_law_186 : decode cL_law 186 = .ok (.iload_n 3, 1) := by decide +kernel
theorem dL_law_187 : decode cL_law 187 = .ok (.iconst 4, 1) := by decide +kernel
theorem dL_law_188 : decode cL_law 188 = .ok (.iadd, 1) := by decide +kernel
theorem dL_law_189 : decode cL_law 189 = .ok (.iaload, 1) := by decide +kernel
theorem dL_law_190 : decode cL_law 190 = .ok (.aload_n 0, 1) := by decide +kernel
theorem dL_law_191 : decode cL_law 191 = .ok (.iload_n 3, 1) := by decide +kernel
theorem dL_law_192 : decode cL_law 192 = .ok (.iconst 5, 1) := by decide +kernel
theorem dL_law_193 : decode cL_law 193 = .ok (.iadd, 1) := by decide +kernel
theorem dL_law_194 : decode cL_law 194 = .ok (.iaload, 1) := by decide +kernel
theorem dL_law_195 : decode cL_law 195 = .ok (.invokevirtual 17, 3) := by decide +kernel
theorem dL_law_198 : decode cL_law 198 = .ok (.if_icmp .eq 632, 3) := by decide +kernel
theorem dL_law_201 : decode cL_law 201 = .ok (.iconst 0, 1) := by decide +kernel
theorem dL_law_202 : decode cL_law 202 = .ok (.ireturn, 1) := by decide +kernel
theorem dL_law_203 : decode cL_law 203 = .ok (.aload_n 1, 1) := by decide +kernel
theorem dL_law_204 : decode cL_law 204 = .ok (.aload_n 0, 1) := by decide +kernel
theorem dL_law_205 : decode cL_law 205 = .ok (.iload_n 3, 1) := by decide +kernel
theorem dL_law_206 : decode cL_law 206 = .ok (.iconst 1, 1) := by decide +kernel
theorem dL_law_207 : decode cL_law 207 = .ok (.iadd, 1) := by decide +kernel
theorem dL_law_208 : decode cL_law 208 = .ok (.iaload, 1) := by decide +kernel
theorem dL_law_209 : decode cL_law 209 = .ok (.aload_n 0, 1) := by decide +kernel
theorem dL_law_210 : decode cL_law 210 = .ok (.iload_n 3, 1) := by decide +kernel
theorem dL_law_211 : decode cL_law 211 = .ok (.iconst 2, 1) := by decide +kernel
theorem dL_law_212 : decode cL_law 212 = .ok (.iadd, 1) := by decide +kernel
theorem dL_law_213 : decode cL_law 213 = .ok (.iaload, 1) := by decide +kernel
theorem dL_law_214 : decode cL_law 214 = .ok (.aload_n 0, 1) := by decide +kernel
theorem dL_law_215 : decode cL_law 215 = .ok (.iload_n 3, 1) := by decide +kernel
theorem dL_law_216 : decode cL_law 216 = .ok (.iconst 3, 1) := by decide +kernel
theorem dL_law_217 : decode cL_law 217 = .ok (.iadd, 1) := by decide +kernel
theorem dL_law_218 : decode cL_law 218 = .ok (.iaload, 1) := by decide +kernel
theorem dL_law_219 : decode cL_law 219 = .ok (.aload_n 0, 1) := by decide +kernel
theorem dL_law_220 : decode cL_law 220 = .ok (.iload_n 3, 1) := by decide +kernel
theorem dL_law_221 : decode cL_law 221 = .ok (.iconst 4, 1) := by decide +kernel
theorem dL_law_222 : decode cL_law 222 = .ok (.iadd, 1) := by decide +kernel
theorem dL_law_223 : decode cL_law 223 = .ok (.iaload, 1) := by decide +kernel
theorem dL_law_224 : decode cL_law 224 = .ok (.invokevirtual 18, 3) := by decide +kernel
theorem dL_law_227 : decode cL_law 227 = .ok (.aload_n 2, 1) := by decide +kernel
theorem dL_law_228 : decode cL_law 228 = .ok (.aload_n 0, 1) := by decide +kernel
theorem dL_law_229 : decode cL_law 229 = .ok (.iload_n 3, 1) := by decide +kernel
theorem dL_law_230 : decode cL_law 230 = .ok (.iconst 1, 1) := by decide +kernel
theorem dL_law_231 : decode cL_law 231 = .ok (.iadd, 1) := by decide +kernel
theorem dL_law_232 : decode cL_law 232 = .ok (.iaload, 1) := by decide +kernel
theorem dL_law_233 : decode cL_law 233 = .ok (.aload_n 0, 1) := by decide +kernel
theorem dL_law_234 : decode cL_law 234 = .ok (.iload_n 3, 1) := by decide +kernel
theorem dL_law_235 : decode cL_law 235 = .ok (.iconst 2, 1) := by decide +kernel
theorem dL_law_236 : decode cL_law 236 = .ok (.iadd, 1) := by decide +kernel
theorem dL_law_237 : decode cL_law 237 = .ok (.iaload, 1) := by decide +kernel
theorem dL_law_238 : decode cL_law 238 = .ok (.aload_n 0, 1) := by decide +kernel
theorem dL_law_239 : decode cL_law 239 = .ok (.iload_n 3, 1) := by decide +kernel
theorem dL_law_240 : decode cL_law 240 = .ok (.iconst 3, 1) := by decide +kernel
theorem dL_law_241 : decode cL_law 241 = .ok (.iadd, 1) := by decide +kernel
theorem dL_law_242 : decode cL_law 242 = .ok (.iaload, 1) := by decide +kernel
theorem dL_law_243 : decode cL_law 243 = .ok (.aload_n 0, 1) := by decide +kernel
theorem dL_law_244 : decode cL_law 244 = .ok (.iload_n 3, 1) := by decide +kernel
theorem dL_law_245 : decode cL_law 245 = .ok (.iconst 4, 1) := by decide +kernel
theorem dL_law_246 : decode cL_law 246 = .ok (.iadd, 1) := by decide +kernel
theorem dL_law_247 : decode cL_law 247 = .ok (.iaload, 1) := by decide +kernel
theorem dL_law_248 : decode cL_law 248 = .ok (.invokevirtual 22, 3) := by decide +kernel
theorem dL_law_251 : decode cL_law 251 = .ok (.if_icmp .eq 579, 3) := by decide +kernel
theorem dL_law_254 : decode cL_law 254 = .ok (.iconst 0, 1) := by decide +kernel
theorem dL_law_255 : decode cL_law 255 = .ok (.ireturn, 1) := by decide +kernel
theorem dL_law_256 : decode cL_law 256 = .ok (.aload_n 1, 1) := by decide +kernel
theorem dL_law_257 : decode cL_law 257 = .ok (.aload_n 0, 1) := by decide +kernel
theorem dL_law_258 : decode cL_law 258 = .ok (.iload_n 3, 1) := by decide +kernel
theorem dL_law_259 : decode cL_law 259 = .ok (.iconst 1, 1) := by decide +kernel
theorem dL_law_260 : decode cL_law 260 = .ok (.iadd, 1) := by decide +kernel
theorem dL_law_261 : decode cL_law 261 = .ok (.iaload, 1) := by decide +kernel
theorem dL_law_262 : decode cL_law 262 = .ok (.aload_n 0, 1) := by decide +kernel
theorem dL_law_263 : decode cL_law 263 = .ok (.iload_n 3, 1) := by decide +kernel
theorem dL_law_264 : decode cL_law 264 = .ok (.iconst 2, 1) := by decide +kernel
theorem dL_law_265 : decode cL_law 265 = .ok (.iadd, 1) := by decide +kernel
theorem dL_law_266 : decode cL_law 266 = .ok (.iaload, 1) := by decide +kernel
theorem dL_law_267 : decode cL_law 267 = .ok (.aload_n 0, 1) := by decide +kernel
theorem dL_law_268 : decode cL_law 268 = .ok (.iload_n 3, 1) := by decide +kernel
theorem dL_law_269 : decode cL_law 269 = .ok (.iconst 3, 1) := by decide +kernel
theorem dL_law_270 : decode cL_law 270 = .ok (.iadd, 1) := by decide +kernel
theorem dL_law_271 : decode cL_law 271 = .ok (.iaload, 1) := by decide +kernel
theorem dL_law_272 : decode cL_law 272 = .ok (.invokevirtual 23, 3) := by decide +kernel
theorem dL_law_275 : decode cL_law 275 = .ok (.aload_n 2, 1) := by decide +kernel
theorem dL_law_276 : decode cL_law 276 = .ok (.aload_n 0, 1) := by decide +kernel
theorem dL_law_277 : decode cL_law 277 = .ok (.iload_n 3, 1) := by decide +kernel
theorem dL_law_278 : decode cL_law 278 = .ok (.iconst 1, 1) := by decide +kernel
theorem dL_law_279 : decode cL_law 279 = .ok (.iadd, 1) := by decide +kernel
theorem dL_law_280 : decode cL_law 280 = .ok (.iaload, 1) := by decide +kernel
theorem dL_law_281 : decode cL_law 281 = .ok (.aload_n 0, 1) := by decide +kernel
theorem dL_law_282 : decode cL_law 282 = .ok (.iload_n 3, 1) := by decide +kernel
theorem dL_law_283 : decode cL_law 283 = .ok (.iconst 2, 1) := by decide +kernel
theorem dL_law_284 : decode cL_law 284 = .ok (.iadd, 1) := by decide +kernel
theorem dL_law_285 : decode cL_law 285 = .ok (.iaload, 1) := by decide +kernel
theorem dL_law_286 : decode cL_law 286 = .ok (.aload_n 0, 1) := by decide +kernel
theorem dL_law_287 : decode cL_law 287 = .ok (.iload_n 3, 1) := by decide +kernel
theorem dL_law_288 : decode cL_law 288 = .ok (.iconst 3, 1) := by decide +kernel
theorem dL_law_289 : decode cL_law 289 = .ok (.iadd, 1) := by decide +kernel
theorem dL_law_290 : decode cL_law 290 = .ok (.iaload, 1) := by decide +kernel
theorem dL_law_291 : decode cL_law 291 = .ok (.invokevirtual 27, 3) := by decide +kernel
theorem dL_law_294 : decode cL_law 294 = .ok (.if_icmp .eq 536, 3) := by decide +kernel
theorem dL_law_297 : decode cL_law 297 = .ok (.iconst 0, 1) := by decide +kernel
theorem dL_law_298 : decode cL_law 298 = .ok (.ireturn, 1) := by decide +kernel
theorem dL_law_299 : decode cL_law 299 = .ok (.aload_n 1, 1) := by decide +kernel
theorem dL_law_300 : decode cL_law 300 = .ok (.aload_n 0, 1) := by decide +kernel
theorem dL_law_301 : decode cL_law 301 = .ok (.iload_n 3, 1) := by decide +kernel
theorem dL_law_302 : decode cL_law 302 = .ok (.iconst 1, 1) := by decide +kernel
theorem dL_law_303 : decode cL_law 303 = .ok (.iadd, 1) := by decide +kernel
theorem dL_law_304 : decode cL_law 304 = .ok (.iaload, 1) := by decide +kernel
theorem dL_law_305 : decode cL_law 305 = .ok (.aload_n 0, 1) := by decide +kernel
theorem dL_law_306 : decode cL_law 306 = .ok (.iload_n 3, 1) := by decide +kernel
theorem dL_law_307 : decode cL_law 307 = .ok (.iconst 2, 1) := by decide +kernel
theorem dL_law_308 : decode cL_law 308 = .ok (.iadd, 1) := by decide +kernel
theorem dL_law_309 : decode cL_law 309 = .ok (.iaload, 1) := by decide +kernel
theorem dL_law_310 : decode cL_law 310 = .ok (.aload_n 0, 1) := by decide +kernel
theorem dL_law_311 : decode cL_law 311 = .ok (.iload_n 3, 1) := by decide +kernel
theorem dL_law_312 : decode cL_law 312 = .ok (.iconst 3, 1) := by decide +kernel
theorem dL_law_313 : decode cL_law 313 = .ok (.iadd, 1) := by decide +kernel
theorem dL_law_314 : decode cL_law 314 = .ok (.iaload, 1) := by decide +kernel
theorem dL_law_315 : decode cL_law 315 = .ok (.invokevirtual 28, 3) := by decide +kernel
theorem dL_law_318 : decode cL_law 318 = .ok (.aload_n 2, 1) := by decide +kernel
theorem dL_law_319 : decode cL_law 319 = .ok (.aload_n 0, 1) := by decide +kernel
theorem dL_law_320 : decode cL_law 320 = .ok (.iload_n 3, 1) := by decide +kernel
theorem dL_law_321 : decode cL_law 321 = .ok (.iconst 1, 1) := by decide +kernel
theorem dL_law_322 : decode cL_law 322 = .ok (.iadd, 1) := by decide +kernel
theorem dL_law_323 : decode cL_law 323 = .ok (.iaload, 1) := by decide +kernel
theorem dL_law_324 : decode cL_law 324 = .ok (.aload_n 0, 1) := by decide +kernel
theorem dL_law_325 : decode cL_law 325 = .ok (.iload_n 3, 1) := by decide +kernel
theorem dL_law_326 : decode cL_law 326 = .ok (.iconst 2, 1) := by decide +kernel
theorem dL_law_327 : decode cL_law 327 = .ok (.iadd, 1) := by decide +kernel
theorem dL_law_328 : decode cL_law 328 = .ok (.iaload, 1) := by decide +kernel
theorem dL_law_329 : decode cL_law 329 = .ok (.aload_n 0, 1) := by decide +kernel
theorem dL_law_330 : decode cL_law 330 = .ok (.iload_n 3, 1) := by decide +kernel
theorem dL_law_331 : decode cL_law 331 = .ok (.iconst 3, 1) := by decide +kernel
theorem dL_law_332 : decode cL_law 332 = .ok (.iadd, 1) := by decide +kernel
theorem dL_law_333 : decode cL_law 333 = .ok (.iaload, 1) := by decide +kernel
theorem dL_law_334 : decode cL_law 334 = .ok (.invokevirtual 31, 3) := by decide +kernel
theorem dL_law_337 : decode cL_law 337 = .ok (.if_icmp .eq 493, 3) := by decide +kernel
theorem dL_law_340 : decode cL_law 340 = .ok (.iconst 0, 1) := by decide +kernel
theorem dL_law_341 : decode cL_law 341 = .ok (.ireturn, 1) := by decide +kernel
theorem dL_law_342 : decode cL_law 342 = .ok (.aload_n 1, 1) := by decide +kernel
theorem dL_law_343 : decode cL_law 343 = .ok (.aload_n 0, 1) := by decide +kernel
theorem dL_law_344 : decode cL_law 344 = .ok (.iload_n 3, 1) := by decide +kernel
theorem dL_law_345 : decode cL_law 345 = .ok (.iconst 1, 1) := by decide +kernel
theorem dL_law_346 : decode cL_law 346 = .ok (.iadd, 1) := by decide +kernel
theorem dL_law_347 : decode cL_law 347 = .ok (.iaload, 1) := by decide +kernel
theorem dL_law_348 : decode cL_law 348 = .ok (.aload_n 0, 1) := by decide +kernel
theorem dL_law_349 : decode cL_law 349 = .ok (.iload_n 3, 1) := by decide +kernel
theorem dL_law_350 : decode cL_law 350 = .ok (.iconst 2, 1) := by decide +kernel
theorem dL_law_351 : decode cL_law 351 = .ok (.iadd, 1) := by decide +kernel
theorem dL_law_352 : decode cL_law 352 = .ok (.iaload, 1) := by decide +kernel
theorem dL_law_353 : decode cL_law 353 = .ok (.invokevirtual 32, 3) := by decide +kernel
theorem dL_law_356 : decode cL_law 356 = .ok (.aload_n 2, 1) := by decide +kernel
theorem dL_law_357 : decode cL_law 357 = .ok (.aload_n 0, 1) := by decide +kernel
theorem dL_law_358 : decode cL_law 358 = .ok (.iload_n 3, 1) := by decide +kernel
theorem dL_law_359 : decode cL_law 359 = .ok (.iconst 1, 1) := by decide +kernel
theorem dL_law_360 : decode cL_law 360 = .ok (.iadd, 1) := by decide +kernel
theorem dL_law_361 : decode cL_law 361 = .ok (.iaload, 1) := by decide +kernel
theorem dL_law_362 : decode cL_law 362 = .ok (.aload_n 0, 1) := by decide +kernel
theorem dL_law_363 : decode cL_law 363 = .ok (.iload_n 3, 1) := by decide +kernel
theorem dL_law_364 : decode cL_law 364 = .ok (.iconst 2, 1) := by decide +kernel
theorem dL_law_365 : decode cL_law 365 = .ok (.iadd, 1) := by decide +kernel
theorem dL_law_366 : decode cL_law 366 = .ok (.iaload, 1) := by decide +kernel
theorem dL_law_367 : decode cL_law 367 = .ok (.invokevirtual 36, 3) := by decide +kernel
theorem dL_law_370 : decode cL_law 370 = .ok (.if_icmp .eq 460, 3) := by decide +kernel
theorem dL_law_373 : decode cL_law 373 = .ok (.iconst 0, 1) := by decide +kernel
theorem dL_law_374 : decode cL_law 374 = .ok (.ireturn, 1) := by decide +kernel
theorem dL_law_375 : decode cL_law 375 = .ok (.aload_n 1, 1) := by decide +kernel
theorem dL_law_376 : decode cL_law 376 = .ok (.invokevirtual 37, 3) := by decide +kernel
theorem dL_law_379 : decode cL_law 379 = .ok (.aload_n 2, 1) := by decide +kernel
theorem dL_law_380 : decode cL_law 380 = .ok (.invokevirtual 41, 3) := by decide +kernel
theorem dL_law_383 : decode cL_law 383 = .ok (.if_icmp .eq 447, 3) := by decide +kernel
theorem dL_law_386 : decode cL_law 386 = .ok (.iconst 0, 1) := by decide +kernel
theorem dL_law_387 : decode cL_law 387 = .ok (.ireturn, 1) := by decide +kernel
theorem dL_law_388 : decode cL_law 388 = .ok (.aload_n 1, 1) := by decide +kernel
theorem dL_law_389 : decode cL_law 389 = .ok (.aload_n 0, 1) := by decide +kernel
theorem dL_law_390 : decode cL_law 390 = .ok (.iload_n 3, 1) := by decide +kernel
theorem dL_law_391 : decode cL_law 391 = .ok (.iconst 1, 1) := by decide +kernel
theorem dL_law_392 : decode cL_law 392 = .ok (.iadd, 1) := by decide +kernel
theorem dL_law_393 : decode cL_law 393 = .ok (.iaload, 1) := by decide +kernel
theorem dL_law_394 : decode cL_law 394 = .ok (.invokevirtual 42, 3) := by decide +kernel
theorem dL_law_397 : decode cL_law 397 = .ok (.aload_n 2, 1) := by decide +kernel
theorem dL_law_398 : decode cL_law 398 = .ok (.aload_n 0, 1) := by decide +kernel
theorem dL_law_399 : decode cL_law 399 = .ok (.iload_n 3, 1) := by decide +kernel
theorem dL_law_400 : decode cL_law 400 = .ok (.iconst 1, 1) := by decide +kernel
theorem dL_law_401 : decode cL_law 401 = .ok (.iadd, 1) := by decide +kernel
theorem dL_law_402 : decode cL_law 402 = .ok (.iaload, 1) := by decide +kernel
theorem dL_law_403 : decode cL_law 403 = .ok (.invokevirtual 46, 3) := by decide +kernel
theorem dL_law_406 : decode cL_law 406 = .ok (.if_icmp .eq 424, 3) := by decide +kernel
theorem dL_law_409 : decode cL_law 409 = .ok (.iconst 0, 1) := by decide +kernel
theorem dL_law_410 : decode cL_law 410 = .ok (.ireturn, 1) := by decide +kernel
theorem dL_law_411 : decode cL_law 411 = .ok (.aload_n 1, 1) := by decide +kernel
theorem dL_law_412 : decode cL_law 412 = .ok (.invokevirtual 47, 3) := by decide +kernel
theorem dL_law_415 : decode cL_law 415 = .ok (.aload_n 2, 1) := by decide +kernel
theorem dL_law_416 : decode cL_law 416 = .ok (.invokevirtual 50, 3) := by decide +kernel
theorem dL_law_419 : decode cL_law 419 = .ok (.if_icmp .eq 411, 3) := by decide +kernel
theorem dL_law_422 : decode cL_law 422 = .ok (.iconst 0, 1) := by decide +kernel
theorem dL_law_423 : decode cL_law 423 = .ok (.ireturn, 1) := by decide +kernel
theorem dL_law_424 : decode cL_law 424 = .ok (.aload_n 1, 1) := by decide +kernel
theorem dL_law_425 : decode cL_law 425 = .ok (.aload_n 0, 1) := by decide +kernel
theorem dL_law_426 : decode cL_law 426 = .ok (.iload_n 3, 1) := by decide +kernel
theorem dL_law_427 : decode cL_law 427 = .ok (.iconst 1, 1) := by decide +kernel
theorem dL_law_428 : decode cL_law 428 = .ok (.iadd, 1) := by decide +kernel
theorem dL_law_429 : decode cL_law 429 = .ok (.iaload, 1) := by decide +kernel
theorem dL_law_430 : decode cL_law 430 = .ok (.aload_n 0, 1) := by decide +kernel
theorem dL_law_431 : decode cL_law 431 = .ok (.iload_n 3, 1) := by decide +kernel
theorem dL_law_432 : decode cL_law 432 = .ok (.iconst 2, 1) := by decide +kernel
theorem dL_law_433 : decode cL_law 433 = .ok (.iadd, 1) := by decide +kernel
theorem dL_law_434 : decode cL_law 434 = .ok (.iaload, 1) := by decide +kernel
theorem dL_law_435 : decode cL_law 435 = .ok (.invokevirtual 51, 3) := by decide +kernel
theorem dL_law_438 : decode cL_law 438 = .ok (.aload_n 2, 1) := by decide +kernel
theorem dL_law_439 : decode cL_law 439 = .ok (.aload_n 0, 1) := by decide +kernel
theorem dL_law_440 : decode cL_law 440 = .ok (.iload_n 3, 1) := by decide +kernel
theorem dL_law_441 : decode cL_law 441 = .ok (.iconst 1, 1) := by decide +kernel
theorem dL_law_442 : decode cL_law 442 = .ok (.iadd, 1) := by decide +kernel
theorem dL_law_443 : decode cL_law 443 = .ok (.iaload, 1) := by decide +kernel
theorem dL_law_444 : decode cL_law 444 = .ok (.aload_n 0, 1) := by decide +kernel
theorem dL_law_445 : decode cL_law 445 = .ok (.iload_n 3, 1) := by decide +kernel
theorem dL_law_446 : decode cL_law 446 = .ok (.iconst 2, 1) := by decide +kernel
theorem dL_law_447 : decode cL_law 447 = .ok (.iadd, 1) := by decide +kernel
theorem dL_law_448 : decode cL_law 448 = .ok (.iaload, 1) := by decide +kernel
theorem dL_law_449 : decode cL_law 449 = .ok (.invokevirtual 54, 3) := by decide +kernel
theorem dL_law_452 : decode cL_law 452 = .ok (.if_icmp .eq 378, 3) := by decide +kernel
theorem dL_law_455 : decode cL_law 455 = .ok (.iconst 0, 1) := by decide +kernel
theorem dL_law_456 : decode cL_law 456 = .ok (.ireturn, 1) := by decide +kernel
theorem dL_law_457 : decode cL_law 457 = .ok (.aload_n 1, 1) := by decide +kernel
theorem dL_law_458 : decode cL_law 458 = .ok (.aload_n 0, 1) := by decide +kernel
theorem dL_law_459 : decode cL_law 459 = .ok (.iload_n 3, 1) := by decide +kernel
theorem dL_law_460 : decode cL_law 460 = .ok (.iconst 1, 1) := by decide +kernel
theorem dL_law_461 : decode cL_law 461 = .ok (.iadd, 1) := by decide +kernel
theorem dL_law_462 : decode cL_law 462 = .ok (.iaload, 1) := by decide +kernel
theorem dL_law_463 : decode cL_law 463 = .ok (.aload_n 0, 1) := by decide +kernel
theorem dL_law_464 : decode cL_law 464 = .ok (.iload_n 3, 1) := by decide +kernel
theorem dL_law_465 : decode cL_law 465 = .ok (.iconst 2, 1) := by decide +kernel
theorem dL_law_466 : decode cL_law 466 = .ok (.iadd, 1) := by decide +kernel
theorem dL_law_467 : decode cL_law 467 = .ok (.iaload, 1) := by decide +kernel
theorem dL_law_468 : decode cL_law 468 = .ok (.aload_n 0, 1) := by decide +kernel
theorem dL_law_469 : decode cL_law 469 = .ok (.iload_n 3, 1) := by decide +kernel
theorem dL_law_470 : decode cL_law 470 = .ok (.iconst 3, 1) := by decide +kernel
theorem dL_law_471 : decode cL_law 471 = .ok (.iadd, 1) := by decide +kernel
theorem dL_law_472 : decode cL_law 472 = .ok (.iaload, 1) := by decide +kernel
theorem dL_law_473 : decode cL_law 473 = .ok (.invokevirtual 55, 3) := by decide +kernel
theorem dL_law_476 : decode cL_law 476 = .ok (.aload_n 2, 1) := by decide +kernel
theorem dL_law_477 : decode cL_law 477 = .ok (.aload_n 0, 1) := by decide +kernel
theorem dL_law_478 : decode cL_law 478 = .ok (.iload_n 3, 1) := by decide +kernel
theorem dL_law_479 : decode cL_law 479 = .ok (.iconst 1, 1) := by decide +kernel
theorem dL_law_480 : decode cL_law 480 = .ok (.iadd, 1) := by decide +kernel
theorem dL_law_481 : decode cL_law 481 = .ok (.iaload, 1) := by decide +kernel
theorem dL_law_482 : decode cL_law 482 = .ok (.aload_n 0, 1) := by decide +kernel
theorem dL_law_483 : decode cL_law 483 = .ok (.iload_n 3, 1) := by decide +kernel
theorem dL_law_484 : decode cL_law 484 = .ok (.iconst 2, 1) := by decide +kernel
theorem dL_law_485 : decode cL_law 485 = .ok (.iadd, 1) := by decide +kernel
theorem dL_law_486 : decode cL_law 486 = .ok (.iaload, 1) := by decide +kernel
theorem dL_law_487 : decode cL_law 487 = .ok (.aload_n 0, 1) := by decide +kernel
theorem dL_law_488 : decode cL_law 488 = .ok (.iload_n 3, 1) := by decide +kernel
theorem dL_law_489 : decode cL_law 489 = .ok (.iconst 3, 1) := by decide +kernel
theorem dL_law_490 : decode cL_law 490 = .ok (.iadd, 1) := by decide +kernel
theorem dL_law_491 : decode cL_law 491 = .ok (.iaload, 1) := by decide +kernel
theorem dL_law_492 : decode cL_law 492 = .ok (.invokevirtual 58, 3) := by decide +kernel
theorem dL_law_495 : decode cL_law 495 = .ok (.if_icmp .eq 335, 3) := by decide +kernel
theorem dL_law_498 : decode cL_law 498 = .ok (.iconst 0, 1) := by decide +kernel
theorem dL_law_499 : decode cL_law 499 = .ok (.ireturn, 1) := by decide +kernel
theorem dL_law_500 : decode cL_law 500 = .ok (.aload_n 1, 1) := by decide +kernel
theorem dL_law_501 : decode cL_law 501 = .ok (.aload_n 0, 1) := by decide +kernel
theorem dL_law_502 : decode cL_law 502 = .ok (.iload_n 3, 1) := by decide +kernel
theorem dL_law_503 : decode cL_law 503 = .ok (.iconst 1, 1) := by decide +kernel
theorem dL_law_504 : decode cL_law 504 = .ok (.iadd, 1) := by decide +kernel
theorem dL_law_505 : decode cL_law 505 = .ok (.iaload, 1) := by decide +kernel
theorem dL_law_506 : decode cL_law 506 = .ok (.aload_n 0, 1) := by decide +kernel
theorem dL_law_507 : decode cL_law 507 = .ok (.iload_n 3, 1) := by decide +kernel
theorem dL_law_508 : decode cL_law 508 = .ok (.iconst 2, 1) := by decide +kernel
theorem dL_law_509 : decode cL_law 509 = .ok (.iadd, 1) := by decide +kernel
theorem dL_law_510 : decode cL_law 510 = .ok (.iaload, 1) := by decide +kernel
theorem dL_law_511 : decode cL_law 511 = .ok (.invokevirtual 59, 3) := by decide +kernel
theorem dL_law_514 : decode cL_law 514 = .ok (.aload_n 2, 1) := by decide +kernel
theorem dL_law_515 : decode cL_law 515 = .ok (.aload_n 0, 1) := by decide +kernel
theorem dL_law_516 : decode cL_law 516 = .ok (.iload_n 3, 1) := by decide +kernel
theorem dL_law_517 : decode cL_law 517 = .ok (.iconst 1, 1) := by decide +kernel
theorem dL_law_518 : decode cL_law 518 = .ok (.iadd, 1) := by decide +kernel
theorem dL_law_519 : decode cL_law 519 = .ok (.iaload, 1) := by decide +kernel
theorem dL_law_520 : decode cL_law 520 = .ok (.aload_n 0, 1) := by decide +kernel
theorem dL_law_521 : decode cL_law 521 = .ok (.iload_n 3, 1) := by decide +kernel
theorem dL_law_522 : decode cL_law 522 = .ok (.iconst 2, 1) := by decide +kernel
theorem dL_law_523 : decode cL_law 523 = .ok (.iadd, 1) := by decide +kernel
theorem dL_law_524 : decode cL_law 524 = .ok (.iaload, 1) := by decide +kernel
theorem dL_law_525 : decode cL_law 525 = .ok (.invokevirtual 62, 3) := by decide +kernel
theorem dL_law_528 : decode cL_law 528 = .ok (.if_icmp .eq 302, 3) := by decide +kernel
theorem dL_law_531 : decode cL_law 531 = .ok (.iconst 0, 1) := by decide +kernel
theorem dL_law_532 : decode cL_law 532 = .ok (.ireturn, 1) := by decide +kernel
theorem dL_law_533 : decode cL_law 533 = .ok (.aload_n 1, 1) := by decide +kernel
theorem dL_law_534 : decode cL_law 534 = .ok (.aload_n 0, 1) := by decide +kernel
theorem dL_law_535 : decode cL_law 535 = .ok (.iload_n 3, 1) := by decide +kernel
theorem dL_law_536 : decode cL_law 536 = .ok (.iconst 1, 1) := by decide +kernel
theorem dL_law_537 : decode cL_law 537 = .ok (.iadd, 1) := by decide +kernel
theorem dL_law_538 : decode cL_law 538 = .ok (.iaload, 1) := by decide +kernel
theorem dL_law_539 : decode cL_law 539 = .ok (.aload_n 0, 1) := by decide +kernel
theorem dL_law_540 : decode cL_law 540 = .ok (.iload_n 3, 1) := by decide +kernel
theorem dL_law_541 : decode cL_law 541 = .ok (.iconst 2, 1) := by decide +kernel
theorem dL_law_542 : decode cL_law 542 = .ok (.iadd, 1) := by decide +kernel
theorem dL_law_543 : decode cL_law 543 = .ok (.iaload, 1) := by decide +kernel
theorem dL_law_544 : decode cL_law 544 = .ok (.invokevirtual 63, 3) := by decide +kernel
theorem dL_law_547 : decode cL_law 547 = .ok (.aload_n 2, 1) := by decide +kernel
theorem dL_law_548 : decode cL_law 548 = .ok (.aload_n 0, 1) := by decide +kernel
theorem dL_law_549 : decode cL_law 549 = .ok (.iload_n 3, 1) := by decide +kernel
theorem dL_law_550 : decode cL_law 550 = .ok (.iconst 1, 1) := by decide +kernel
theorem dL_law_551 : decode cL_law 551 = .ok (.iadd, 1) := by decide +kernel
theorem dL_law_552 : decode cL_law 552 = .ok (.iaload, 1) := by decide +kernel
theorem dL_law_553 : decode cL_law 553 = .ok (.aload_n 0, 1) := by decide +kernel
theorem dL_law_554 : decode cL_law 554 = .ok (.iload_n 3, 1) := by decide +kernel
theorem dL_law_555 : decode cL_law 555 = .ok (.iconst 2, 1) := by decide +kernel
theorem dL_law_556 : decode cL_law 556 = .ok (.iadd, 1) := by decide +kernel
theorem dL_law_557 : decode cL_law 557 = .ok (.iaload, 1) := by decide +kernel
theorem dL_law_558 : decode cL_law 558 = .ok (.invokevirtual 66, 3) := by decide +kernel
theorem dL_law_561 : decode cL_law 561 = .ok (.if_icmp .eq 269, 3) := by decide +kernel
theorem dL_law_564 : decode cL_law 564 = .ok (.iconst 0, 1) := by decide +kernel
theorem dL_law_565 : decode cL_law 565 = .ok (.ireturn, 1) := by decide +kernel
theorem dL_law_566 : decode cL_law 566 = .ok (.aload_n 1, 1) := by decide +kernel
theorem dL_law_567 : decode cL_law 567 = .ok (.aload_n 0, 1) := by decide +kernel
theorem dL_law_568 : decode cL_law 568 = .ok (.iload_n 3, 1) := by decide +kernel
theorem dL_law_569 : decode cL_law 569 = .ok (.iconst 1, 1) := by decide +kernel
theorem dL_law_570 : decode cL_law 570 = .ok (.iadd, 1) := by decide +kernel
theorem dL_law_571 : decode cL_law 571 = .ok (.iaload, 1) := by decide +kernel
theorem dL_law_572 : decode cL_law 572 = .ok (.aload_n 0, 1) := by decide +kernel
theorem dL_law_573 : decode cL_law 573 = .ok (.iload_n 3, 1) := by decide +kernel
theorem dL_law_574 : decode cL_law 574 = .ok (.iconst 2, 1) := by decide +kernel
theorem dL_law_575 : decode cL_law 575 = .ok (.iadd, 1) := by decide +kernel
theorem dL_law_576 : decode cL_law 576 = .ok (.iaload, 1) := by decide +kernel
theorem dL_law_577 : decode cL_law 577 = .ok (.invokevirtual 67, 3) := by decide +kernel
theorem dL_law_580 : decode cL_law 580 = .ok (.aload_n 2, 1) := by decide +kernel
theorem dL_law_581 : decode cL_law 581 = .ok (.aload_n 0, 1) := by decide +kernel
theorem dL_law_582 : decode cL_law 582 = .ok (.iload_n 3, 1) := by decide +kernel
theorem dL_law_583 : decode cL_law 583 = .ok (.iconst 1, 1) := by decide +kernel
theorem dL_law_584 : decode cL_law 584 = .ok (.iadd, 1) := by decide +kernel
theorem dL_law_585 : decode cL_law 585 = .ok (.iaload, 1) := by decide +kernel
theorem dL_law_586 : decode cL_law 586 = .ok (.aload_n 0, 1) := by decide +kernel
theorem dL_law_587 : decode cL_law 587 = .ok (.iload_n 3, 1) := by decide +kernel
theorem dL_law_588 : decode cL_law 588 = .ok (.iconst 2, 1) := by decide +kernel
theorem dL_law_589 : decode cL_law 589 = .ok (.iadd, 1) := by decide +kernel
theorem dL_law_590 : decode cL_law 590 = .ok (.iaload, 1) := by decide +kernel
theorem dL_law_591 : decode cL_law 591 = .ok (.invokevirtual 70, 3) := by decide +kernel
theorem dL_law_594 : decode cL_law 594 = .ok (.if_icmp .eq 236, 3) := by decide +kernel
theorem dL_law_597 : decode cL_law 597 = .ok (.iconst 0, 1) := by decide +kernel
theorem dL_law_598 : decode cL_law 598 = .ok (.ireturn, 1) := by decide +kernel
theorem dL_law_599 : decode cL_law 599 = .ok (.aload_n 1, 1) := by decide +kernel
theorem dL_law_600 : decode cL_law 600 = .ok (.aload_n 0, 1) := by decide +kernel
theorem dL_law_601 : decode cL_law 601 = .ok (.iload_n 3, 1) := by decide +kernel
theorem dL_law_602 : decode cL_law 602 = .ok (.iconst 1, 1) := by decide +kernel
theorem dL_law_603 : decode cL_law 603 = .ok (.iadd, 1) := by decide +kernel
theorem dL_law_604 : decode cL_law 604 = .ok (.iaload, 1) := by decide +kernel
theorem dL_law_605 : decode cL_law 605 = .ok (.aload_n 0, 1) := by decide +kernel
theorem dL_law_606 : decode cL_law 606 = .ok (.iload_n 3, 1) := by decide +kernel
theorem dL_law_607 : decode cL_law 607 = .ok (.iconst 2, 1) := by decide +kernel
theorem dL_law_608 : decode cL_law 608 = .ok (.iadd, 1) := by decide +kernel
theorem dL_law_609 : decode cL_law 609 = .ok (.iaload, 1) := by decide +kernel
theorem dL_law_610 : decode cL_law 610 = .ok (.invokevirtual 71, 3) := by decide +kernel
theorem dL_law_613 : decode cL_law 613 = .ok (.aload_n 2, 1) := by decide +kernel
theorem dL_law_614 : decode cL_law 614 = .ok (.aload_n 0, 1) := by decide +kernel
theorem dL_law_615 : decode cL_law 615 = .ok (.iload_n 3, 1) := by decide +kernel
theorem dL_law_616 : decode cL_law 616 = .ok (.iconst 1, 1) := by decide +kernel
theorem dL_law_617 : decode cL_law 617 = .ok (.iadd, 1) := by decide +kernel
theorem dL_law_618 : decode cL_law 618 = .ok (.iaload, 1) := by decide +kernel
theorem dL_law_619 : decode cL_law 619 = .ok (.aload_n 0, 1) := by decide +kernel
theorem dL_law_620 : decode cL_law 620 = .ok (.iload_n 3, 1) := by decide +kernel
theorem dL_law_621 : decode cL_law 621 = .ok (.iconst 2, 1) := by decide +kernel
theorem dL_law_622 : decode cL_law 622 = .ok (.iadd, 1) := by decide +kernel
theorem dL_law_623 : decode cL_law 623 = .ok (.iaload, 1) := by decide +kernel
theorem dL_law_624 : decode cL_law 624 = .ok (.invokevirtual 74, 3) := by decide +kernel
theorem dL_law_627 : decode cL_law 627 = .ok (.if_icmp .eq 203, 3) := by decide +kernel
theorem dL_law_630 : decode cL_law 630 = .ok (.iconst 0, 1) := by decide +kernel
theorem dL_law_631 : decode cL_law 631 = .ok (.ireturn, 1) := by decide +kernel
theorem dL_law_632 : decode cL_law 632 = .ok (.aload_n 1, 1) := by decide +kernel
theorem dL_law_633 : decode cL_law 633 = .ok (.aload_n 0, 1) := by decide +kernel
theorem dL_law_634 : decode cL_law 634 = .ok (.iload_n 3, 1) := by decide +kernel
theorem dL_law_635 : decode cL_law 635 = .ok (.iconst 1, 1) := by decide +kernel
theorem dL_law_636 : decode cL_law 636 = .ok (.iadd, 1) := by decide +kernel
theorem dL_law_637 : decode cL_law 637 = .ok (.iaload, 1) := by decide +kernel
theorem dL_law_638 : decode cL_law 638 = .ok (.aload_n 0, 1) := by decide +kernel
theorem dL_law_639 : decode cL_law 639 = .ok (.iload_n 3, 1) := by decide +kernel
theorem dL_law_640 : decode cL_law 640 = .ok (.iconst 2, 1) := by decide +kernel
theorem dL_law_641 : decode cL_law 641 = .ok (.iadd, 1) := by decide +kernel
theorem dL_law_642 : decode cL_law 642 = .ok (.iaload, 1) := by decide +kernel
theorem dL_law_643 : decode cL_law 643 = .ok (.aload_n 0, 1) := by decide +kernel
theorem dL_law_644 : decode cL_law 644 = .ok (.iload_n 3, 1) := by decide +kernel
theorem dL_law_645 : decode cL_law 645 = .ok (.iconst 3, 1) := by decide +kernel
theorem dL_law_646 : decode cL_law 646 = .ok (.iadd, 1) := by decide +kernel
theorem dL_law_647 : decode cL_law 647 = .ok (.iaload, 1) := by decide +kernel
theorem dL_law_648 : decode cL_law 648 = .ok (.invokevirtual 75, 3) := by decide +kernel
theorem dL_law_651 : decode cL_law 651 = .ok (.aload_n 2, 1) := by decide +kernel
theorem dL_law_652 : decode cL_law 652 = .ok (.aload_n 0, 1) := by decide +kernel
theorem dL_law_653 : decode cL_law 653 = .ok (.iload_n 3, 1) := by decide +kernel
theorem dL_law_654 : decode cL_law 654 = .ok (.iconst 1, 1) := by decide +kernel
theorem dL_law_655 : decode cL_law 655 = .ok (.iadd, 1) := by decide +kernel
theorem dL_law_656 : decode cL_law 656 = .ok (.iaload, 1) := by decide +kernel
theorem dL_law_657 : decode cL_law 657 = .ok (.aload_n 0, 1) := by decide +kernel
theorem dL_law_658 : decode cL_law 658 = .ok (.iload_n 3, 1) := by decide +kernel
theorem dL_law_659 : decode cL_law 659 = .ok (.iconst 2, 1) := by decide +kernel
theorem dL_law_660 : decode cL_law 660 = .ok (.iadd, 1) := by decide +kernel
theorem dL_law_661 : decode cL_law 661 = .ok (.iaload, 1) := by decide +kernel
theorem dL_law_662 : decode cL_law 662 = .ok (.aload_n 0, 1) := by decide +kernel
theorem dL_law_663 : decode cL_law 663 = .ok (.iload_n 3, 1) := by decide +kernel
theorem dL_law_664 : decode cL_law 664 = .ok (.iconst 3, 1) := by decide +kernel
theorem dL_law_665 : decode cL_law 665 = .ok (.iadd, 1) := by decide +kernel
theorem dL_law_666 : decode cL_law 666 = .ok (.iaload, 1) := by decide +kernel
theorem dL_law_667 : decode cL_law 667 = .ok (.invokevirtual 78, 3) := by decide +kernel
theorem dL_law_670 : decode cL_law 670 = .ok (.if_icmp .eq 160, 3) := by decide +kernel
theorem dL_law_673 : decode cL_law 673 = .ok (.iconst 0, 1) := by decide +kernel
theorem dL_law_674 : decode cL_law 674 = .ok (.ireturn, 1) := by decide +kernel
theorem dL_law_675 : decode cL_law 675 = .ok (.aload_n 1, 1) := by decide +kernel
theorem dL_law_676 : decode cL_law 676 = .ok (.aload_n 0, 1) := by decide +kernel
theorem dL_law_677 : decode cL_law 677 = .ok (.iload_n 3, 1) := by decide +kernel
theorem dL_law_678 : decode cL_law 678 = .ok (.iconst 1, 1) := by decide +kernel
theorem dL_law_679 : decode cL_law 679 = .ok (.iadd, 1) := by decide +kernel
theorem dL_law_680 : decode cL_law 680 = .ok (.iaload, 1) := by decide +kernel
theorem dL_law_681 : decode cL_law 681 = .ok (.aload_n 0, 1) := by decide +kernel
theorem dL_law_682 : decode cL_law 682 = .ok (.iload_n 3, 1) := by decide +kernel
theorem dL_law_683 : decode cL_law 683 = .ok (.iconst 2, 1) := by decide +kernel
theorem dL_law_684 : decode cL_law 684 = .ok (.iadd, 1) := by decide +kernel
theorem dL_law_685 : decode cL_law 685 = .ok (.iaload, 1) := by decide +kernel
theorem dL_law_686 : decode cL_law 686 = .ok (.invokevirtual 79, 3) := by decide +kernel
theorem dL_law_689 : decode cL_law 689 = .ok (.aload_n 2, 1) := by decide +kernel
theorem dL_law_690 : decode cL_law 690 = .ok (.aload_n 0, 1) := by decide +kernel
theorem dL_law_691 : decode cL_law 691 = .ok (.iload_n 3, 1) := by decide +kernel
theorem dL_law_692 : decode cL_law 692 = .ok (.iconst 1, 1) := by decide +kernel
theorem dL_law_693 : decode cL_law 693 = .ok (.iadd, 1) := by decide +kernel
theorem dL_law_694 : decode cL_law 694 = .ok (.iaload, 1) := by decide +kernel
theorem dL_law_695 : decode cL_law 695 = .ok (.aload_n 0, 1) := by decide +kernel
theorem dL_law_696 : decode cL_law 696 = .ok (.iload_n 3, 1) := by decide +kernel
theorem dL_law_697 : decode cL_law 697 = .ok (.iconst 2, 1) := by decide +kernel
theorem dL_law_698 : decode cL_law 698 = .ok (.iadd, 1) := by decide +kernel
theorem dL_law_699 : decode cL_law 699 = .ok (.iaload, 1) := by decide +kernel
theorem dL_law_700 : decode cL_law 700 = .ok (.invokevirtual 82, 3) := by decide +kernel
theorem dL_law_703 : decode cL_law 703 = .ok (.if_icmp .eq 127, 3) := by decide +kernel
theorem dL_law_706 : decode cL_law 706 = .ok (.iconst 0, 1) := by decide +kernel
theorem dL_law_707 : decode cL_law 707 = .ok (.ireturn, 1) := by decide +kernel
theorem dL_law_708 : decode cL_law 708 = .ok (.aload_n 1, 1) := by decide +kernel
theorem dL_law_709 : decode cL_law 709 = .ok (.aload_n 0, 1) := by decide +kernel
theorem dL_law_710 : decode cL_law 710 = .ok (.iload_n 3, 1) := by decide +kernel
theorem dL_law_711 : decode cL_law 711 = .ok (.iconst 1, 1) := by decide +kernel
theorem dL_law_712 : decode cL_law 712 = .ok (.iadd, 1) := by decide +kernel
theorem dL_law_713 : decode cL_law 713 = .ok (.iaload, 1) := by decide +kernel
theorem dL_law_714 : decode cL_law 714 = .ok (.invokevirtual 83, 3) := by decide +kernel
theorem dL_law_717 : decode cL_law 717 = .ok (.aload_n 2, 1) := by decide +kernel
theorem dL_law_718 : decode cL_law 718 = .ok (.aload_n 0, 1) := by decide +kernel
theorem dL_law_719 : decode cL_law 719 = .ok (.iload_n 3, 1) := by decide +kernel
theorem dL_law_720 : decode cL_law 720 = .ok (.iconst 1, 1) := by decide +kernel
theorem dL_law_721 : decode cL_law 721 = .ok (.iadd, 1) := by decide +kernel
theorem dL_law_722 : decode cL_law 722 = .ok (.iaload, 1) := by decide +kernel
theorem dL_law_723 : decode cL_law 723 = .ok (.invokevirtual 86, 3) := by decide +kernel
theorem dL_law_726 : decode cL_law 726 = .ok (.if_icmp .eq 104, 3) := by decide +kernel
theorem dL_law_729 : decode cL_law 729 = .ok (.iconst 0, 1) := by decide +kernel
theorem dL_law_730 : decode cL_law 730 = .ok (.ireturn, 1) := by decide +kernel
theorem dL_law_731 : decode cL_law 731 = .ok (.aload_n 1, 1) := by decide +kernel
theorem dL_law_732 : decode cL_law 732 = .ok (.aload_n 0, 1) := by decide +kernel
theorem dL_law_733 : decode cL_law 733 = .ok (.iload_n 3, 1) := by decide +kernel
theorem dL_law_734 : decode cL_law 734 = .ok (.iconst 1, 1) := by decide +kernel
theorem dL_law_735 : decode cL_law 735 = .ok (.iadd, 1) := by decide +kernel
theorem dL_law_736 : decode cL_law 736 = .ok (.iaload, 1) := by decide +kernel
theorem dL_law_737 : decode cL_law 737 = .ok (.invokevirtual 87, 3) := by decide +kernel
theorem dL_law_740 : decode cL_law 740 = .ok (.aload_n 2, 1) := by decide +kernel
theorem dL_law_741 : decode cL_law 741 = .ok (.aload_n 0, 1) := by decide +kernel
theorem dL_law_742 : decode cL_law 742 = .ok (.iload_n 3, 1) := by decide +kernel
theorem dL_law_743 : decode cL_law 743 = .ok (.iconst 1, 1) := by decide +kernel
theorem dL_law_744 : decode cL_law 744 = .ok (.iadd, 1) := by decide +kernel
theorem dL_law_745 : decode cL_law 745 = .ok (.iaload, 1) := by decide +kernel
theorem dL_law_746 : decode cL_law 746 = .ok (.invokevirtual 90, 3) := by decide +kernel
theorem dL_law_749 : decode cL_law 749 = .ok (.if_icmp .eq 81, 3) := by decide +kernel
theorem dL_law_752 : decode cL_law 752 = .ok (.iconst 0, 1) := by decide +kernel
theorem dL_law_753 : decode cL_law 753 = .ok (.ireturn, 1) := by decide +kernel
theorem dL_law_754 : decode cL_law 754 = .ok (.aload_n 1, 1) := by decide +kernel
theorem dL_law_755 : decode cL_law 755 = .ok (.invokevirtual 91, 3) := by decide +kernel
theorem dL_law_758 : decode cL_law 758 = .ok (.aload_n 2, 1) := by decide +kernel
theorem dL_law_759 : decode cL_law 759 = .ok (.invokevirtual 94, 3) := by decide +kernel
theorem dL_law_762 : decode cL_law 762 = .ok (.if_icmp .eq 68, 3) := by decide +kernel
theorem dL_law_765 : decode cL_law 765 = .ok (.iconst 0, 1) := by decide +kernel
theorem dL_law_766 : decode cL_law 766 = .ok (.ireturn, 1) := by decide +kernel
theorem dL_law_767 : decode cL_law 767 = .ok (.aload_n 1, 1) := by decide +kernel
theorem dL_law_768 : decode cL_law 768 = .ok (.invokevirtual 95, 3) := by decide +kernel
theorem dL_law_771 : decode cL_law 771 = .ok (.aload_n 2, 1) := by decide +kernel
theorem dL_law_772 : decode cL_law 772 = .ok (.invokevirtual 98, 3) := by decide +kernel
theorem dL_law_775 : decode cL_law 775 = .ok (.if_icmp .eq 55, 3) := by decide +kernel
theorem dL_law_778 : decode cL_law 778 = .ok (.iconst 0, 1) := by decide +kernel
theorem dL_law_779 : decode cL_law 779 = .ok (.ireturn, 1) := by decide +kernel
theorem dL_law_780 : decode cL_law 780 = .ok (.aload_n 1, 1) := by decide +kernel
theorem dL_law_781 : decode cL_law 781 = .ok (.invokevirtual 99, 3) := by decide +kernel
theorem dL_law_784 : decode cL_law 784 = .ok (.aload_n 2, 1) := by decide +kernel
theorem dL_law_785 : decode cL_law 785 = .ok (.invokevirtual 102, 3) := by decide +kernel
theorem dL_law_788 : decode cL_law 788 = .ok (.if_icmp .eq 42, 3) := by decide +kernel
theorem dL_law_791 : decode cL_law 791 = .ok (.iconst 0, 1) := by decide +kernel
theorem dL_law_792 : decode cL_law 792 = .ok (.ireturn, 1) := by decide +kernel
theorem dL_law_793 : decode cL_law 793 = .ok (.aload_n 1, 1) := by decide +kernel
theorem dL_law_794 : decode cL_law 794 = .ok (.aload_n 0, 1) := by decide +kernel
theorem dL_law_795 : decode cL_law 795 = .ok (.iload_n 3, 1) := by decide +kernel
theorem dL_law_796 : decode cL_law 796 = .ok (.iconst 1, 1) := by decide +kernel
theorem dL_law_797 : decode cL_law 797 = .ok (.iadd, 1) := by decide +kernel
theorem dL_law_798 : decode cL_law 798 = .ok (.iaload, 1) := by decide +kernel
theorem dL_law_799 : decode cL_law 799 = .ok (.invokevirtual 103, 3) := by decide +kernel
theorem dL_law_802 : decode cL_law 802 = .ok (.aload_n 2, 1) := by decide +kernel
theorem dL_law_803 : decode cL_law 803 = .ok (.aload_n 0, 1) := by decide +kernel
theorem dL_law_804 : decode cL_law 804 = .ok (.iload_n 3, 1) := by decide +kernel
theorem dL_law_805 : decode cL_law 805 = .ok (.iconst 1, 1) := by decide +kernel
theorem dL_law_806 : decode cL_law 806 = .ok (.iadd, 1) := by decide +kernel
theorem dL_law_807 : decode cL_law 807 = .ok (.iaload, 1) := by decide +kernel
theorem dL_law_808 : decode cL_law 808 = .ok (.invokevirtual 106, 3) := by decide +kernel
theorem dL_law_811 : decode cL_law 811 = .ok (.if_icmp .eq 19, 3) := by decide +kernel
theorem dL_law_814 : decode cL_law 814 = .ok (.iconst 0, 1) := by decide +kernel
theorem dL_law_815 : decode cL_law 815 = .ok (.ireturn, 1) := by decide +kernel
theorem dL_law_816 : decode cL_law 816 = .ok (.aload_n 1, 1) := by decide +kernel
theorem dL_law_817 : decode cL_law 817 = .ok (.invokevirtual 107, 3) := by decide +kernel
theorem dL_law_820 : decode cL_law 820 = .ok (.aload_n 2, 1) := by decide +kernel
theorem dL_law_821 : decode cL_law 821 = .ok (.invokevirtual 111, 3) := by decide +kernel
theorem dL_law_824 : decode cL_law 824 = .ok (.lcmp, 1) := by decide +kernel
theorem dL_law_825 : decode cL_law 825 = .ok (.ifCond .eq 5, 3) := by decide +kernel
theorem dL_law_828 : decode cL_law 828 = .ok (.iconst 0, 1) := by decide +kernel
theorem dL_law_829 : decode cL_law 829 = .ok (.ireturn, 1) := by decide +kernel
theorem dL_law_830 : decode cL_law 830 = .ok (.iinc 3 6, 3) := by decide +kernel
theorem dL_law_833 : decode cL_law 833 = .ok (.goto (-815), 3) := by decide +kernel
theorem dL_law_836 : decode cL_law 836 = .ok (.iconst 1, 1) := by decide +kernel
theorem dL_law_837 : decode cL_law 837 = .ok (.ireturn, 1) := by decide +kernel
