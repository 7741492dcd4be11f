theorem dX4_following_62 : decode cX4_following 62 = .ok (.ireturn, 1) := by decide +kernel
theorem dX4_countShared_0 : decode cX4_countShared 0 = .ok (.iconst 0, 1) := by decide +kernel
theorem dX4_countShared_1 : decode cX4_countShared 1 = .ok (.istore_n 2, 1) := by decide +kernel
theorem dX4_countShared_2 : decode cX4_countShared 2 = .ok (.iconst 0, 1) := by decide +kernel
theorem dX4_countShared_3 : decode cX4_countShared 3 = .ok (.istore_n 3, 1) := by decide +kernel
theorem dX4_countShared_4 : decode cX4_countShared 4 = .ok (.iload_n 3, 1) := by decide +kernel
theorem dX4_countShared_5 : decode cX4_countShared 5 = .ok (.bipush 16, 2) := by decide +kernel
theorem dX4_countShared_7 : decode cX4_countShared 7 = .ok (.if_icmp .ge 42, 3) := by decide +kernel
theorem dX4_countShared_10 : decode cX4_countShared 10 = .ok (.iload_n 2, 1) := by decide +kernel
theorem dX4_countShared_11 : decode cX4_countShared 11 = .ok (.aload_n 0, 1) := by decide +kernel
theorem dX4_countShared_12 : decode cX4_countShared 12 = .ok (.iload_n 3, 1) := by decide +kernel
theorem dX4_countShared_13 : decode cX4_countShared 13 = .ok (.invokevirtual 28, 3) := by decide +kernel
theorem dX4_countShared_16 : decode cX4_countShared 16 = .ok (.ifCond .eq 24, 3) := by decide +kernel
theorem dX4_countShared_19 : decode cX4_countShared 19 = .ok (.aload_n 1, 1) := by decide +kernel
theorem dX4_countShared_20 : decode cX4_countShared 20 = .ok (.iload_n 3, 1) := by decide +kernel
theorem dX4_countShared_21 : decode cX4_countShared 21 = .ok (.invokevirtual 28, 3) := by decide +kernel
theorem dX4_countShared_24 : decode cX4_countShared 24 = .ok (.ifCond .eq 16, 3) := by decide +kernel
theorem dX4_countShared_27 : decode cX4_countShared 27 = .ok (.aload_n 0, 1) := by decide +kernel
theorem dX4_countShared_28 : decode cX4_countShared 28 = .ok (.iload_n 3, 1) := by decide +kernel
theorem dX4_countShared_29 : decode cX4_countShared 29 = .ok (.aload_n 1, 1) := by decide +kernel
theorem dX4_countShared_30 : decode cX4_countShared 30 = .ok (.invokevirtual 55, 3) := by decide +kernel
theorem dX4_countShared_33 : decode cX4_countShared 33 = .ok (.ifCond .eq 7, 3) := by decide +kernel
theorem dX4_countShared_36 : decode cX4_countShared 36 = .ok (.iconst 1, 1) := by decide +kernel
theorem dX4_countShared_37 : decode cX4_countShared 37 = .ok (.goto 4, 3) := by decide +kernel
theorem dX4_countShared_40 : decode cX4_countShared 40 = .ok (.iconst 0, 1) := by decide +kernel
theorem dX4_countShared_41 : decode cX4_countShared 41 = .ok (.iadd, 1) := by decide +kernel
theorem dX4_countShared_42 : decode cX4_countShared 42 = .ok (.istore_n 2, 1) := by decide +kernel
theorem dX4_countShared_43 : decode cX4_countShared 43 = .ok (.iinc 3 1, 3) := by decide +kernel
theorem dX4_countShared_46 : decode cX4_countShared 46 = .ok (.goto (-42), 3) := by decide +kernel
theorem dX4_countShared_49 : decode cX4_countShared 49 = .ok (.iload_n 2, 1) := by decide +kernel
theorem dX4_countShared_50 : decode cX4_countShared 50 = .ok (.ireturn, 1) := by decide +kernel
theorem dX4_isSame_0 : decode cX4_isSame 0 = .ok (.iconst 0, 1) := by decide +kernel
theorem dX4_isSame_1 : decode cX4_isSame 1 = .ok (.istore_n 3, 1) := by decide +kernel
theorem dX4_isSame_2 : decode cX4_isSame 2 = .ok (.iload_n 3, 1) := by decide +kernel
theorem dX4_isSame_3 : decode cX4_isSame 3 = .ok (.iconst 3, 1) := by decide +kernel
theorem dX4_isSame_4 : decode cX4_isSame 4 = .ok (.if_icmp .gt 26, 3) := by decide +kernel
theorem dX4_isSame_7 : decode cX4_isSame 7 = .ok (.aload_n 0, 1) := by decide +kernel
theorem dX4_isSame_8 : decode cX4_isSame 8 = .ok (.iload_n 1, 1) := by decide +kernel
theorem dX4_isSame_9 : decode cX4_isSame 9 = .ok (.iload_n 3, 1) := by decide +kernel
theorem dX4_isSame_10 : decode cX4_isSame 10 = .ok (.invokevirtual 36, 3) := by decide +kernel
theorem dX4_isSame_13 : decode cX4_isSame 13 = .ok (.aload_n 2, 1) := by decide +kernel
theorem dX4_isSame_14 : decode cX4_isSame 14 = .ok (.iload_n 1, 1) := by decide +kernel
theorem dX4_isSame_15 : decode cX4_isSame 15 = .ok (.iload_n 3, 1) := by decide +kernel
theorem dX4_isSame_16 : decode cX4_isSame 16 = .ok (.invokevirtual 36, 3) := by decide +kernel
theorem dX4_isSame_19 : decode cX4_isSame 19 = .ok (.if_icmp .eq 5, 3) := by decide +kernel
theorem dX4_isSame_22 : decode cX4_isSame 22 = .ok (.iconst 0, 1) := by decide +kernel
theorem dX4_isSame_23 : decode cX4_isSame 23 = .ok (.ireturn, 1) := by decide +kernel
theorem dX4_isSame_24 : decode cX4_isSame 24 = .ok (.iinc 3 1, 3) := by decide +kernel
theorem dX4_isSame_27 : decode cX4_isSame 27 = .ok (.goto (-25), 3) := by decide +kernel
theorem dX4_isSame_30 : decode cX4_isSame 30 = .ok (.iconst 1, 1) := by decide +kernel
theorem dX4_isSame_31 : decode cX4_isSame 31 = .ok (.ireturn, 1) := by decide +kernel
theorem dX4_attach_0 : decode cX4_attach 0 = .ok (.aload_n 0, 1) := by decide +kernel
theorem dX4_attach_1 : decode cX4_attach 1 = .ok (.iload_n 2, 1) := by decide +kernel
theorem dX4_attach_2 : decode cX4_attach 2 = .ok (.iload_n 3, 1) := by decide +kernel
theorem dX4_attach_3 : decode cX4_attach 3 = .ok (.iconst 1, 1) := by decide +kernel
theorem dX4_attach_4 : decode cX4_attach 4 = .ok (.invokevirtual 59, 3) := by decide +kernel
theorem dX4_attach_7 : decode cX4_attach 7 = .ok (.aload_n 0, 1) := by decide +kernel
theorem dX4_attach_8 : decode cX4_attach 8 = .ok (.iload_n 1, 1) := by decide +kernel
theorem dX4_attach_9 : decode cX4_attach 9 = .ok (.invokevirtual 62, 3) := by decide +kernel
theorem dX4_attach_12 : decode cX4_attach 12 = .ok (.aload_n 0, 1) := by decide +kernel
theorem dX4_attach_13 : decode cX4_attach 13 = .ok (.iload_n 1, 1) := by decide +kernel
theorem dX4_attach_14 : decode cX4_attach 14 = .ok (.iconst 0, 1) := by decide +kernel
theorem dX4_attach_15 : decode cX4_attach 15 = .ok (.iload_n 2, 1) := by decide +kernel
theorem dX4_attach_16 : decode cX4_attach 16 = .ok (.invokevirtual 18, 3) := by decide +kernel
theorem dX4_attach_19 : decode cX4_attach 19 = .ok (.aload_n 0, 1) := by decide +kernel
theorem dX4_attach_20 : decode cX4_attach 20 = .ok (.iload_n 1, 1) := by decide +kernel
theorem dX4_attach_21 : decode cX4_attach 21 = .ok (.iconst 1, 1) := by decide +kernel
theorem dX4_attach_22 : decode cX4_attach 22 = .ok (.iload_n 3, 1) := by decide +kernel
theorem dX4_attach_23 : decode cX4_attach 23 = .ok (.invokevirtual 18, 3) := by decide +kernel
theorem dX4_attach_26 : decode cX4_attach 26 = .ok (.return_, 1) := by decide +kernel
theorem dX4_detach_0 : decode cX4_detach 0 = .ok (.aload_n 0, 1) := by decide +kernel
theorem dX4_detach_1 : decode cX4_detach 1 = .ok (.iload_n 1, 1) := by decide +kernel
theorem dX4_detach_2 : decode cX4_detach 2 = .ok (.iconst 0, 1) := by decide +kernel
theorem dX4_detach_3 : decode cX4_detach 3 = .ok (.invokevirtual 36, 3) := by decide +kernel
theorem dX4_detach_6 : decode cX4_detach 6 = .ok (.istore_n 2, 1) := by decide +kernel
theorem dX4_detach_7 : decode cX4_detach 7 = .ok (.aload_n 0, 1) := by decide +kernel
theorem dX4_detach_8 : decode cX4_detach 8 = .ok (.iload_n 1, 1) := by decide +kernel
theorem dX4_detach_9 : decode cX4_detach 9 = .ok (.iconst 1, 1) := by decide +kernel
theorem dX4_detach_10 : decode cX4_detach 10 = .ok (.invokevirtual 36, 3) := by decide +kernel
theorem dX4_detach_13 : decode cX4_detach 13 = .ok (.istore_n 3, 1) := by decide +kernel
theorem dX4_detach_14 : decode cX4_detach 14 = .ok (.aload_n 0, 1) := by decide +kernel
theorem dX4_detach_15 : decode cX4_detach 15 = .ok (.iload_n 1, 1) := by decide +kernel
theorem dX4_detach_16 : decode cX4_detach 16 = .ok (.iconst 0, 1) := by decide +kernel
theorem dX4_detach_17 : decode cX4_detach 17 = .ok (.iconst (-1), 1) := by decide +kernel
theorem dX4_detach_18 : decode cX4_detach 18 = .ok (.invokevirtual 18, 3) := by decide +kernel
theorem dX4_detach_21 : decode cX4_detach 21 = .ok (.aload_n 0, 1) := by decide +kernel
theorem dX4_detach_22 : decode cX4_detach 22 = .ok (.iload_n 2, 1) := by decide +kernel
theorem dX4_detach_23 : decode cX4_detach 23 = .ok (.iload_n 3, 1) := by decide +kernel
theorem dX4_detach_24 : decode cX4_detach 24 = .ok (.iconst (-1), 1) := by decide +kernel
theorem dX4_detach_25 : decode cX4_detach 25 = .ok (.invokevirtual 59, 3) := by decide +kernel
theorem dX4_detach_28 : decode cX4_detach 28 = .ok (.return_, 1) := by decide +kernel
theorem dX4_shift_0 : decode cX4_shift 0 = .ok (.iconst 0, 1) := by decide +kernel
theorem dX4_shift_1 : decode cX4_shift 1 = .ok (.istore 4, 2) := by decide +kernel
theorem dX4_shift_3 : decode cX4_shift 3 = .ok (.iload 4, 2) := by decide +kernel
theorem dX4_shift_5 : decode cX4_shift 5 = .ok (.bipush 16, 2) := by decide +kernel
theorem dX4_shift_7 : decode cX4_shift 7 = .ok (.if_icmp .ge 46, 3) := by decide +kernel
theorem dX4_shift_10 : decode cX4_shift 10 = .ok (.aload_n 0, 1) := by decide +kernel
theorem dX4_shift_11 : decode cX4_shift 11 = .ok (.iload 4, 2) := by decide +kernel
theorem dX4_shift_13 : decode cX4_shift 13 = .ok (.iload_n 1, 1) := by decide +kernel
theorem dX4_shift_14 : decode cX4_shift 14 = .ok (.invokevirtual 32, 3) := by decide +kernel
theorem dX4_shift_17 : decode cX4_shift 17 = .ok (.ifCond .eq 30, 3) := by decide +kernel
theorem dX4_shift_20 : decode cX4_shift 20 = .ok (.aload_n 0, 1) := by decide +kernel
theorem dX4_shift_21 : decode cX4_shift 21 = .ok (.iload 4, 2) := by decide +kernel
theorem dX4_shift_23 : decode cX4_shift 23 = .ok (.iconst 1, 1) := by decide +kernel
theorem dX4_shift_24 : decode cX4_shift 24 = .ok (.invokevirtual 36, 3) := by decide +kernel
theorem dX4_shift_27 : decode cX4_shift 27 = .ok (.iload_n 2, 1) := by decide +kernel
theorem dX4_shift_28 : decode cX4_shift 28 = .ok (.if_icmp .lt 19, 3) := by decide +kernel
theorem dX4_shift_31 : decode cX4_shift 31 = .ok (.aload_n 0, 1) := by decide +kernel
theorem dX4_shift_32 : decode cX4_shift 32 = .ok (.iload 4, 2) := by decide +kernel
theorem dX4_shift_34 : decode cX4_shift 34 = .ok (.iconst 1, 1) := by decide +kernel
theorem dX4_shift_35 : decode cX4_shift 35 = .ok (.aload_n 0, 1) := by decide +kernel
theorem dX4_shift_36 : decode cX4_shift 36 = .ok (.iload 4, 2) := by decide +kernel
theorem dX4_shift_38 : decode cX4_shift 38 = .ok (.iconst 1, 1) := by decide +kernel
theorem dX4_shift_39 : decode cX4_shift 39 = .ok (.invokevirtual 36, 3) := by decide +kernel
theorem dX4_shift_42 : decode cX4_shift 42 = .ok (.iload_n 3, 1) := by decide +kernel
theorem dX4_shift_43 : decode cX4_shift 43 = .ok (.iadd, 1) := by decide +kernel
theorem dX4_shift_44 : decode cX4_shift 44 = .ok (.invokevirtual 18, 3) := by decide +kernel
theorem dX4_shift_47 : decode cX4_shift 47 = .ok (.iinc 4 1, 3) := by decide +kernel
theorem dX4_shift_50 : decode cX4_shift 50 = .ok (.goto (-47), 3) := by decide +kernel
theorem dX4_shift_53 : decode cX4_shift 53 = .ok (.return_, 1) := by decide +kernel
theorem dX4_drop_0 : decode cX4_drop 0 = .ok (.iconst 0, 1) := by decide +kernel
theorem dX4_drop_1 : decode cX4_drop 1 = .ok (.istore_n 2, 1) := by decide +kernel
theorem dX4_drop_2 : decode cX4_drop 2 = .ok (.iconst 1, 1) := by decide +kernel
theorem dX4_drop_3 : decode cX4_drop 3 = .ok (.istore_n 3, 1) := by decide +kernel
theorem dX4_drop_4 : decode cX4_drop 4 = .ok (.iload_n 3, 1) := by decide +kernel
theorem dX4_drop_5 : decode cX4_drop 5 = .ok (.bipush 16, 2) := by decide +kernel
theorem dX4_drop_7 : decode cX4_drop 7 = .ok (.if_icmp .ge 36, 3) := by decide +kernel
theorem dX4_drop_10 : decode cX4_drop 10 = .ok (.iload_n 2, 1) := by decide +kernel
theorem dX4_drop_11 : decode cX4_drop 11 = .ok (.aload_n 0, 1) := by decide +kernel
theorem dX4_drop_12 : decode cX4_drop 12 = .ok (.iload_n 3, 1) := by decide +kernel
theorem dX4_drop_13 : decode cX4_drop 13 = .ok (.invokevirtual 28, 3) := by decide +kernel
theorem dX4_drop_16 : decode cX4_drop 16 = .ok (.ifCond .eq 18, 3) := by decide +kernel
theorem dX4_drop_19 : decode cX4_drop 19 = .ok (.aload_n 0, 1) := by decide +kernel
theorem dX4_drop_20 : decode cX4_drop 20 = .ok (.iload_n 3, 1) := by decide +kernel
theorem dX4_drop_21 : decode cX4_drop 21 = .ok (.iload_n 1, 1) := by decide +kernel
theorem dX4_drop_22 : decode cX4_drop 22 = .ok (.invokevirtual 40, 3) := by decide +kernel
theorem dX4_drop_25 : decode cX4_drop 25 = .ok (.ifCond .eq 9, 3) := by decide +kernel
theorem dX4_drop_28 : decode cX4_drop 28 = .ok (.iconst 1, 1) := by decide +kernel
theorem dX4_drop_29 : decode cX4_drop 29 = .ok (.iload_n 3, 1) := by decide +kernel
theorem dX4_drop_30 : decode cX4_drop 30 = .ok (.ishl, 1) := by decide +kernel
theorem dX4_drop_31 : decode cX4_drop 31 = .ok (.goto 4, 3) := by decide +kernel
theorem dX4_drop_34 : decode cX4_drop 34 = .ok (.iconst 0, 1) := by decide +kernel
theorem dX4_drop_35 : decode cX4_drop 35 = .ok (.ior, 1) := by decide +kernel
theorem dX4_drop_36 : decode cX4_drop 36 = .ok (.istore_n 2, 1) := by decide +kernel
theorem dX4_drop_37 : decode cX4_drop 37 = .ok (.iinc 3 1, 3) := by decide +kernel
theorem dX4_drop_40 : decode cX4_drop 40 = .ok (.goto (-36), 3) := by decide +kernel
theorem dX4_drop_43 : decode cX4_drop 43 = .ok (.aload_n 0, 1) := by decide +kernel
theorem dX4_drop_44 : decode cX4_drop 44 = .ok (.iload_n 1, 1) := by decide +kernel
theorem dX4_drop_45 : decode cX4_drop 45 = .ok (.invokevirtual 66, 3) := by decide +kernel
theorem dX4_drop_48 : decode cX4_drop 48 = .ok (.iconst 1, 1) := by decide +kernel
theorem dX4_drop_49 : decode cX4_drop 49 = .ok (.istore_n 3, 1) := by decide +kernel
theorem dX4_drop_50 : decode cX4_drop 50 = .ok (.iload_n 3, 1) := by decide +kernel
theorem dX4_drop_51 : decode cX4_drop 51 = .ok (.bipush 16, 2) := by decide +kernel
theorem dX4_drop_53 : decode cX4_drop 53 = .ok (.if_icmp .ge 25, 3) := by decide +kernel
theorem dX4_drop_56 : decode cX4_drop 56 = .ok (.iload_n 2, 1) := by decide +kernel
theorem dX4_drop_57 : decode cX4_drop 57 = .ok (.iload_n 3, 1) := by decide +kernel
theorem dX4_drop_58 : decode cX4_drop 58 = .ok (.ishr, 1) := by decide +kernel
theorem dX4_drop_59 : decode cX4_drop 59 = .ok (.iconst 1, 1) := by decide +kernel
theorem dX4_drop_60 : decode cX4_drop 60 = .ok (.iand, 1) := by decide +kernel
theorem dX4_drop_61 : decode cX4_drop 61 = .ok (.iconst 1, 1) := by decide +kernel
theorem dX4_drop_62 : decode cX4_drop 62 = .ok (.if_icmp .ne 10, 3) := by decide +kernel
theorem dX4_drop_65 : decode cX4_drop 65 = .ok (.aload_n 0, 1) := by decide +kernel
theorem dX4_drop_66 : decode cX4_drop 66 = .ok (.iload_n 3, 1) := by decide +kernel
theorem dX4_drop_67 : decode cX4_drop 67 = .ok (.iconst 4, 1) := by decide +kernel
theorem dX4_drop_68 : decode cX4_drop 68 = .ok (.iconst 0, 1) := by decide +kernel
theorem dX4_drop_69 : decode cX4_drop 69 = .ok (.invokevirtual 18, 3) := by decide +kernel
theorem dX4_drop_72 : decode cX4_drop 72 = .ok (.iinc 3 1, 3) := by decide +kernel
theorem dX4_drop_75 : decode cX4_drop 75 = .ok (.goto (-25), 3) := by decide +kernel
theorem dX4_drop_78 : decode cX4_drop 78 = .ok (.iload_n 2, 1) := by decide +kernel
theorem dX4_drop_79 : decode cX4_drop 79 = .ok (.invokestatic 69, 3) := by decide +kernel
theorem dX4_drop_82 : decode cX4_drop 82 = .ok (.ireturn, 1) := by decide +kernel
theorem dX5_init_0 : decode cX5_init 0 = .ok (.aload_n 0, 1) := by decide +kernel
theorem dX5_init_1 : decode cX5_init 1 = .ok (.invokespecial 3, 3) := by decide +kernel
theorem dX5_init_4 : decode cX5_init 4 = .ok (.aload_n 0, 1) := by decide +kernel
theorem dX5_init_5 : decode cX5_init 5 = .ok (.new 9, 3) := by decide +kernel
theorem dX5_init_8 : decode cX5_init 8 = .ok (.dup, 1) := by decide +kernel
theorem dX5_init_9 : decode cX5_init 9 = .ok (.bipush 48, 2) := by decide +kernel
theorem dX5_init_11 : decode cX5_init 11 = .ok (.invokespecial 11, 3) := by decide +kernel
theorem dX5_init_14 : decode cX5_init 14 = .ok (.putfield 14, 3) := by decide +kernel
theorem dX5_init_17 : decode cX5_init 17 = .ok (.return_, 1) := by decide +kernel
theorem dX5_write_0 : decode cX5_write 0 = .ok (.aload_n 0, 1) := by decide +kernel
theorem dX5_write_1 : decode cX5_write 1 = .ok (.getfield 14, 3) := by decide +kernel
theorem dX5_write_4 : decode cX5_write 4 = .ok (.invokevirtual 20, 3) := by decide +kernel
theorem dX5_write_7 : decode cX5_write 7 = .ok (.iconst 0, 1) := by decide +kernel
theorem dX5_write_8 : decode cX5_write 8 = .ok (.istore_n 3, 1) := by decide +kernel
theorem dX5_write_9 : decode cX5_write 9 = .ok (.iload_n 3, 1) := by decide +kernel
theorem dX5_write_10 : decode cX5_write 10 = .ok (.bipush 16, 2) := by decide +kernel
theorem dX5_write_12 : decode cX5_write 12 = .ok (.if_icmp .ge 94, 3) := by decide +kernel
theorem dX5_write_15 : decode cX5_write 15 = .ok (.aload_n 1, 1) := by decide +kernel
theorem dX5_write_16 : decode cX5_write 16 = .ok (.iload_n 3, 1) := by decide +kernel
theorem dX5_write_17 : decode cX5_write 17 = .ok (.invokevirtual 23, 3) := by decide +kernel
theorem dX5_write_20 : decode cX5_write 20 = .ok (.ifCond .eq 41, 3) := by decide +kernel
theorem dX5_write_23 : decode cX5_write 23 = .ok (.aload_n 2, 1) := by decide +kernel
theorem dX5_write_24 : decode cX5_write 24 = .ok (.iload_n 3, 1) := by decide +kernel
theorem dX5_write_25 : decode cX5_write 25 = .ok (.invokevirtual 23, 3) := by decide +kernel
theorem dX5_write_28 : decode cX5_write 28 = .ok (.ifCond .eq 33, 3) := by decide +kernel
theorem dX5_write_31 : decode cX5_write 31 = .ok (.aload_n 0, 1) := by decide +kernel
theorem dX5_write_32 : decode cX5_write 32 = .ok (.aload_n 1, 1) := by decide +kernel
theorem dX5_write_33 : decode cX5_write 33 = .ok (.aload_n 2, 1) := by decide +kernel
theorem dX5_write_34 : decode cX5_write 34 = .ok (.iload_n 3, 1) := by decide +kernel
theorem dX5_write_35 : decode cX5_write 35 = .ok (.iconst 0, 1) := by decide +kernel
theorem dX5_write_36 : decode cX5_write 36 = .ok (.iconst 3, 1) := by decide +kernel
theorem dX5_write_37 : decode cX5_write 37 = .ok (.invokevirtual 29, 3) := by decide +kernel
theorem dX5_write_40 : decode cX5_write 40 = .ok (.aload_n 0, 1) := by decide +kernel
theorem dX5_write_41 : decode cX5_write 41 = .ok (.aload_n 1, 1) := by decide +kernel
theorem dX5_write_42 : decode cX5_write 42 = .ok (.aload_n 2, 1) := by decide +kernel
theorem dX5_write_43 : decode cX5_write 43 = .ok (.iload_n 3, 1) := by decide +kernel
theorem dX5_write_44 : decode cX5_write 44 = .ok (.iconst 2, 1) := by decide +kernel
theorem dX5_write_45 : decode cX5_write 45 = .ok (.iconst 4, 1) := by decide +kernel
theorem dX5_write_46 : decode cX5_write 46 = .ok (.invokevirtual 29, 3) := by decide +kernel
theorem dX5_write_49 : decode cX5_write 49 = .ok (.aload_n 0, 1) := by decide +kernel
theorem dX5_write_50 : decode cX5_write 50 = .ok (.aload_n 1, 1) := by decide +kernel
theorem dX5_write_51 : decode cX5_write 51 = .ok (.aload_n 2, 1) := by decide +kernel
theorem dX5_write_52 : decode cX5_write 52 = .ok (.iload_n 3, 1) := by decide +kernel
theorem dX5_write_53 : decode cX5_write 53 = .ok (.iconst 3, 1) := by decide +kernel
theorem dX5_write_54 : decode cX5_write 54 = .ok (.iconst 5, 1) := by decide +kernel
theorem dX5_write_55 : decode cX5_write 55 = .ok (.invokevirtual 29, 3) := by decide +kernel
theorem dX5_write_58 : decode cX5_write 58 = .ok (.goto 42, 3) := by decide +kernel
theorem dX5_write_61 : decode cX5_write 61 = .ok (.aload_n 2, 1) := by decide +kernel
theorem dX5_write_62 : decode cX5_write 62 = .ok (.iload_n 3, 1) := by decide +kernel
theorem dX5_write_63 : decode cX5_write 63 = .ok (.invokevirtual 23, 3) := by decide +kernel
theorem dX5_write_66 : decode cX5_write 66 = .ok (.ifCond .eq 16, 3) := by decide +kernel
theorem dX5_write_69 : decode cX5_write 69 = .ok (.aload_n 0, 1) := by decide +kernel
theorem dX5_write_70 : decode cX5_write 70 = .ok (.getfield 14, 3) := by decide +kernel
theorem dX5_write_73 : decode cX5_write 73 = .ok (.iconst 1, 1) := by decide +kernel
theorem dX5_write_74 : decode cX5_write 74 = .ok (.iload_n 3, 1) := by decide +kernel
theorem dX5_write_75 : decode cX5_write 75 = .ok (.iconst (-1), 1) := by decide +kernel
theorem dX5_write_76 : decode cX5_write 76 = .ok (.invokevirtual 33, 3) := by decide +kernel
theorem dX5_write_79 : decode cX5_write 79 = .ok (.goto 21, 3) := by decide +kernel
theorem dX5_write_82 : decode cX5_write 82 = .ok (.aload_n 1, 1) := by decide +kernel
theorem dX5_write_83 : decode cX5_write 83 = .ok (.iload_n 3, 1) := by decide +kernel
theorem dX5_write_84 : decode cX5_write 84 = .ok (.invokevirtual 23, 3) := by decide +kernel
theorem dX5_write_87 : decode cX5_write 87 = .ok (.ifCond .eq 13, 3) := by decide +kernel
theorem dX5_write_90 : decode cX5_write 90 = .ok (.aload_n 0, 1) := by decide +kernel
theorem dX5_write_91 : decode cX5_write 91 = .ok (.getfield 14, 3) := by decide +kernel
theorem dX5_write_94 : decode cX5_write 94 = .ok (.iconst 2, 1) := by decide +kernel
theorem dX5_write_95 : decode cX5_write 95 = .ok (.iload_n 3, 1) := by decide +kernel
theorem dX5_write_96 : decode cX5_write 96 = .ok (.iconst (-1), 1) := by decide +kernel
theorem dX5_write_97 : decode cX5_write 97 = .ok (.invokevirtual 33, 3) := by decide +kernel
theorem dX5_write_100 : decode cX5_write 100 = .ok (.iinc 3 1, 3) := by decide +kernel
theorem dX5_write_103 : decode cX5_write 103 = .ok (.goto (-94), 3) := by decide +kernel
theorem dX5_write_106 : decode cX5_write 106 = .ok (.return_, 1) := by decide +kernel
theorem dX5_writeChange_0 : decode cX5_writeChange 0 = .ok (.aload_n 2, 1) := by decide +kernel
theorem dX5_writeChange_1 : decode cX5_writeChange 1 = .ok (.iload_n 3, 1) := by decide +kernel
theorem dX5_writeChange_2 : decode cX5_writeChange 2 = .ok (.iload 4, 2) := by decide +kernel
theorem dX5_writeChange_4 : decode cX5_writeChange 4 = .ok (.invokevirtual 37, 3) := by decide +kernel
theorem dX5_writeChange_7 : decode cX5_writeChange 7 = .ok (.aload_n 1, 1) := by decide +kernel
theorem dX5_writeChange_8 : decode cX5_writeChange 8 = .ok (.iload_n 3, 1) := by decide +kernel
theorem dX5_writeChange_9 : decode cX5_writeChange 9 = .ok (.iload 4, 2) := by decide +kernel
theorem dX5_writeChange_11 : decode cX5_writeChange 11 = .ok (.invokevirtual 37, 3) := by decide +kernel
theorem dX5_writeChange_14 : decode cX5_writeChange 14 = .ok (.if_icmp .eq 14, 3) := by decide +kernel
theorem dX5_writeChange_17 : decode cX5_writeChange 17 = .ok (.aload_n 0, 1) := by decide +kernel
theorem dX5_writeChange_18 : decode cX5_writeChange 18 = .ok (.getfield 14, 3) := by decide +kernel
theorem dX5_writeChange_21 : decode cX5_writeChange 21 = .ok (.iload 5, 2) := by decide +kernel
theorem dX5_writeChange_23 : decode cX5_writeChange 23 = .ok (.iload_n 3, 1) := by decide +kernel
theorem dX5_writeChange_24 : decode cX5_writeChange 24 = .ok (.iconst (-1), 1) := by decide +kernel
theorem dX5_writeChange_25 : decode cX5_writeChange 25 = .ok (.invokevirtual 33, 3) := by decide +kernel
theorem dX5_writeChange_28 : decode cX5_writeChange 28 = .ok (.return_, 1) := by decide +kernel
theorem dX6_init_0 : decode cX6_init 0 = .ok (.aload_n 0, 1) := by decide +kernel
theorem dX6_init_1 : decode cX6_init 1 = .ok (.invokespecial 3, 3) := by decide +kernel
theorem dX6_init_4 : decode cX6_init 4 = .ok (.aload_n 0, 1) := by decide +kernel
theorem dX6_init_5 : decode cX6_init 5 = .ok (.iconst 0, 1) := by decide +kernel
theorem dX6_init_6 : decode cX6_init 6 = .ok (.putfield 9, 3) := by decide +kernel
theorem dX6_init_9 : decode cX6_init 9 = .ok (.iload_n 1, 1) := by decide +kernel
theorem dX6_init_10 : decode cX6_init 10 = .ok (.iconst 0, 1) := by decide +kernel
theorem dX6_init_11 : decode cX6_init 11 = .ok (.invokestatic 15, 3) := by decide +kernel
theorem dX6_init_14 : decode cX6_init 14 = .ok (.istore_n 2, 1) := by decide +kernel
theorem dX6_init_15 : decode cX6_init 15 = .ok (.aload_n 0, 1) := by decide +kernel
theorem dX6_init_16 : decode cX6_init 16 = .ok (.iload_n 2, 1) := by decide +kernel
theorem dX6_init_17 : decode cX6_init 17 = .ok (.newarray .int, 2) := by decide +kernel
theorem dX6_init_19 : decode cX6_init 19 = .ok (.putfield 21, 3) := by decide +kernel
theorem dX6_init_22 : decode cX6_init 22 = .ok (.aload_n 0, 1) := by decide +kernel
theorem dX6_init_23 : decode cX6_init 23 = .ok (.iload_n 2, 1) := by decide +kernel
theorem dX6_init_24 : decode cX6_init 24 = .ok (.newarray .int, 2) := by decide +kernel
theorem dX6_init_26 : decode cX6_init 26 = .ok (.putfield 25, 3) := by decide +kernel
theorem dX6_init_29 : decode cX6_init 29 = .ok (.aload_n 0, 1) := by decide +kernel
theorem dX6_init_30 : decode cX6_init 30 = .ok (.iload_n 2, 1) := by decide +kernel
theorem dX6_init_31 : decode cX6_init 31 = .ok (.newarray .int, 2) := by decide +kernel
theorem dX6_init_33 : decode cX6_init 33 = .ok (.putfield 28, 3) := by decide +kernel
theorem dX6_init_36 : decode cX6_init 36 = .ok (.return_, 1) := by decide +kernel
theorem dX6_wipe_0 : decode cX6_wipe 0 = .ok (.aload_n 0, 1) := by decide +kernel
theorem dX6_wipe_1 : decode cX6_wipe 1 = .ok (.iconst 0, 1) := by decide +kernel
theorem dX6_wipe_2 : decode cX6_wipe 2 = .ok (.putfield 9, 3) := by decide +kernel
theorem dX6_wipe_5 : decode cX6_wipe 5 = .ok (.return_, 1) := by decide +kernel
theorem dX6_tell_0 : decode cX6_tell 0 = .ok (.aload_n 0, 1) := by decide +kernel
theorem dX6_tell_1 : decode cX6_tell 1 = .ok (.getfield 9, 3) := by decide +kernel
theorem dX6_tell_4 : decode cX6_tell 4 = .ok (.ifCond .lt 79, 3) := by decide +kernel
theorem dX6_tell_7 : decode cX6_tell 7 = .ok (.aload_n 0, 1) := by decide +kernel
theorem dX6_tell_8 : decode cX6_tell 8 = .ok (.getfield 9, 3) := by decide +kernel
theorem dX6_tell_11 : decode cX6_tell 11 = .ok (.aload_n 0, 1) := by decide +kernel
theorem dX6_tell_12 : decode cX6_tell 12 = .ok (.getfield 21, 3) := by decide +kernel
theorem dX6_tell_15 : decode cX6_tell 15 = .ok (.arraylength, 1) := by decide +kernel
theorem dX6_tell_16 : decode cX6_tell 16 = .ok (.if_icmp .ge 67, 3) := by decide +kernel
theorem dX6_tell_19 : decode cX6_tell 19 = .ok (.aload_n 0, 1) := by decide +kernel
theorem dX6_tell_20 : decode cX6_tell 20 = .ok (.getfield 9, 3) := by decide +kernel
theorem dX6_tell_23 : decode cX6_tell 23 = .ok (.aload_n 0, 1) := by decide +kernel
theorem dX6_tell_24 : decode cX6_tell 24 = .ok (.getfield 25, 3) := by decide +kernel
theorem dX6_tell_27 : decode cX6_tell 27 = .ok (.arraylength, 1) := by decide +kernel
theorem dX6_tell_28 : decode cX6_tell 28 = .ok (.if_icmp .ge 55, 3) := by decide +kernel
theorem dX6_tell_31 : decode cX6_tell 31 = .ok (.aload_n 0, 1) := by decide +kernel
theorem dX6_tell_32 : decode cX6_tell 32 = .ok (.getfield 9, 3) := by decide +kernel
theorem dX6_tell_35 : decode cX6_tell 35 = .ok (.aload_n 0, 1) := by decide +kernel
theorem dX6_tell_36 : decode cX6_tell 36 = .ok (.getfield 28, 3) := by decide +kernel
theorem dX6_tell_39 : decode cX6_tell 39 = .ok (.arraylength, 1) := by decide +kernel
theorem dX6_tell_40 : decode cX6_tell 40 = .ok (.if_icmp .ge 43, 3) := by decide +kernel
theorem dX6_tell_43 : decode cX6_tell 43 = .ok (.aload_n 0, 1) := by decide +kernel
theorem dX6_tell_44 : decode cX6_tell 44 = .ok (.getfield 21, 3) := by decide +kernel
theorem dX6_tell_47 : decode cX6_tell 47 = .ok (.aload_n 0, 1) := by decide +kernel
theorem dX6_tell_48 : decode cX6_tell 48 = .ok (.getfield 9, 3) := by decide +kernel
theorem dX6_tell_51 : decode cX6_tell 51 = .ok (.iload_n 1, 1) := by decide +kernel
theorem dX6_tell_52 : decode cX6_tell 52 = .ok (.iastore, 1) := by decide +kernel
theorem dX6_tell_53 : decode cX6_tell 53 = .ok (.aload_n 0, 1) := by decide +kernel
theorem dX6_tell_54 : decode cX6_tell 54 = .ok (.getfield 25, 3) := by decide +kernel
theorem dX6_tell_57 : decode cX6_tell 57 = .ok (.aload_n 0, 1) := by decide +kernel
theorem dX6_tell_58 : decode cX6_tell 58 = .ok (.getfield 9, 3) := by decide +kernel
theorem dX6_tell_61 : decode cX6_tell 61 = .ok (.iload_n 2, 1) := by decide +kernel
theorem dX6_tell_62 : decode cX6_tell 62 = .ok (.iastore, 1) := by decide +kernel
theorem dX6_tell_63 : decode cX6_tell 63 = .ok (.aload_n 0, 1) := by decide +kernel
theorem dX6_tell_64 : decode cX6_tell 64 = .ok (.getfield 28, 3) := by decide +kernel
theorem dX6_tell_67 : decode cX6_tell 67 = .ok (.aload_n 0, 1) := by decide +kernel
theorem dX6_tell_68 : decode cX6_tell 68 = .ok (.getfield 9, 3) := by decide +kernel
theorem dX6_tell_71 : decode cX6_tell 71 = .ok (.iload_n 3, 1) := by decide +kernel
theorem dX6_tell_72 : decode cX6_tell 72 = .ok (.iastore, 1) := by decide +kernel
theorem dX6_tell_73 : decode cX6_tell 73 = .ok (.aload_n 0, 1) := by decide +kernel
theorem dX6_tell_74 : decode cX6_tell 74 = .ok (.dup, 1) := by decide +kernel
theorem dX6_tell_75 : decode cX6_tell 75 = .ok (.getfield 9, 3) := by decide +kernel
theorem dX6_tell_78 : decode cX6_tell 78 = .ok (.iconst 1, 1) := by decide +kernel
theorem dX6_tell_79 : decode cX6_tell 79 = .ok (.iadd, 1) := by decide +kernel
theorem dX6_tell_80 : decode cX6_tell 80 = .ok (.putfield 9, 3) := by decide +kernel
theorem dX6_tell_83 : decode cX6_tell 83 = .ok (.return_, 1) := by decide +kernel
theorem dX6_answer_0 : decode cX6_answer 0 = .ok (.iload_n 1, 1) := by decide +kernel
theorem dX6_answer_1 : decode cX6_answer 1 = .ok (.iconst (-1), 1) := by decide +kernel
theorem dX6_answer_2 : decode cX6_answer 2 = .ok (.if_icmp .ne 8, 3) := by decide +kernel
theorem dX6_answer_5 : decode cX6_answer 5 = .ok (.aload_n 0, 1) := by decide +kernel
theorem dX6_answer_6 : decode cX6_answer 6 = .ok (.getfield 9, 3) := by decide +kernel
theorem dX6_answer_9 : decode cX6_answer 9 = .ok (.ireturn, 1) := by decide +kernel
theorem dX6_answer_10 : decode cX6_answer 10 = .ok (.iload_n 1, 1) := by decide +kernel
theorem dX6_answer_11 : decode cX6_answer 11 = .ok (.ifCond .lt 38, 3) := by decide +kernel
theorem dX6_answer_14 : decode cX6_answer 14 = .ok (.iload_n 1, 1) := by decide +kernel
theorem dX6_answer_15 : decode cX6_answer 15 = .ok (.aload_n 0, 1) := by decide +kernel
theorem dX6_answer_16 : decode cX6_answer 16 = .ok (.getfield 9, 3) := by decide +kernel
theorem dX6_answer_19 : decode cX6_answer 19 = .ok (.if_icmp .ge 30, 3) := by decide +kernel
theorem dX6_answer_22 : decode cX6_answer 22 = .ok (.iload_n 1, 1) := by decide +kernel
theorem dX6_answer_23 : decode cX6_answer 23 = .ok (.aload_n 0, 1) := by decide +kernel
theorem dX6_answer_24 : decode cX6_answer 24 = .ok (.getfield 21, 3) := by decide +kernel
theorem dX6_answer_27 : decode cX6_answer 27 = .ok (.arraylength, 1) := by decide +kernel
theorem dX6_answer_28 : decode cX6_answer 28 = .ok (.if_icmp .ge 21, 3) := by decide +kernel
theorem dX6_answer_31 : decode cX6_answer 31 = .ok (.iload_n 1, 1) := by decide +kernel
theorem dX6_answer_32 : decode cX6_answer 32 = .ok (.aload_n 0, 1) := by decide +kernel
theorem dX6_answer_33 : decode cX6_answer 33 = .ok (.getfield 25, 3) := by decide +kernel
theorem dX6_answer_36 : decode cX6_answer 36 = .ok (.arraylength, 1) := by decide +kernel
theorem dX6_answer_37 : decode cX6_answer 37 = .ok (.if_icmp .ge 12, 3) := by decide +kernel
theorem dX6_answer_40 : decode cX6_answer 40 = .ok (.iload_n 1, 1) := by decide +kernel
theorem dX6_answer_41 : decode cX6_answer 41 = .ok (.aload_n 0, 1) := by decide +kernel
theorem dX6_answer_42 : decode cX6_answer 42 = .ok (.getfield 28, 3) := by decide +kernel
theorem dX6_answer_45 : decode cX6_answer 45 = .ok (.arraylength, 1) := by decide +kernel
theorem dX6_answer_46 : decode cX6_answer 46 = .ok (.if_icmp .lt 6, 3) := by decide +kernel
theorem dX6_answer_49 : decode cX6_answer 49 = .ok (.bipush (-5), 2) := by decide +kernel
theorem dX6_answer_51 : decode cX6_answer 51 = .ok (.ireturn, 1) := by decide +kernel
theorem dX6_answer_52 : decode cX6_answer 52 = .ok (.iload_n 2, 1) := by decide +kernel
theorem dX6_answer_53 : decode cX6_answer 53 = .ok (.ifCond .ne 10, 3) := by decide +kernel
theorem dX6_answer_56 : decode cX6_answer 56 = .ok (.aload_n 0, 1) := by decide +kernel
theorem dX6_answer_57 : decode cX6_answer 57 = .ok (.getfield 21, 3) := by decide +kernel
theorem dX6_answer_60 : decode cX6_answer 60 = .ok (.iload_n 1, 1) := by decide +kernel
theorem dX6_answer_61 : decode cX6_answer 61 = .ok (.iaload, 1) := by decide +kernel
theorem dX6_answer_62 : decode cX6_answer 62 = .ok (.ireturn, 1) := by decide +kernel
theorem dX6_answer_63 : decode cX6_answer 63 = .ok (.iload_n 2, 1) := by decide +kernel
theorem dX6_answer_64 : decode cX6_answer 64 = .ok (.iconst 1, 1) := by decide +kernel
theorem dX6_answer_65 : decode cX6_answer 65 = .ok (.if_icmp .ne 12, 3) := by decide +kernel
theorem dX6_answer_68 : decode cX6_answer 68 = .ok (.aload_n 0, 1) := by decide +kernel
theorem dX6_answer_69 : decode cX6_answer 69 = .ok (.getfield 25, 3) := by decide +kernel
theorem dX6_answer_72 : decode cX6_answer 72 = .ok (.iload_n 1, 1) := by decide +kernel
theorem dX6_answer_73 : decode cX6_answer 73 = .ok (.iaload, 1) := by decide +kernel
theorem dX6_answer_74 : decode cX6_answer 74 = .ok (.goto 9, 3) := by decide +kernel
theorem dX6_answer_77 : decode cX6_answer 77 = .ok (.aload_n 0, 1) := by decide +kernel
theorem dX6_answer_78 : decode cX6_answer 78 = .ok (.getfield 28, 3) := by decide +kernel
theorem dX6_answer_81 : decode cX6_answer 81 = .ok (.iload_n 1, 1) := by decide +kernel
theorem dX6_answer_82 : decode cX6_answer 82 = .ok (.iaload, 1) := by decide +kernel
theorem dX6_answer_83 : decode cX6_answer 83 = .ok (.ireturn, 1) := by decide +kernel
theorem dX7_init_0 : decode cX7_init 0 = .ok (.aload_n 0, 1) := by decide +kernel
theorem dX7_init_1 : decode cX7_init 1 = .ok (.invokespecial 3, 3) := by decide +kernel
theorem dX7_init_4 : decode cX7_init 4 = .ok (.aload_n 0, 1) := by decide +kernel
theorem dX7_init_5 : decode cX7_init 5 = .ok (.sipush 150, 3) := by decide +kernel
theorem dX7_init_8 : decode cX7_init 8 = .ok (.newarray .int, 2) := by decide +kernel
theorem dX7_init_10 : decode cX7_init 10 = .ok (.putfield 9, 3) := by decide +kernel
theorem dX7_init_13 : decode cX7_init 13 = .ok (.aload_n 0, 1) := by decide +kernel
theorem dX7_init_14 : decode cX7_init 14 = .ok (.sipush 450, 3) := by decide +kernel
theorem dX7_init_17 : decode cX7_init 17 = .ok (.newarray .int, 2) := by decide +kernel
theorem dX7_init_19 : decode cX7_init 19 = .ok (.putfield 15, 3) := by decide +kernel
theorem dX7_init_22 : decode cX7_init 22 = .ok (.aload_n 0, 1) := by decide +kernel
theorem dX7_init_23 : decode cX7_init 23 = .ok (.iconst 0, 1) := by decide +kernel
theorem dX7_init_24 : decode cX7_init 24 = .ok (.putfield 18, 3) := by decide +kernel
theorem dX7_init_27 : decode cX7_init 27 = .ok (.aload_n 0, 1) := by decide +kernel
theorem dX7_init_28 : decode cX7_init 28 = .ok (.iconst 0, 1) := by decide +kernel
theorem dX7_init_29 : decode cX7_init 29 = .ok (.putfield 22, 3) := by decide +kernel
theorem dX7_init_32 : decode cX7_init 32 = .ok (.aload_n 0, 1) := by decide +kernel
theorem dX7_init_33 : decode cX7_init 33 = .ok (.iconst 0, 1) := by decide +kernel
theorem dX7_init_34 : decode cX7_init 34 = .ok (.putfield 25, 3) := by decide +kernel
theorem dX7_init_37 : decode cX7_init 37 = .ok (.aload_n 0, 1) := by decide +kernel
theorem dX7_init_38 : decode cX7_init 38 = .ok (.iconst 0, 1) := by decide +kernel
theorem dX7_init_39 : decode cX7_init 39 = .ok (.putfield 29, 3) := by decide +kernel
theorem dX7_init_42 : decode cX7_init 42 = .ok (.aload_n 0, 1) := by decide +kernel
theorem dX7_init_43 : decode cX7_init 43 = .ok (.iconst 0, 1) := by decide +kernel
theorem dX7_init_44 : decode cX7_init 44 = .ok (.putfield 32, 3) := by decide +kernel
theorem dX7_init_47 : decode cX7_init 47 = .ok (.aload_n 0, 1) := by decide +kernel
theorem dX7_init_48 : decode cX7_init 48 = .ok (.iconst 0, 1) := by decide +kernel
theorem dX7_init_49 : decode cX7_init 49 = .ok (.putfield 35, 3) := by decide +kernel
theorem dX7_init_52 : decode cX7_init 52 = .ok (.return_, 1) := by decide +kernel
theorem dX7_append_0 : decode cX7_append 0 = .ok (.aload_n 0, 1) := by decide +kernel
theorem dX7_append_1 : decode cX7_append 1 = .ok (.getfield 18, 3) := by decide +kernel
theorem dX7_append_4 : decode cX7_append 4 = .ok (.ifCond .lt 13, 3) := by decide +kernel
theorem dX7_append_7 : decode cX7_append 7 = .ok (.aload_n 0, 1) := by decide +kernel
theorem dX7_append_8 : decode cX7_append 8 = .ok (.getfield 18, 3) := by decide +kernel
theorem dX7_append_11 : decode cX7_append 11 = .ok (.sipush 150, 3) := by decide +kernel
theorem dX7_append_14 : decode cX7_append 14 = .ok (.if_icmp .lt 5, 3) := by decide +kernel
theorem dX7_append_17 : decode cX7_append 17 = .ok (.iconst 0, 1) := by decide +kernel
theorem dX7_append_18 : decode cX7_append 18 = .ok (.ireturn, 1) := by decide +kernel
theorem dX7_append_19 : decode cX7_append 19 = .ok (.aload_n 0, 1) := by decide +kernel
theorem dX7_append_20 : decode cX7_append 20 = .ok (.getfield 9, 3) := by decide +kernel
theorem dX7_append_23 : decode cX7_append 23 = .ok (.aload_n 0, 1) := by decide +kernel
theorem dX7_append_24 : decode cX7_append 24 = .ok (.getfield 18, 3) := by decide +kernel
theorem dX7_append_27 : decode cX7_append 27 = .ok (.iload_n 1, 1) := by decide +kernel
theorem dX7_append_28 : decode cX7_append 28 = .ok (.iastore, 1) := by decide +kernel
theorem dX7_append_29 : decode cX7_append 29 = .ok (.aload_n 0, 1) := by decide +kernel
theorem dX7_append_30 : decode cX7_append 30 = .ok (.dup, 1) := by decide +kernel
theorem dX7_append_31 : decode cX7_append 31 = .ok (.getfield 18, 3) := by decide +kernel
theorem dX7_append_34 : decode cX7_append 34 = .ok (.iconst 1, 1) := by decide +kernel
theorem dX7_append_35 : decode cX7_append 35 = .ok (.iadd, 1) := by decide +kernel
theorem dX7_append_36 : decode cX7_append 36 = .ok (.putfield 18, 3) := by decide +kernel
theorem dX7_append_39 : decode cX7_append 39 = .ok (.iconst 1, 1) := by decide +kernel
theorem dX7_append_40 : decode cX7_append 40 = .ok (.ireturn, 1) := by decide +kernel
theorem dX7_wipe_0 : decode cX7_wipe 0 = .ok (.aload_n 0, 1) := by decide +kernel
theorem dX7_wipe_1 : decode cX7_wipe 1 = .ok (.getfield 18, 3) := by decide +kernel
theorem dX7_wipe_4 : decode cX7_wipe 4 = .ok (.istore_n 1, 1) := by decide +kernel
theorem dX7_wipe_5 : decode cX7_wipe 5 = .ok (.aload_n 0, 1) := by decide +kernel
theorem dX7_wipe_6 : decode cX7_wipe 6 = .ok (.iconst 0, 1) := by decide +kernel
theorem dX7_wipe_7 : decode cX7_wipe 7 = .ok (.putfield 18, 3) := by decide +kernel
theorem dX7_wipe_10 : decode cX7_wipe 10 = .ok (.iload_n 1, 1) := by decide +kernel
theorem dX7_wipe_11 : decode cX7_wipe 11 = .ok (.ireturn, 1) := by decide +kernel
theorem dX7_read_0 : decode cX7_read 0 = .ok (.aload_n 0, 1) := by decide +kernel
theorem dX7_read_1 : decode cX7_read 1 = .ok (.iconst 0, 1) := by decide +kernel
theorem dX7_read_2 : decode cX7_read 2 = .ok (.putfield 22, 3) := by decide +kernel
theorem dX7_read_5 : decode cX7_read 5 = .ok (.aload_n 0, 1) := by decide +kernel
theorem dX7_read_6 : decode cX7_read 6 = .ok (.iconst 0, 1) := by decide +kernel
theorem dX7_read_7 : decode cX7_read 7 = .ok (.putfield 25, 3) := by decide +kernel
theorem dX7_read_10 : decode cX7_read 10 = .ok (.aload_n 0, 1) := by decide +kernel
theorem dX7_read_11 : decode cX7_read 11 = .ok (.iconst 0, 1) := by decide +kernel
theorem dX7_read_12 : decode cX7_read 12 = .ok (.putfield 35, 3) := by decide +kernel
theorem dX7_read_15 : decode cX7_read 15 = .ok (.iconst 0, 1) := by decide +kernel
theorem dX7_read_16 : decode cX7_read 16 = .ok (.istore_n 1, 1) := by decide +kernel
theorem dX7_read_17 : decode cX7_read 17 = .ok (.iload_n 1, 1) := by decide +kernel
theorem dX7_read_18 : decode cX7_read 18 = .ok (.aload_n 0, 1) := by decide +kernel
theorem dX7_read_19 : decode cX7_read 19 = .ok (.getfield 18, 3) := by decide +kernel
theorem dX7_read_22 : decode cX7_read 22 = .ok (.if_icmp .ge 31, 3) := by decide +kernel
theorem dX7_read_25 : decode cX7_read 25 = .ok (.iload_n 1, 1) := by decide +kernel
theorem dX7_read_26 : decode cX7_read 26 = .ok (.sipush 150, 3) := by decide +kernel
theorem dX7_read_29 : decode cX7_read 29 = .ok (.if_icmp .ge 24, 3) := by decide +kernel
theorem dX7_read_32 : decode cX7_read 32 = .ok (.aload_n 0, 1) := by decide +kernel
theorem dX7_read_33 : decode cX7_read 33 = .ok (.aload_n 0, 1) := by decide +kernel
theorem dX7_read_34 : decode cX7_read 34 = .ok (.getfield 9, 3) := by decide +kernel
theorem dX7_read_37 : decode cX7_read 37 = .ok (.iload_n 1, 1) := by decide +kernel
theorem dX7_read_38 : decode cX7_read 38 = .ok (.iaload, 1) := by decide +kernel
theorem dX7_read_39 : decode cX7_read 39 = .ok (.invokevirtual 38, 3) := by decide +kernel
theorem dX7_read_42 : decode cX7_read 42 = .ok (.ifCond .ne 5, 3) := by decide +kernel
theorem dX7_read_45 : decode cX7_read 45 = .ok (.iload_n 1, 1) := by decide +kernel
theorem dX7_read_46 : decode cX7_read 46 = .ok (.ireturn, 1) := by decide +kernel
theorem dX7_read_47 : decode cX7_read 47 = .ok (.iinc 1 1, 3) := by decide +kernel
theorem dX7_read_50 : decode cX7_read 50 = .ok (.goto (-33), 3) := by decide +kernel
theorem dX7_read_53 : decode cX7_read 53 = .ok (.aload_n 0, 1) := by decide +kernel
theorem dX7_read_54 : decode cX7_read 54 = .ok (.getfield 25, 3) := by decide +kernel
theorem dX7_read_57 : decode cX7_read 57 = .ok (.ifCond .ne 10, 3) := by decide +kernel
theorem dX7_read_60 : decode cX7_read 60 = .ok (.aload_n 0, 1) := by decide +kernel
theorem dX7_read_61 : decode cX7_read 61 = .ok (.getfield 22, 3) := by decide +kernel
theorem dX7_read_64 : decode cX7_read 64 = .ok (.ifCond .ne 10, 3) := by decide +kernel
theorem dX7_read_67 : decode cX7_read 67 = .ok (.aload_n 0, 1) := by decide +kernel
theorem dX7_read_68 : decode cX7_read 68 = .ok (.getfield 18, 3) := by decide +kernel
theorem dX7_read_71 : decode cX7_read 71 = .ok (.goto 4, 3) := by decide +kernel
theorem dX7_read_74 : decode cX7_read 74 = .ok (.iconst (-1), 1) := by decide +kernel
theorem dX7_read_75 : decode cX7_read 75 = .ok (.ireturn, 1) := by decide +kernel
theorem dX7_takes_0 : decode cX7_takes 0 = .ok (.iload_n 1, 1) := by decide +kernel
theorem dX7_takes_1 : decode cX7_takes 1 = .ok (.bipush 32, 2) := by decide +kernel
theorem dX7_takes_3 : decode cX7_takes 3 = .ok (.if_icmp .ne 10, 3) := by decide +kernel
theorem dX7_takes_6 : decode cX7_takes 6 = .ok (.aload_n 0, 1) := by decide +kernel
theorem dX7_takes_7 : decode cX7_takes 7 = .ok (.iconst 0, 1) := by decide +kernel
theorem dX7_takes_8 : decode cX7_takes 8 = .ok (.putfield 35, 3) := by decide +kernel
theorem dX7_takes_11 : decode cX7_takes 11 = .ok (.iconst 1, 1) := by decide +kernel
theorem dX7_takes_12 : decode cX7_takes 12 = .ok (.ireturn, 1) := by decide +kernel
theorem dX7_takes_13 : decode cX7_takes 13 = .ok (.aload_n 0, 1) := by decide +kernel
theorem dX7_takes_14 : decode cX7_takes 14 = .ok (.getfield 25, 3) := by decide +kernel
theorem dX7_takes_17 : decode cX7_takes 17 = .ok (.ifCond .ne 9, 3) := by decide +kernel
theorem dX7_takes_20 : decode cX7_takes 20 = .ok (.aload_n 0, 1) := by decide +kernel
theorem dX7_takes_21 : decode cX7_takes 21 = .ok (.iload_n 1, 1) := by decide +kernel
theorem dX7_takes_22 : decode cX7_takes 22 = .ok (.invokevirtual 42, 3) := by decide +kernel
theorem dX7_takes_25 : decode cX7_takes 25 = .ok (.ireturn, 1) := by decide +kernel
theorem dX7_takes_26 : decode cX7_takes 26 = .ok (.iload_n 1, 1) := by decide +kernel
theorem dX7_takes_27 : decode cX7_takes 27 = .ok (.bipush 48, 2) := by decide +kernel
theorem dX7_takes_29 : decode cX7_takes 29 = .ok (.if_icmp .lt 18, 3) := by decide +kernel
theorem dX7_takes_32 : decode cX7_takes 32 = .ok (.iload_n 1, 1) := by decide +kernel
theorem dX7_takes_33 : decode cX7_takes 33 = .ok (.bipush 57, 2) := by decide +kernel
theorem dX7_takes_35 : decode cX7_takes 35 = .ok (.if_icmp .gt 12, 3) := by decide +kernel
theorem dX7_takes_38 : decode cX7_takes 38 = .ok (.aload_n 0, 1) := by decide +kernel
theorem dX7_takes_39 : decode cX7_takes 39 = .ok (.iload_n 1, 1) := by decide +kernel
theorem dX7_takes_40 : decode cX7_takes 40 = .ok (.bipush 48, 2) := by decide +kernel
theorem dX7_takes_42 : decode cX7_takes 42 = .ok (.isub, 1) := by decide +kernel
theorem dX7_takes_43 : decode cX7_takes 43 = .ok (.invokevirtual 45, 3) := by decide +kernel
theorem dX7_takes_46 : decode cX7_takes 46 = .ok (.ireturn, 1) := by decide +kernel
theorem dX7_takes_47 : decode cX7_takes 47 = .ok (.iload_n 1, 1) := by decide +kernel
theorem dX7_takes_48 : decode cX7_takes 48 = .ok (.bipush 59, 2) := by decide +kernel
theorem dX7_takes_50 : decode cX7_takes 50 = .ok (.if_icmp .ne 14, 3) := by decide +kernel
theorem dX7_takes_53 : decode cX7_takes 53 = .ok (.aload_n 0, 1) := by decide +kernel
theorem dX7_takes_54 : decode cX7_takes 54 = .ok (.invokevirtual 48, 3) := by decide +kernel
theorem dX7_takes_57 : decode cX7_takes 57 = .ok (.ifCond .eq 7, 3) := by decide +kernel
theorem dX7_takes_60 : decode cX7_takes 60 = .ok (.iconst 1, 1) := by decide +kernel
theorem dX7_takes_61 : decode cX7_takes 61 = .ok (.goto 4, 3) := by decide +kernel
theorem dX7_takes_64 : decode cX7_takes 64 = .ok (.iconst 0, 1) := by decide +kernel
theorem dX7_takes_65 : decode cX7_takes 65 = .ok (.ireturn, 1) := by decide +kernel
theorem dX7_opens_0 : decode cX7_opens 0 = .ok (.iload_n 1, 1) := by decide +kernel
theorem dX7_opens_1 : decode cX7_opens 1 = .ok (.invokestatic 52, 3) := by decide +kernel
theorem dX7_opens_4 : decode cX7_opens 4 = .ok (.istore_n 2, 1) := by decide +kernel
theorem dX7_opens_5 : decode cX7_opens 5 = .ok (.iload_n 2, 1) := by decide +kernel
theorem dX7_opens_6 : decode cX7_opens 6 = .ok (.iconst (-1), 1) := by decide +kernel
theorem dX7_opens_7 : decode cX7_opens 7 = .ok (.if_icmp .ne 5, 3) := by decide +kernel
theorem dX7_opens_10 : decode cX7_opens 10 = .ok (.iconst 0, 1) := by decide +kernel
theorem dX7_opens_11 : decode cX7_opens 11 = .ok (.ireturn, 1) := by decide +kernel
theorem dX7_opens_12 : decode cX7_opens 12 = .ok (.aload_n 0, 1) := by decide +kernel
theorem dX7_opens_13 : decode cX7_opens 13 = .ok (.iconst 1, 1) := by decide +kernel
theorem dX7_opens_14 : decode cX7_opens 14 = .ok (.putfield 25, 3) := by decide +kernel
theorem dX7_opens_17 : decode cX7_opens 17 = .ok (.aload_n 0, 1) := by decide +kernel
theorem dX7_opens_18 : decode cX7_opens 18 = .ok (.iload_n 2, 1) := by decide +kernel
theorem dX7_opens_19 : decode cX7_opens 19 = .ok (.putfield 29, 3) := by decide +kernel
theorem dX7_opens_22 : decode cX7_opens 22 = .ok (.aload_n 0, 1) := by decide +kernel
theorem dX7_opens_23 : decode cX7_opens 23 = .ok (.iconst 0, 1) := by decide +kernel
theorem dX7_opens_24 : decode cX7_opens 24 = .ok (.putfield 32, 3) := by decide +kernel
theorem dX7_opens_27 : decode cX7_opens 27 = .ok (.aload_n 0, 1) := by decide +kernel
theorem dX7_opens_28 : decode cX7_opens 28 = .ok (.aload_n 0, 1) := by decide +kernel
theorem dX7_opens_29 : decode cX7_opens 29 = .ok (.getfield 22, 3) := by decide +kernel
theorem dX7_opens_32 : decode cX7_opens 32 = .ok (.iconst 0, 1) := by decide +kernel
theorem dX7_opens_33 : decode cX7_opens 33 = .ok (.iload_n 1, 1) := by decide +kernel
theorem dX7_opens_34 : decode cX7_opens 34 = .ok (.invokevirtual 56, 3) := by decide +kernel
theorem dX7_opens_37 : decode cX7_opens 37 = .ok (.iconst 1, 1) := by decide +kernel
theorem dX7_opens_38 : decode cX7_opens 38 = .ok (.ireturn, 1) := by decide +kernel
theorem dX7_numbersOf_0 : decode cX7_numbersOf 0 = .ok (.iload_n 0, 1) := by decide +kernel
theorem dX7_numbersOf_1 : decode cX7_numbersOf 1 = .ok (.tableswitch 99 97 114 #[87, 99, 99, 93, 91, 97, 99, 99, 99, 99, 99, 99, 89, 99, 99, 95, 99, 91], 87) := by decide +kernel
theorem dX7_numbersOf_88 : decode cX7_numbersOf 88 = .ok (.iconst 5, 1) := by decide +kernel
theorem dX7_numbersOf_89 : decode cX7_numbersOf 89 = .ok (.ireturn, 1) := by decide +kernel
theorem dX7_numbersOf_90 : decode cX7_numbersOf 90 = .ok (.iconst 4, 1) := by decide +kernel
theorem dX7_numbersOf_91 : decode cX7_numbersOf 91 = .ok (.ireturn, 1) := by decide +kernel
theorem dX7_numbersOf_92 : decode cX7_numbersOf 92 = .ok (.iconst 3, 1) := by decide +kernel
theorem dX7_numbersOf_93 : decode cX7_numbersOf 93 = .ok (.ireturn, 1) := by decide +kernel
theorem dX7_numbersOf_94 : decode cX7_numbersOf 94 = .ok (.iconst 2, 1) := by decide +kernel
theorem dX7_numbersOf_95 : decode cX7_numbersOf 95 = .ok (.ireturn, 1) := by decide +kernel
theorem dX7_numbersOf_96 : decode cX7_numbersOf 96 = .ok (.iconst 1, 1) := by decide +kernel
theorem dX7_numbersOf_97 : decode cX7_numbersOf 97 = .ok (.ireturn, 1) := by decide +kernel
theorem dX7_numbersOf_98 : decode cX7_numbersOf 98 = .ok (.iconst 0, 1) := by decide +kernel
theorem dX7_numbersOf_99 : decode cX7_numbersOf 99 = .ok (.ireturn, 1) := by decide +kernel
theorem dX7_numbersOf_100 : decode cX7_numbersOf 100 = .ok (.iconst (-1), 1) := by decide +kernel
theorem dX7_numbersOf_101 : decode cX7_numbersOf 101 = .ok (.ireturn, 1) := by decide +kernel
theorem dX7_takesFigure_0 : decode cX7_takesFigure 0 = .ok (.aload_n 0, 1) := by decide +kernel
theorem dX7_takesFigure_1 : decode cX7_takesFigure 1 = .ok (.getfield 35, 3) := by decide +kernel
theorem dX7_takesFigure_4 : decode cX7_takesFigure 4 = .ok (.ifCond .ne 39, 3) := by decide +kernel
theorem dX7_takesFigure_7 : decode cX7_takesFigure 7 = .ok (.aload_n 0, 1) := by decide +kernel
theorem dX7_takesFigure_8 : decode cX7_takesFigure 8 = .ok (.getfield 32, 3) := by decide +kernel
theorem dX7_takesFigure_11 : decode cX7_takesFigure 11 = .ok (.aload_n 0, 1) := by decide +kernel
theorem dX7_takesFigure_12 : decode cX7_takesFigure 12 = .ok (.getfield 29, 3) := by decide +kernel
theorem dX7_takesFigure_15 : decode cX7_takesFigure 15 = .ok (.if_icmp .ne 5, 3) := by decide +kernel
theorem dX7_takesFigure_18 : decode cX7_takesFigure 18 = .ok (.iconst 0, 1) := by decide +kernel
theorem dX7_takesFigure_19 : decode cX7_takesFigure 19 = .ok (.ireturn, 1) := by decide +kernel
theorem dX7_takesFigure_20 : decode cX7_takesFigure 20 = .ok (.aload_n 0, 1) := by decide +kernel
theorem dX7_takesFigure_21 : decode cX7_takesFigure 21 = .ok (.dup, 1) := by decide +kernel
theorem dX7_takesFigure_22 : decode cX7_takesFigure 22 = .ok (.getfield 32, 3) := by decide +kernel
theorem dX7_takesFigure_25 : decode cX7_takesFigure 25 = .ok (.iconst 1, 1) := by decide +kernel
theorem dX7_takesFigure_26 : decode cX7_takesFigure 26 = .ok (.iadd, 1) := by decide +kernel
theorem dX7_takesFigure_27 : decode cX7_takesFigure 27 = .ok (.putfield 32, 3) := by decide +kernel
theorem dX7_takesFigure_30 : decode cX7_takesFigure 30 = .ok (.aload_n 0, 1) := by decide +kernel
theorem dX7_takesFigure_31 : decode cX7_takesFigure 31 = .ok (.aload_n 0, 1) := by decide +kernel
theorem dX7_takesFigure_32 : decode cX7_takesFigure 32 = .ok (.getfield 22, 3) := by decide +kernel
theorem dX7_takesFigure_35 : decode cX7_takesFigure 35 = .ok (.aload_n 0, 1) := by decide +kernel
theorem dX7_takesFigure_36 : decode cX7_takesFigure 36 = .ok (.getfield 32, 3) := by decide +kernel
theorem dX7_takesFigure_39 : decode cX7_takesFigure 39 = .ok (.iconst 0, 1) := by decide +kernel
theorem dX7_takesFigure_40 : decode cX7_takesFigure 40 = .ok (.invokevirtual 56, 3) := by decide +kernel
theorem dX7_takesFigure_43 : decode cX7_takesFigure 43 = .ok (.aload_n 0, 1) := by decide +kernel
theorem dX7_takesFigure_44 : decode cX7_takesFigure 44 = .ok (.getfield 35, 3) := by decide +kernel
theorem dX7_takesFigure_47 : decode cX7_takesFigure 47 = .ok (.iconst 2, 1) := by decide +kernel
theorem dX7_takesFigure_48 : decode cX7_takesFigure 48 = .ok (.if_icmp .ne 5, 3) := by decide +kernel
theorem dX7_takesFigure_51 : decode cX7_takesFigure 51 = .ok (.iconst 0, 1) := by decide +kernel
theorem dX7_takesFigure_52 : decode cX7_takesFigure 52 = .ok (.ireturn, 1) := by decide +kernel
theorem dX7_takesFigure_53 : decode cX7_takesFigure 53 = .ok (.aload_n 0, 1) := by decide +kernel
theorem dX7_takesFigure_54 : decode cX7_takesFigure 54 = .ok (.dup, 1) := by decide +kernel
theorem dX7_takesFigure_55 : decode cX7_takesFigure 55 = .ok (.getfield 35, 3) := by decide +kernel
theorem dX7_takesFigure_58 : decode cX7_takesFigure 58 = .ok (.iconst 1, 1) := by decide +kernel
theorem dX7_takesFigure_59 : decode cX7_takesFigure 59 = .ok (.iadd, 1) := by decide +kernel
theorem dX7_takesFigure_60 : decode cX7_takesFigure 60 = .ok (.putfield 35, 3) := by decide +kernel
theorem dX7_takesFigure_63 : decode cX7_takesFigure 63 = .ok (.aload_n 0, 1) := by decide +kernel
theorem dX7_takesFigure_64 : decode cX7_takesFigure 64 = .ok (.aload_n 0, 1) := by decide +kernel
theorem dX7_takesFigure_65 : decode cX7_takesFigure 65 = .ok (.getfield 22, 3) := by decide +kernel
theorem dX7_takesFigure_68 : decode cX7_takesFigure 68 = .ok (.aload_n 0, 1) := by decide +kernel
theorem dX7_takesFigure_69 : decode cX7_takesFigure 69 = .ok (.getfield 32, 3) := by decide +kernel
theorem dX7_takesFigure_72 : decode cX7_takesFigure 72 = .ok (.bipush 10, 2) := by decide +kernel
theorem dX7_takesFigure_74 : decode cX7_takesFigure 74 = .ok (.aload_n 0, 1) := by decide +kernel
theorem dX7_takesFigure_75 : decode cX7_takesFigure 75 = .ok (.aload_n 0, 1) := by decide +kernel
theorem dX7_takesFigure_76 : decode cX7_takesFigure 76 = .ok (.getfield 22, 3) := by decide +kernel
theorem dX7_takesFigure_79 : decode cX7_takesFigure 79 = .ok (.aload_n 0, 1) := by decide +kernel
theorem dX7_takesFigure_80 : decode cX7_takesFigure 80 = .ok (.getfield 32, 3) := by decide +kernel
theorem dX7_takesFigure_83 : decode cX7_takesFigure 83 = .ok (.invokevirtual 60, 3) := by decide +kernel
theorem dX7_takesFigure_86 : decode cX7_takesFigure 86 = .ok (.imul, 1) := by decide +kernel
theorem dX7_takesFigure_87 : decode cX7_takesFigure 87 = .ok (.iload_n 1, 1) := by decide +kernel
theorem dX7_takesFigure_88 : decode cX7_takesFigure 88 = .ok (.iadd, 1) := by decide +kernel
theorem dX7_takesFigure_89 : decode cX7_takesFigure 89 = .ok (.invokevirtual 56, 3) := by decide +kernel
theorem dX7_takesFigure_92 : decode cX7_takesFigure 92 = .ok (.iconst 1, 1) := by decide +kernel
theorem dX7_takesFigure_93 : decode cX7_takesFigure 93 = .ok (.ireturn, 1) := by decide +kernel
theorem dX7_closes_0 : decode cX7_closes 0 = .ok (.aload_n 0, 1) := by decide +kernel
theorem dX7_closes_1 : decode cX7_closes 1 = .ok (.getfield 32, 3) := by decide +kernel
theorem dX7_closes_4 : decode cX7_closes 4 = .ok (.aload_n 0, 1) := by decide +kernel
theorem dX7_closes_5 : decode cX7_closes 5 = .ok (.getfield 29, 3) := by decide +kernel
theorem dX7_closes_8 : decode cX7_closes 8 = .ok (.if_icmp .eq 5, 3) := by decide +kernel
theorem dX7_closes_11 : decode cX7_closes 11 = .ok (.iconst 0, 1) := by decide +kernel
theorem dX7_closes_12 : decode cX7_closes 12 = .ok (.ireturn, 1) := by decide +kernel
theorem dX7_closes_13 : decode cX7_closes 13 = .ok (.aload_n 0, 1) := by decide +kernel
theorem dX7_closes_14 : decode cX7_closes 14 = .ok (.iconst 0, 1) := by decide +kernel
theorem dX7_closes_15 : decode cX7_closes 15 = .ok (.putfield 25, 3) := by decide +kernel
theorem dX7_closes_18 : decode cX7_closes 18 = .ok (.aload_n 0, 1) := by decide +kernel
theorem dX7_closes_19 : decode cX7_closes 19 = .ok (.iconst 0, 1) := by decide +kernel
theorem dX7_closes_20 : decode cX7_closes 20 = .ok (.putfield 35, 3) := by decide +kernel
theorem dX7_closes_23 : decode cX7_closes 23 = .ok (.aload_n 0, 1) := by decide +kernel
theorem dX7_closes_24 : decode cX7_closes 24 = .ok (.dup, 1) := by decide +kernel
theorem dX7_closes_25 : decode cX7_closes 25 = .ok (.getfield 22, 3) := by decide +kernel
theorem dX7_closes_28 : decode cX7_closes 28 = .ok (.iconst 1, 1) := by decide +kernel
theorem dX7_closes_29 : decode cX7_closes 29 = .ok (.iadd, 1) := by decide +kernel
theorem dX7_closes_30 : decode cX7_closes 30 = .ok (.putfield 22, 3) := by decide +kernel
theorem dX7_closes_33 : decode cX7_closes 33 = .ok (.iconst 1, 1) := by decide +kernel
theorem dX7_closes_34 : decode cX7_closes 34 = .ok (.ireturn, 1) := by decide +kernel
theorem dX7_put_0 : decode cX7_put 0 = .ok (.iload_n 1, 1) := by decide +kernel
theorem dX7_put_1 : decode cX7_put 1 = .ok (.iload_n 2, 1) := by decide +kernel
theorem dX7_put_2 : decode cX7_put 2 = .ok (.invokestatic 64, 3) := by decide +kernel
theorem dX7_put_5 : decode cX7_put 5 = .ok (.ifCond .eq 15, 3) := by decide +kernel
theorem dX7_put_8 : decode cX7_put 8 = .ok (.aload_n 0, 1) := by decide +kernel
theorem dX7_put_9 : decode cX7_put 9 = .ok (.getfield 15, 3) := by decide +kernel
theorem dX7_put_12 : decode cX7_put 12 = .ok (.iload_n 1, 1) := by decide +kernel
theorem dX7_put_13 : decode cX7_put 13 = .ok (.bipush 6, 2) := by decide +kernel
theorem dX7_put_15 : decode cX7_put 15 = .ok (.imul, 1) := by decide +kernel
theorem dX7_put_16 : decode cX7_put 16 = .ok (.iload_n 2, 1) := by decide +kernel
theorem dX7_put_17 : decode cX7_put 17 = .ok (.iadd, 1) := by decide +kernel
theorem dX7_put_18 : decode cX7_put 18 = .ok (.iload_n 3, 1) := by decide +kernel
theorem dX7_put_19 : decode cX7_put 19 = .ok (.iastore, 1) := by decide +kernel
theorem dX7_put_20 : decode cX7_put 20 = .ok (.return_, 1) := by decide +kernel
theorem dX7_cell_0 : decode cX7_cell 0 = .ok (.iload_n 1, 1) := by decide +kernel
theorem dX7_cell_1 : decode cX7_cell 1 = .ok (.iload_n 2, 1) := by decide +kernel
theorem dX7_cell_2 : decode cX7_cell 2 = .ok (.invokestatic 64, 3) := by decide +kernel
theorem dX7_cell_5 : decode cX7_cell 5 = .ok (.ifCond .eq 17, 3) := by decide +kernel
theorem dX7_cell_8 : decode cX7_cell 8 = .ok (.aload_n 0, 1) := by decide +kernel
theorem dX7_cell_9 : decode cX7_cell 9 = .ok (.getfield 15, 3) := by decide +kernel
theorem dX7_cell_12 : decode cX7_cell 12 = .ok (.iload_n 1, 1) := by decide +kernel
theorem dX7_cell_13 : decode cX7_cell 13 = .ok (.bipush 6, 2) := by decide +kernel
theorem dX7_cell_15 : decode cX7_cell 15 = .ok (.imul, 1) := by decide +kernel
theorem dX7_cell_16 : decode cX7_cell 16 = .ok (.iload_n 2, 1) := by decide +kernel
theorem dX7_cell_17 : decode cX7_cell 17 = .ok (.iadd, 1) := by decide +kernel
theorem dX7_cell_18 : decode cX7_cell 18 = .ok (.iaload, 1) := by decide +kernel
theorem dX7_cell_19 : decode cX7_cell 19 = .ok (.goto 4, 3) := by decide +kernel
theorem dX7_cell_22 : decode cX7_cell 22 = .ok (.iconst (-1), 1) := by decide +kernel
theorem dX7_cell_23 : decode cX7_cell 23 = .ok (.ireturn, 1) := by decide +kernel
theorem dX7_isCell_0 : decode cX7_isCell 0 = .ok (.iload_n 0, 1) := by decide +kernel
theorem dX7_isCell_1 : decode cX7_isCell 1 = .ok (.ifCond .lt 23, 3) := by decide +kernel
theorem dX7_isCell_4 : decode cX7_isCell 4 = .ok (.iload_n 0, 1) := by decide +kernel
theorem dX7_isCell_5 : decode cX7_isCell 5 = .ok (.bipush 75, 2) := by decide +kernel
theorem dX7_isCell_7 : decode cX7_isCell 7 = .ok (.if_icmp .ge 17, 3) := by decide +kernel
theorem dX7_isCell_10 : decode cX7_isCell 10 = .ok (.iload_n 1, 1) := by decide +kernel
theorem dX7_isCell_11 : decode cX7_isCell 11 = .ok (.ifCond .lt 13, 3) := by decide +kernel
theorem dX7_isCell_14 : decode cX7_isCell 14 = .ok (.iload_n 1, 1) := by decide +kernel
theorem dX7_isCell_15 : decode cX7_isCell 15 = .ok (.bipush 6, 2) := by decide +kernel
theorem dX7_isCell_17 : decode cX7_isCell 17 = .ok (.if_icmp .ge 7, 3) := by decide +kernel
theorem dX7_isCell_20 : decode cX7_isCell 20 = .ok (.iconst 1, 1) := by decide +kernel
theorem dX7_isCell_21 : decode cX7_isCell 21 = .ok (.goto 4, 3) := by decide +kernel
theorem dX7_isCell_24 : decode cX7_isCell 24 = .ok (.iconst 0, 1) := by decide +kernel
theorem dX7_isCell_25 : decode cX7_isCell 25 = .ok (.ireturn, 1) := by decide +kernel
theorem dX8_init_0 : decode cX8_init 0 = .ok (.aload_n 0, 1) := by decide +kernel
theorem dX8_init_1 : decode cX8_init 1 = .ok (.invokespecial 3, 3) := by decide +kernel
theorem dX8_init_4 : decode cX8_init 4 = .ok (.aload_n 0, 1) := by decide +kernel
theorem dX8_init_5 : decode cX8_init 5 = .ok (.new 9, 3) := by decide +kernel
theorem dX8_init_8 : decode cX8_init 8 = .ok (.dup, 1) := by decide +kernel
theorem dX8_init_9 : decode cX8_init 9 = .ok (.invokespecial 11, 3) := by decide +kernel
theorem dX8_init_12 : decode cX8_init 12 = .ok (.putfield 12, 3) := by decide +kernel
theorem dX8_init_15 : decode cX8_init 15 = .ok (.aload_n 0, 1) := by decide +kernel
theorem dX8_init_16 : decode cX8_init 16 = .ok (.new 9, 3) := by decide +kernel
theorem dX8_init_19 : decode cX8_init 19 = .ok (.dup, 1) := by decide +kernel
theorem dX8_init_20 : decode cX8_init 20 = .ok (.invokespecial 11, 3) := by decide +kernel
theorem dX8_init_23 : decode cX8_init 23 = .ok (.putfield 16, 3) := by decide +kernel
theorem dX8_init_26 : decode cX8_init 26 = .ok (.aload_n 0, 1) := by decide +kernel
theorem dX8_init_27 : decode cX8_init 27 = .ok (.new 19, 3) := by decide +kernel
theorem dX8_init_30 : decode cX8_init 30 = .ok (.dup, 1) := by decide +kernel
theorem dX8_init_31 : decode cX8_init 31 = .ok (.invokespecial 21, 3) := by decide +kernel
theorem dX8_init_34 : decode cX8_init 34 = .ok (.putfield 22, 3) := by decide +kernel
theorem dX8_init_37 : decode cX8_init 37 = .ok (.aload_n 0, 1) := by decide +kernel
theorem dX8_init_38 : decode cX8_init 38 = .ok (.new 26, 3) := by decide +kernel
theorem dX8_init_41 : decode cX8_init 41 = .ok (.dup, 1) := by decide +kernel
theorem dX8_init_42 : decode cX8_init 42 = .ok (.invokespecial 28, 3) := by decide +kernel
theorem dX8_init_45 : decode cX8_init 45 = .ok (.putfield 29, 3) := by decide +kernel
theorem dX8_init_48 : decode cX8_init 48 = .ok (.aload_n 0, 1) := by decide +kernel
theorem dX8_init_49 : decode cX8_init 49 = .ok (.new 33, 3) := by decide +kernel
theorem dX8_init_52 : decode cX8_init 52 = .ok (.dup, 1) := by decide +kernel
theorem dX8_init_53 : decode cX8_init 53 = .ok (.invokespecial 35, 3) := by decide +kernel
theorem dX8_init_56 : decode cX8_init 56 = .ok (.putfield 36, 3) := by decide +kernel
theorem dX8_init_59 : decode cX8_init 59 = .ok (.aload_n 0, 1) := by decide +kernel
theorem dX8_init_60 : decode cX8_init 60 = .ok (.new 40, 3) := by decide +kernel
theorem dX8_init_63 : decode cX8_init 63 = .ok (.dup, 1) := by decide +kernel
theorem dX8_init_64 : decode cX8_init 64 = .ok (.invokespecial 42, 3) := by decide +kernel
theorem dX8_init_67 : decode cX8_init 67 = .ok (.putfield 43, 3) := by decide +kernel
theorem dX8_init_70 : decode cX8_init 70 = .ok (.aload_n 0, 1) := by decide +kernel
theorem dX8_init_71 : decode cX8_init 71 = .ok (.new 47, 3) := by decide +kernel
theorem dX8_init_74 : decode cX8_init 74 = .ok (.dup, 1) := by decide +kernel
theorem dX8_init_75 : decode cX8_init 75 = .ok (.invokespecial 49, 3) := by decide +kernel
theorem dX8_init_78 : decode cX8_init 78 = .ok (.putfield 50, 3) := by decide +kernel
theorem dX8_init_81 : decode cX8_init 81 = .ok (.aload_n 0, 1) := by decide +kernel
theorem dX8_init_82 : decode cX8_init 82 = .ok (.iconst 0, 1) := by decide +kernel
theorem dX8_init_83 : decode cX8_init 83 = .ok (.putfield 54, 3) := by decide +kernel
theorem dX8_init_86 : decode cX8_init 86 = .ok (.aload_n 0, 1) := by decide +kernel
theorem dX8_init_87 : decode cX8_init 87 = .ok (.iconst 0, 1) := by decide +kernel
theorem dX8_init_88 : decode cX8_init 88 = .ok (.putfield 58, 3) := by decide +kernel
theorem dX8_init_91 : decode cX8_init 91 = .ok (.aload_n 0, 1) := by decide +kernel
theorem dX8_init_92 : decode cX8_init 92 = .ok (.iconst 0, 1) := by decide +kernel
theorem dX8_init_93 : decode cX8_init 93 = .ok (.putfield 61, 3) := by decide +kernel
theorem dX8_init_96 : decode cX8_init 96 = .ok (.return_, 1) := by decide +kernel
theorem dX8_adds_0 : decode cX8_adds 0 = .ok (.aload_n 0, 1) := by decide +kernel
theorem dX8_adds_1 : decode cX8_adds 1 = .ok (.getfield 16, 3) := by decide +kernel
theorem dX8_adds_4 : decode cX8_adds 4 = .ok (.aload_n 0, 1) := by decide +kernel
theorem dX8_adds_5 : decode cX8_adds 5 = .ok (.getfield 12, 3) := by decide +kernel
theorem dX8_adds_8 : decode cX8_adds 8 = .ok (.invokevirtual 64, 3) := by decide +kernel
theorem dX8_adds_11 : decode cX8_adds 11 = .ok (.aload_n 0, 1) := by decide +kernel
theorem dX8_adds_12 : decode cX8_adds 12 = .ok (.aload_n 0, 1) := by decide +kernel
theorem dX8_adds_13 : decode cX8_adds 13 = .ok (.getfield 12, 3) := by decide +kernel
theorem dX8_adds_16 : decode cX8_adds 16 = .ok (.iload_n 1, 1) := by decide +kernel
theorem dX8_adds_17 : decode cX8_adds 17 = .ok (.iload_n 2, 1) := by decide +kernel
theorem dX8_adds_18 : decode cX8_adds 18 = .ok (.iload_n 3, 1) := by decide +kernel
theorem dX8_adds_19 : decode cX8_adds 19 = .ok (.iload 4, 2) := by decide +kernel
theorem dX8_adds_21 : decode cX8_adds 21 = .ok (.iload 5, 2) := by decide +kernel
theorem dX8_adds_23 : decode cX8_adds 23 = .ok (.invokevirtual 68, 3) := by decide +kernel
theorem dX8_adds_26 : decode cX8_adds 26 = .ok (.invokevirtual 72, 3) := by decide +kernel
theorem dX8_adds_29 : decode cX8_adds 29 = .ok (.ireturn, 1) := by decide +kernel
theorem dX8_moves_0 : decode cX8_moves 0 = .ok (.aload_n 0, 1) := by decide +kernel
theorem dX8_moves_1 : decode cX8_moves 1 = .ok (.getfield 16, 3) := by decide +kernel
theorem dX8_moves_4 : decode cX8_moves 4 = .ok (.aload_n 0, 1) := by decide +kernel
theorem dX8_moves_5 : decode cX8_moves 5 = .ok (.getfield 12, 3) := by decide +kernel
theorem dX8_moves_8 : decode cX8_moves 8 = .ok (.invokevirtual 64, 3) := by decide +kernel
theorem dX8_moves_11 : decode cX8_moves 11 = .ok (.aload_n 0, 1) := by decide +kernel
theorem dX8_moves_12 : decode cX8_moves 12 = .ok (.aload_n 0, 1) := by decide +kernel
theorem dX8_moves_13 : decode cX8_moves 13 = .ok (.getfield 12, 3) := by decide +kernel
theorem dX8_moves_16 : decode cX8_moves 16 = .ok (.iload_n 1, 1) := by decide +kernel
theorem dX8_moves_17 : decode cX8_moves 17 = .ok (.iload_n 2, 1) := by decide +kernel
theorem dX8_moves_18 : decode cX8_moves 18 = .ok (.iload_n 3, 1) := by decide +kernel
theorem dX8_moves_19 : decode cX8_moves 19 = .ok (.iload 4, 2) := by decide +kernel
theorem dX8_moves_21 : decode cX8_moves 21 = .ok (.invokevirtual 76, 3) := by decide +kernel
theorem dX8_moves_24 : decode cX8_moves 24 = .ok (.invokevirtual 72, 3) := by decide +kernel
theorem dX8_moves_27 : decode cX8_moves 27 = .ok (.ireturn, 1) := by decide +kernel
theorem dX8_renames_0 : decode cX8_renames 0 = .ok (.aload_n 0, 1) := by decide +kernel
theorem dX8_renames_1 : decode cX8_renames 1 = .ok (.getfield 16, 3) := by decide +kernel
theorem dX8_renames_4 : decode cX8_renames 4 = .ok (.aload_n 0, 1) := by decide +kernel
theorem dX8_renames_5 : decode cX8_renames 5 = .ok (.getfield 12, 3) := by decide +kernel
theorem dX8_renames_8 : decode cX8_renames 8 = .ok (.invokevirtual 64, 3) := by decide +kernel
theorem dX8_renames_11 : decode cX8_renames 11 = .ok (.aload_n 0, 1) := by decide +kernel
theorem dX8_renames_12 : decode cX8_renames 12 = .ok (.aload_n 0, 1) := by decide +kernel
theorem dX8_renames_13 : decode cX8_renames 13 = .ok (.getfield 12, 3) := by decide +kernel
theorem dX8_renames_16 : decode cX8_renames 16 = .ok (.iload_n 1, 1) := by decide +kernel
theorem dX8_renames_17 : decode cX8_renames 17 = .ok (.iload_n 2, 1) := by decide +kernel
theorem dX8_renames_18 : decode cX8_renames 18 = .ok (.iconst 2, 1) := by decide +kernel
theorem dX8_renames_19 : decode cX8_renames 19 = .ok (.iload_n 3, 1) := by decide +kernel
theorem dX8_renames_20 : decode cX8_renames 20 = .ok (.invokevirtual 80, 3) := by decide +kernel
theorem dX8_renames_23 : decode cX8_renames 23 = .ok (.invokevirtual 72, 3) := by decide +kernel
theorem dX8_renames_26 : decode cX8_renames 26 = .ok (.ireturn, 1) := by decide +kernel
theorem dX8_edits_0 : decode cX8_edits 0 = .ok (.aload_n 0, 1) := by decide +kernel
theorem dX8_edits_1 : decode cX8_edits 1 = .ok (.getfield 16, 3) := by decide +kernel
theorem dX8_edits_4 : decode cX8_edits 4 = .ok (.aload_n 0, 1) := by decide +kernel
theorem dX8_edits_5 : decode cX8_edits 5 = .ok (.getfield 12, 3) := by decide +kernel
theorem dX8_edits_8 : decode cX8_edits 8 = .ok (.invokevirtual 64, 3) := by decide +kernel
theorem dX8_edits_11 : decode cX8_edits 11 = .ok (.aload_n 0, 1) := by decide +kernel
theorem dX8_edits_12 : decode cX8_edits 12 = .ok (.aload_n 0, 1) := by decide +kernel
theorem dX8_edits_13 : decode cX8_edits 13 = .ok (.getfield 12, 3) := by decide +kernel
theorem dX8_edits_16 : decode cX8_edits 16 = .ok (.iload_n 1, 1) := by decide +kernel
theorem dX8_edits_17 : decode cX8_edits 17 = .ok (.iload_n 2, 1) := by decide +kernel
theorem dX8_edits_18 : decode cX8_edits 18 = .ok (.iconst 3, 1) := by decide +kernel
theorem dX8_edits_19 : decode cX8_edits 19 = .ok (.iload_n 3, 1) := by decide +kernel
theorem dX8_edits_20 : decode cX8_edits 20 = .ok (.invokevirtual 80, 3) := by decide +kernel
theorem dX8_edits_23 : decode cX8_edits 23 = .ok (.invokevirtual 72, 3) := by decide +kernel
theorem dX8_edits_26 : decode cX8_edits 26 = .ok (.ireturn, 1) := by decide +kernel
theorem dX8_deletes_0 : decode cX8_deletes 0 = .ok (.aload_n 0, 1) := by decide +kernel
theorem dX8_deletes_1 : decode cX8_deletes 1 = .ok (.getfield 16, 3) := by decide +kernel
theorem dX8_deletes_4 : decode cX8_deletes 4 = .ok (.aload_n 0, 1) := by decide +kernel
theorem dX8_deletes_5 : decode cX8_deletes 5 = .ok (.getfield 12, 3) := by decide +kernel
theorem dX8_deletes_8 : decode cX8_deletes 8 = .ok (.invokevirtual 64, 3) := by decide +kernel
theorem dX8_deletes_11 : decode cX8_deletes 11 = .ok (.aload_n 0, 1) := by decide +kernel
theorem dX8_deletes_12 : decode cX8_deletes 12 = .ok (.aload_n 0, 1) := by decide +kernel
theorem dX8_deletes_13 : decode cX8_deletes 13 = .ok (.getfield 12, 3) := by decide +kernel
theorem dX8_deletes_16 : decode cX8_deletes 16 = .ok (.iload_n 1, 1) := by decide +kernel
theorem dX8_deletes_17 : decode cX8_deletes 17 = .ok (.iload_n 2, 1) := by decide +kernel
theorem dX8_deletes_18 : decode cX8_deletes 18 = .ok (.invokevirtual 83, 3) := by decide +kernel
theorem dX8_deletes_21 : decode cX8_deletes 21 = .ok (.invokevirtual 72, 3) := by decide +kernel
theorem dX8_deletes_24 : decode cX8_deletes 24 = .ok (.ireturn, 1) := by decide +kernel
theorem dX8_forks_0 : decode cX8_forks 0 = .ok (.aload_n 0, 1) := by decide +kernel
theorem dX8_forks_1 : decode cX8_forks 1 = .ok (.getfield 16, 3) := by decide +kernel
theorem dX8_forks_4 : decode cX8_forks 4 = .ok (.aload_n 0, 1) := by decide +kernel
theorem dX8_forks_5 : decode cX8_forks 5 = .ok (.getfield 12, 3) := by decide +kernel
theorem dX8_forks_8 : decode cX8_forks 8 = .ok (.invokevirtual 64, 3) := by decide +kernel
theorem dX8_forks_11 : decode cX8_forks 11 = .ok (.aload_n 0, 1) := by decide +kernel
theorem dX8_forks_12 : decode cX8_forks 12 = .ok (.aload_n 0, 1) := by decide +kernel
theorem dX8_forks_13 : decode cX8_forks 13 = .ok (.getfield 12, 3) := by decide +kernel
theorem dX8_forks_16 : decode cX8_forks 16 = .ok (.invokevirtual 87, 3) := by decide +kernel
theorem dX8_forks_19 : decode cX8_forks 19 = .ok (.invokevirtual 72, 3) := by decide +kernel
theorem dX8_forks_22 : decode cX8_forks 22 = .ok (.ireturn, 1) := by decide +kernel
theorem dX8_prefers_0 : decode cX8_prefers 0 = .ok (.aload_n 0, 1) := by decide +kernel
theorem dX8_prefers_1 : decode cX8_prefers 1 = .ok (.getfield 16, 3) := by decide +kernel
theorem dX8_prefers_4 : decode cX8_prefers 4 = .ok (.aload_n 0, 1) := by decide +kernel
theorem dX8_prefers_5 : decode cX8_prefers 5 = .ok (.getfield 12, 3) := by decide +kernel
theorem dX8_prefers_8 : decode cX8_prefers 8 = .ok (.invokevirtual 64, 3) := by decide +kernel
theorem dX8_prefers_11 : decode cX8_prefers 11 = .ok (.aload_n 0, 1) := by decide +kernel
theorem dX8_prefers_12 : decode cX8_prefers 12 = .ok (.aload_n 0, 1) := by decide +kernel
theorem dX8_prefers_13 : decode cX8_prefers 13 = .ok (.getfield 12, 3) := by decide +kernel
theorem dX8_prefers_16 : decode cX8_prefers 16 = .ok (.iload_n 1, 1) := by decide +kernel
theorem dX8_prefers_17 : decode cX8_prefers 17 = .ok (.invokevirtual 91, 3) := by decide +kernel
theorem dX8_prefers_20 : decode cX8_prefers 20 = .ok (.invokevirtual 72, 3) := by decide +kernel
theorem dX8_prefers_23 : decode cX8_prefers 23 = .ok (.ireturn, 1) := by decide +kernel
theorem dX8_adopts_0 : decode cX8_adopts 0 = .ok (.aload_n 0, 1) := by decide +kernel
theorem dX8_adopts_1 : decode cX8_adopts 1 = .ok (.getfield 16, 3) := by decide +kernel
theorem dX8_adopts_4 : decode cX8_adopts 4 = .ok (.aload_n 0, 1) := by decide +kernel
theorem dX8_adopts_5 : decode cX8_adopts 5 = .ok (.getfield 12, 3) := by decide +kernel
theorem dX8_adopts_8 : decode cX8_adopts 8 = .ok (.invokevirtual 64, 3) := by decide +kernel
theorem dX8_adopts_11 : decode cX8_adopts 11 = .ok (.aload_n 0, 1) := by decide +kernel
theorem dX8_adopts_12 : decode cX8_adopts 12 = .ok (.aload_n 0, 1) := by decide +kernel
theorem dX8_adopts_13 : decode cX8_adopts 13 = .ok (.getfield 12, 3) := by decide +kernel
theorem dX8_adopts_16 : decode cX8_adopts 16 = .ok (.aload_n 0, 1) := by decide +kernel
theorem dX8_adopts_17 : decode cX8_adopts 17 = .ok (.iconst 3, 1) := by decide +kernel
theorem dX8_adopts_18 : decode cX8_adopts 18 = .ok (.invokevirtual 94, 3) := by decide +kernel
theorem dX8_adopts_21 : decode cX8_adopts 21 = .ok (.invokevirtual 98, 3) := by decide +kernel
theorem dX8_adopts_24 : decode cX8_adopts 24 = .ok (.invokevirtual 72, 3) := by decide +kernel
theorem dX8_adopts_27 : decode cX8_adopts 27 = .ok (.ireturn, 1) := by decide +kernel
theorem dX8_has_0 : decode cX8_has 0 = .ok (.iload_n 1, 1) := by decide +kernel
theorem dX8_has_1 : decode cX8_has 1 = .ok (.invokestatic 102, 3) := by decide +kernel
theorem dX8_has_4 : decode cX8_has 4 = .ok (.ifCond .eq 10, 3) := by decide +kernel
theorem dX8_has_7 : decode cX8_has 7 = .ok (.iload_n 2, 1) := by decide +kernel
theorem dX8_has_8 : decode cX8_has 8 = .ok (.invokestatic 106, 3) := by decide +kernel
theorem dX8_has_11 : decode cX8_has 11 = .ok (.ifCond .ne 10, 3) := by decide +kernel
theorem dX8_has_14 : decode cX8_has 14 = .ok (.aload_n 0, 1) := by decide +kernel
theorem dX8_has_15 : decode cX8_has 15 = .ok (.bipush (-2), 2) := by decide +kernel
theorem dX8_has_17 : decode cX8_has 17 = .ok (.invokevirtual 109, 3) := by decide +kernel
theorem dX8_has_20 : decode cX8_has 20 = .ok (.ireturn, 1) := by decide +kernel
theorem dX8_has_21 : decode cX8_has 21 = .ok (.aload_n 0, 1) := by decide +kernel
theorem dX8_has_22 : decode cX8_has 22 = .ok (.iload_n 1, 1) := by decide +kernel
theorem dX8_has_23 : decode cX8_has 23 = .ok (.invokevirtual 94, 3) := by decide +kernel
theorem dX8_has_26 : decode cX8_has 26 = .ok (.iload_n 2, 1) := by decide +kernel
theorem dX8_has_27 : decode cX8_has 27 = .ok (.invokevirtual 112, 3) := by decide +kernel
theorem dX8_has_30 : decode cX8_has 30 = .ok (.ifCond .eq 7, 3) := by decide +kernel
theorem dX8_has_33 : decode cX8_has 33 = .ok (.iconst 1, 1) := by decide +kernel
theorem dX8_has_34 : decode cX8_has 34 = .ok (.goto 4, 3) := by decide +kernel
theorem dX8_has_37 : decode cX8_has 37 = .ok (.iconst 0, 1) := by decide +kernel
theorem dX8_has_38 : decode cX8_has 38 = .ok (.ireturn, 1) := by decide +kernel
theorem dX8_of_0 : decode cX8_of 0 = .ok (.iload_n 1, 1) := by decide +kernel
theorem dX8_of_1 : decode cX8_of 1 = .ok (.invokestatic 102, 3) := by decide +kernel
theorem dX8_of_4 : decode cX8_of 4 = .ok (.ifCond .eq 12, 3) := by decide +kernel
theorem dX8_of_7 : decode cX8_of 7 = .ok (.iload_n 3, 1) := by decide +kernel
theorem dX8_of_8 : decode cX8_of 8 = .ok (.ifCond .lt 8, 3) := by decide +kernel
theorem dX8_of_11 : decode cX8_of 11 = .ok (.iload_n 3, 1) := by decide +kernel
theorem dX8_of_12 : decode cX8_of 12 = .ok (.iconst 5, 1) := by decide +kernel
theorem dX8_of_13 : decode cX8_of 13 = .ok (.if_icmp .le 10, 3) := by decide +kernel
theorem dX8_of_16 : decode cX8_of 16 = .ok (.aload_n 0, 1) := by decide +kernel
theorem dX8_of_17 : decode cX8_of 17 = .ok (.bipush (-2), 2) := by decide +kernel
theorem dX8_of_19 : decode cX8_of 19 = .ok (.invokevirtual 109, 3) := by decide +kernel
theorem dX8_of_22 : decode cX8_of 22 = .ok (.ireturn, 1) := by decide +kernel
theorem dX8_of_23 : decode cX8_of 23 = .ok (.aload_n 0, 1) := by decide +kernel
theorem dX8_of_24 : decode cX8_of 24 = .ok (.iload_n 1, 1) := by decide +kernel
theorem dX8_of_25 : decode cX8_of 25 = .ok (.invokevirtual 94, 3) := by decide +kernel
theorem dX8_of_28 : decode cX8_of 28 = .ok (.astore 4, 2) := by decide +kernel
theorem dX8_of_30 : decode cX8_of 30 = .ok (.aload 4, 2) := by decide +kernel
theorem dX8_of_32 : decode cX8_of 32 = .ok (.iload_n 2, 1) := by decide +kernel
theorem dX8_of_33 : decode cX8_of 33 = .ok (.invokevirtual 112, 3) := by decide +kernel
theorem dX8_of_36 : decode cX8_of 36 = .ok (.ifCond .ne 10, 3) := by decide +kernel
theorem dX8_of_39 : decode cX8_of 39 = .ok (.aload_n 0, 1) := by decide +kernel
theorem dX8_of_40 : decode cX8_of 40 = .ok (.bipush (-2), 2) := by decide +kernel
theorem dX8_of_42 : decode cX8_of 42 = .ok (.invokevirtual 109, 3) := by decide +kernel
theorem dX8_of_45 : decode cX8_of 45 = .ok (.ireturn, 1) := by decide +kernel
theorem dX8_of_46 : decode cX8_of 46 = .ok (.iload_n 3, 1) := by decide +kernel
theorem dX8_of_47 : decode cX8_of 47 = .ok (.iconst 4, 1) := by decide +kernel
theorem dX8_of_48 : decode cX8_of 48 = .ok (.if_icmp .ne 10, 3) := by decide +kernel
theorem dX8_of_51 : decode cX8_of 51 = .ok (.aload 4, 2) := by decide +kernel
theorem dX8_of_53 : decode cX8_of 53 = .ok (.iload_n 2, 1) := by decide +kernel
theorem dX8_of_54 : decode cX8_of 54 = .ok (.invokevirtual 117, 3) := by decide +kernel
theorem dX8_of_57 : decode cX8_of 57 = .ok (.ireturn, 1) := by decide +kernel
theorem dX8_of_58 : decode cX8_of 58 = .ok (.iload_n 3, 1) := by decide +kernel
theorem dX8_of_59 : decode cX8_of 59 = .ok (.iconst 5, 1) := by decide +kernel
theorem dX8_of_60 : decode cX8_of 60 = .ok (.if_icmp .ne 12, 3) := by decide +kernel
theorem dX8_of_63 : decode cX8_of 63 = .ok (.aload 4, 2) := by decide +kernel
theorem dX8_of_65 : decode cX8_of 65 = .ok (.iload_n 2, 1) := by decide +kernel
theorem dX8_of_66 : decode cX8_of 66 = .ok (.invokevirtual 120, 3) := by decide +kernel
theorem dX8_of_69 : decode cX8_of 69 = .ok (.goto 10, 3) := by decide +kernel
theorem dX8_of_72 : decode cX8_of 72 = .ok (.aload 4, 2) := by decide +kernel
theorem dX8_of_74 : decode cX8_of 74 = .ok (.iload_n 2, 1) := by decide +kernel
theorem dX8_of_75 : decode cX8_of 75 = .ok (.iload_n 3, 1) := by decide +kernel
theorem dX8_of_76 : decode cX8_of 76 = .ok (.invokevirtual 123, 3) := by decide +kernel
theorem dX8_of_79 : decode cX8_of 79 = .ok (.ireturn, 1) := by decide +kernel
theorem dX8_walk_0 : decode cX8_walk 0 = .ok (.iload_n 1, 1) := by decide +kernel
theorem dX8_walk_1 : decode cX8_walk 1 = .ok (.invokestatic 102, 3) := by decide +kernel
theorem dX8_walk_4 : decode cX8_walk 4 = .ok (.ifCond .eq 7, 3) := by decide +kernel
theorem dX8_walk_7 : decode cX8_walk 7 = .ok (.iload_n 2, 1) := by decide +kernel
theorem dX8_walk_8 : decode cX8_walk 8 = .ok (.ifCond .ge 10, 3) := by decide +kernel
theorem dX8_walk_11 : decode cX8_walk 11 = .ok (.aload_n 0, 1) := by decide +kernel
theorem dX8_walk_12 : decode cX8_walk 12 = .ok (.bipush (-2), 2) := by decide +kernel
theorem dX8_walk_14 : decode cX8_walk 14 = .ok (.invokevirtual 109, 3) := by decide +kernel
theorem dX8_walk_17 : decode cX8_walk 17 = .ok (.ireturn, 1) := by decide +kernel
theorem dX8_walk_18 : decode cX8_walk 18 = .ok (.aload_n 0, 1) := by decide +kernel
theorem dX8_walk_19 : decode cX8_walk 19 = .ok (.iload_n 1, 1) := by decide +kernel
theorem dX8_walk_20 : decode cX8_walk 20 = .ok (.invokevirtual 94, 3) := by decide +kernel
theorem dX8_walk_23 : decode cX8_walk 23 = .ok (.astore_n 3, 1) := by decide +kernel
theorem dX8_walk_24 : decode cX8_walk 24 = .ok (.iload_n 2, 1) := by decide +kernel
theorem dX8_walk_25 : decode cX8_walk 25 = .ok (.bipush 16, 2) := by decide +kernel
theorem dX8_walk_27 : decode cX8_walk 27 = .ok (.if_icmp .ge 7, 3) := by decide +kernel
theorem dX8_walk_30 : decode cX8_walk 30 = .ok (.iconst 0, 1) := by decide +kernel
theorem dX8_walk_31 : decode cX8_walk 31 = .ok (.goto 4, 3) := by decide +kernel
theorem dX8_walk_34 : decode cX8_walk 34 = .ok (.iconst (-1), 1) := by decide +kernel
theorem dX8_walk_35 : decode cX8_walk 35 = .ok (.istore 4, 2) := by decide +kernel
theorem dX8_walk_37 : decode cX8_walk 37 = .ok (.iconst 0, 1) := by decide +kernel
theorem dX8_walk_38 : decode cX8_walk 38 = .ok (.istore 5, 2) := by decide +kernel
theorem dX8_walk_40 : decode cX8_walk 40 = .ok (.iload 5, 2) := by decide +kernel
theorem dX8_walk_42 : decode cX8_walk 42 = .ok (.iload_n 2, 1) := by decide +kernel
theorem dX8_walk_43 : decode cX8_walk 43 = .ok (.if_icmp .ge 24, 3) := by decide +kernel
theorem dX8_walk_46 : decode cX8_walk 46 = .ok (.iload 5, 2) := by decide +kernel
theorem dX8_walk_48 : decode cX8_walk 48 = .ok (.bipush 16, 2) := by decide +kernel
theorem dX8_walk_50 : decode cX8_walk 50 = .ok (.if_icmp .ge 17, 3) := by decide +kernel
theorem dX8_walk_53 : decode cX8_walk 53 = .ok (.aload_n 3, 1) := by decide +kernel
theorem dX8_walk_54 : decode cX8_walk 54 = .ok (.iload 4, 2) := by decide +kernel
theorem dX8_walk_56 : decode cX8_walk 56 = .ok (.invokevirtual 126, 3) := by decide +kernel
theorem dX8_walk_59 : decode cX8_walk 59 = .ok (.istore 4, 2) := by decide +kernel
theorem dX8_walk_61 : decode cX8_walk 61 = .ok (.iinc 5 1, 3) := by decide +kernel
theorem dX8_walk_64 : decode cX8_walk 64 = .ok (.goto (-24), 3) := by decide +kernel
theorem dX8_walk_67 : decode cX8_walk 67 = .ok (.iload 4, 2) := by decide +kernel
theorem dX8_walk_69 : decode cX8_walk 69 = .ok (.ireturn, 1) := by decide +kernel
theorem dX8_size_0 : decode cX8_size 0 = .ok (.iload_n 1, 1) := by decide +kernel
theorem dX8_size_1 : decode cX8_size 1 = .ok (.invokestatic 102, 3) := by decide +kernel
theorem dX8_size_4 : decode cX8_size 4 = .ok (.ifCond .eq 12, 3) := by decide +kernel
theorem dX8_size_7 : decode cX8_size 7 = .ok (.iload_n 2, 1) := by decide +kernel
theorem dX8_size_8 : decode cX8_size 8 = .ok (.ifCond .lt 8, 3) := by decide +kernel
theorem dX8_size_11 : decode cX8_size 11 = .ok (.iload_n 2, 1) := by decide +kernel
theorem dX8_size_12 : decode cX8_size 12 = .ok (.iconst 1, 1) := by decide +kernel
theorem dX8_size_13 : decode cX8_size 13 = .ok (.if_icmp .le 10, 3) := by decide +kernel
theorem dX8_size_16 : decode cX8_size 16 = .ok (.aload_n 0, 1) := by decide +kernel
theorem dX8_size_17 : decode cX8_size 17 = .ok (.bipush (-2), 2) := by decide +kernel
theorem dX8_size_19 : decode cX8_size 19 = .ok (.invokevirtual 109, 3) := by decide +kernel
theorem dX8_size_22 : decode cX8_size 22 = .ok (.ireturn, 1) := by decide +kernel
theorem dX8_size_23 : decode cX8_size 23 = .ok (.iload_n 2, 1) := by decide +kernel
theorem dX8_size_24 : decode cX8_size 24 = .ok (.ifCond .ne 14, 3) := by decide +kernel
theorem dX8_size_27 : decode cX8_size 27 = .ok (.aload_n 0, 1) := by decide +kernel
theorem dX8_size_28 : decode cX8_size 28 = .ok (.iload_n 1, 1) := by decide +kernel
theorem dX8_size_29 : decode cX8_size 29 = .ok (.invokevirtual 94, 3) := by decide +kernel
theorem dX8_size_32 : decode cX8_size 32 = .ok (.invokevirtual 129, 3) := by decide +kernel
theorem dX8_size_35 : decode cX8_size 35 = .ok (.goto 11, 3) := by decide +kernel
theorem dX8_size_38 : decode cX8_size 38 = .ok (.aload_n 0, 1) := by decide +kernel
theorem dX8_size_39 : decode cX8_size 39 = .ok (.iload_n 1, 1) := by decide +kernel
theorem dX8_size_40 : decode cX8_size 40 = .ok (.invokevirtual 94, 3) := by decide +kernel
theorem dX8_size_43 : decode cX8_size 43 = .ok (.invokevirtual 132, 3) := by decide +kernel
theorem dX8_size_46 : decode cX8_size 46 = .ok (.ireturn, 1) := by decide +kernel
theorem dX8_alike_0 : decode cX8_alike 0 = .ok (.iload_n 1, 1) := by decide +kernel
theorem dX8_alike_1 : decode cX8_alike 1 = .ok (.invokestatic 102, 3) := by decide +kernel
theorem dX8_alike_4 : decode cX8_alike 4 = .ok (.ifCond .eq 10, 3) := by decide +kernel
theorem dX8_alike_7 : decode cX8_alike 7 = .ok (.iload_n 2, 1) := by decide +kernel
theorem dX8_alike_8 : decode cX8_alike 8 = .ok (.invokestatic 102, 3) := by decide +kernel
theorem dX8_alike_11 : decode cX8_alike 11 = .ok (.ifCond .ne 10, 3) := by decide +kernel
theorem dX8_alike_14 : decode cX8_alike 14 = .ok (.aload_n 0, 1) := by decide +kernel
theorem dX8_alike_15 : decode cX8_alike 15 = .ok (.bipush (-2), 2) := by decide +kernel
theorem dX8_alike_17 : decode cX8_alike 17 = .ok (.invokevirtual 109, 3) := by decide +kernel
theorem dX8_alike_20 : decode cX8_alike 20 = .ok (.ireturn, 1) := by decide +kernel
theorem dX8_alike_21 : decode cX8_alike 21 = .ok (.aload_n 0, 1) := by decide +kernel
theorem dX8_alike_22 : decode cX8_alike 22 = .ok (.iload_n 1, 1) := by decide +kernel
theorem dX8_alike_23 : decode cX8_alike 23 = .ok (.invokevirtual 94, 3) := by decide +kernel
theorem dX8_alike_26 : decode cX8_alike 26 = .ok (.aload_n 0, 1) := by decide +kernel
theorem dX8_alike_27 : decode cX8_alike 27 = .ok (.iload_n 2, 1) := by decide +kernel
theorem dX8_alike_28 : decode cX8_alike 28 = .ok (.invokevirtual 94, 3) := by decide +kernel
theorem dX8_alike_31 : decode cX8_alike 31 = .ok (.invokevirtual 135, 3) := by decide +kernel
theorem dX8_alike_34 : decode cX8_alike 34 = .ok (.ireturn, 1) := by decide +kernel
theorem dX8_conflicts_0 : decode cX8_conflicts 0 = .ok (.iload_n 1, 1) := by decide +kernel
theorem dX8_conflicts_1 : decode cX8_conflicts 1 = .ok (.iload_n 2, 1) := by decide +kernel
theorem dX8_conflicts_2 : decode cX8_conflicts 2 = .ok (.iconst 3, 1) := by decide +kernel
theorem dX8_conflicts_3 : decode cX8_conflicts 3 = .ok (.invokestatic 138, 3) := by decide +kernel
theorem dX8_conflicts_6 : decode cX8_conflicts 6 = .ok (.ifCond .ne 10, 3) := by decide +kernel
theorem dX8_conflicts_9 : decode cX8_conflicts 9 = .ok (.aload_n 0, 1) := by decide +kernel
theorem dX8_conflicts_10 : decode cX8_conflicts 10 = .ok (.bipush (-2), 2) := by decide +kernel
theorem dX8_conflicts_12 : decode cX8_conflicts 12 = .ok (.invokevirtual 109, 3) := by decide +kernel
theorem dX8_conflicts_15 : decode cX8_conflicts 15 = .ok (.ireturn, 1) := by decide +kernel
theorem dX8_conflicts_16 : decode cX8_conflicts 16 = .ok (.aload_n 0, 1) := by decide +kernel
theorem dX8_conflicts_17 : decode cX8_conflicts 17 = .ok (.getfield 29, 3) := by decide +kernel
theorem dX8_conflicts_20 : decode cX8_conflicts 20 = .ok (.aload_n 0, 1) := by decide +kernel
theorem dX8_conflicts_21 : decode cX8_conflicts 21 = .ok (.getfield 12, 3) := by decide +kernel
theorem dX8_conflicts_24 : decode cX8_conflicts 24 = .ok (.invokevirtual 142, 3) := by decide +kernel
theorem dX8_conflicts_27 : decode cX8_conflicts 27 = .ok (.aload_n 0, 1) := by decide +kernel
theorem dX8_conflicts_28 : decode cX8_conflicts 28 = .ok (.getfield 29, 3) := by decide +kernel
theorem dX8_conflicts_31 : decode cX8_conflicts 31 = .ok (.getfield 145, 3) := by decide +kernel
theorem dX8_conflicts_34 : decode cX8_conflicts 34 = .ok (.iload_n 1, 1) := by decide +kernel
theorem dX8_conflicts_35 : decode cX8_conflicts 35 = .ok (.iload_n 2, 1) := by decide +kernel
theorem dX8_conflicts_36 : decode cX8_conflicts 36 = .ok (.invokevirtual 149, 3) := by decide +kernel
theorem dX8_conflicts_39 : decode cX8_conflicts 39 = .ok (.ireturn, 1) := by decide +kernel
theorem dX8_script_0 : decode cX8_script 0 = .ok (.iload_n 1, 1) := by decide +kernel
theorem dX8_script_1 : decode cX8_script 1 = .ok (.invokestatic 154, 3) := by decide +kernel
theorem dX8_script_4 : decode cX8_script 4 = .ok (.ifCond .eq 12, 3) := by decide +kernel
theorem dX8_script_7 : decode cX8_script 7 = .ok (.iload_n 2, 1) := by decide +kernel
theorem dX8_script_8 : decode cX8_script 8 = .ok (.iload_n 3, 1) := by decide +kernel
theorem dX8_script_9 : decode cX8_script 9 = .ok (.iconst 2, 1) := by decide +kernel
theorem dX8_script_10 : decode cX8_script 10 = .ok (.invokestatic 138, 3) := by decide +kernel
theorem dX8_script_13 : decode cX8_script 13 = .ok (.ifCond .ne 10, 3) := by decide +kernel
theorem dX8_script_16 : decode cX8_script 16 = .ok (.aload_n 0, 1) := by decide +kernel
theorem dX8_script_17 : decode cX8_script 17 = .ok (.bipush (-2), 2) := by decide +kernel
theorem dX8_script_19 : decode cX8_script 19 = .ok (.invokevirtual 109, 3) := by decide +kernel
theorem dX8_script_22 : decode cX8_script 22 = .ok (.ireturn, 1) := by decide +kernel
theorem dX8_script_23 : decode cX8_script 23 = .ok (.aload_n 0, 1) := by decide +kernel
theorem dX8_script_24 : decode cX8_script 24 = .ok (.getfield 36, 3) := by decide +kernel
theorem dX8_script_27 : decode cX8_script 27 = .ok (.aload_n 0, 1) := by decide +kernel
theorem dX8_script_28 : decode cX8_script 28 = .ok (.getfield 12, 3) := by decide +kernel
theorem dX8_script_31 : decode cX8_script 31 = .ok (.iconst 0, 1) := by decide +kernel
theorem dX8_script_32 : decode cX8_script 32 = .ok (.invokevirtual 157, 3) := by decide +kernel
theorem dX8_script_35 : decode cX8_script 35 = .ok (.aload_n 0, 1) := by decide +kernel
theorem dX8_script_36 : decode cX8_script 36 = .ok (.getfield 12, 3) := by decide +kernel
theorem dX8_script_39 : decode cX8_script 39 = .ok (.iload_n 1, 1) := by decide +kernel
theorem dX8_script_40 : decode cX8_script 40 = .ok (.invokevirtual 157, 3) := by decide +kernel
theorem dX8_script_43 : decode cX8_script 43 = .ok (.invokevirtual 158, 3) := by decide +kernel
theorem dX8_script_46 : decode cX8_script 46 = .ok (.aload_n 0, 1) := by decide +kernel
theorem dX8_script_47 : decode cX8_script 47 = .ok (.getfield 36, 3) := by decide +kernel
theorem dX8_script_50 : decode cX8_script 50 = .ok (.getfield 162, 3) := by decide +kernel
theorem dX8_script_53 : decode cX8_script 53 = .ok (.iload_n 2, 1) := by decide +kernel
theorem dX8_script_54 : decode cX8_script 54 = .ok (.iload_n 3, 1) := by decide +kernel
theorem dX8_script_55 : decode cX8_script 55 = .ok (.invokevirtual 149, 3) := by decide +kernel
theorem dX8_script_58 : decode cX8_script 58 = .ok (.ireturn, 1) := by decide +kernel
theorem dX8_matches_0 : decode cX8_matches 0 = .ok (.iload_n 1, 1) := by decide +kernel
theorem dX8_matches_1 : decode cX8_matches 1 = .ok (.invokestatic 154, 3) := by decide +kernel
theorem dX8_matches_4 : decode cX8_matches 4 = .ok (.ifCond .eq 22, 3) := by decide +kernel
theorem dX8_matches_7 : decode cX8_matches 7 = .ok (.iload_n 2, 1) := by decide +kernel
theorem dX8_matches_8 : decode cX8_matches 8 = .ok (.ifCond .eq 18, 3) := by decide +kernel
theorem dX8_matches_11 : decode cX8_matches 11 = .ok (.aload_n 0, 1) := by decide +kernel
theorem dX8_matches_12 : decode cX8_matches 12 = .ok (.getfield 12, 3) := by decide +kernel
theorem dX8_matches_15 : decode cX8_matches 15 = .ok (.iload_n 1, 1) := by decide +kernel
theorem dX8_matches_16 : decode cX8_matches 16 = .ok (.invokevirtual 157, 3) := by decide +kernel
theorem dX8_matches_19 : decode cX8_matches 19 = .ok (.iload_n 2, 1) := by decide +kernel
theorem dX8_matches_20 : decode cX8_matches 20 = .ok (.invokevirtual 112, 3) := by decide +kernel
theorem dX8_matches_23 : decode cX8_matches 23 = .ok (.ifCond .ne 10, 3) := by decide +kernel
theorem dX8_matches_26 : decode cX8_matches 26 = .ok (.aload_n 0, 1) := by decide +kernel
theorem dX8_matches_27 : decode cX8_matches 27 = .ok (.bipush (-2), 2) := by decide +kernel
theorem dX8_matches_29 : decode cX8_matches 29 = .ok (.invokevirtual 109, 3) := by decide +kernel
theorem dX8_matches_32 : decode cX8_matches 32 = .ok (.ireturn, 1) := by decide +kernel
theorem dX8_matches_33 : decode cX8_matches 33 = .ok (.aload_n 0, 1) := by decide +kernel
theorem dX8_matches_34 : decode cX8_matches 34 = .ok (.getfield 43, 3) := by decide +kernel
theorem dX8_matches_37 : decode cX8_matches 37 = .ok (.aload_n 0, 1) := by decide +kernel
theorem dX8_matches_38 : decode cX8_matches 38 = .ok (.getfield 12, 3) := by decide +kernel
theorem dX8_matches_41 : decode cX8_matches 41 = .ok (.iconst 0, 1) := by decide +kernel
theorem dX8_matches_42 : decode cX8_matches 42 = .ok (.invokevirtual 157, 3) := by decide +kernel
theorem dX8_matches_45 : decode cX8_matches 45 = .ok (.aload_n 0, 1) := by decide +kernel
theorem dX8_matches_46 : decode cX8_matches 46 = .ok (.getfield 12, 3) := by decide +kernel
theorem dX8_matches_49 : decode cX8_matches 49 = .ok (.iload_n 1, 1) := by decide +kernel
theorem dX8_matches_50 : decode cX8_matches 50 = .ok (.invokevirtual 157, 3) := by decide +kernel
theorem dX8_matches_53 : decode cX8_matches 53 = .ok (.invokevirtual 165, 3) := by decide +kernel
theorem dX8_matches_56 : decode cX8_matches 56 = .ok (.aload_n 0, 1) := by decide +kernel
theorem dX8_matches_57 : decode cX8_matches 57 = .ok (.getfield 43, 3) := by decide +kernel
theorem dX8_matches_60 : decode cX8_matches 60 = .ok (.iload_n 2, 1) := by decide +kernel
theorem dX8_matches_61 : decode cX8_matches 61 = .ok (.invokevirtual 168, 3) := by decide +kernel
theorem dX8_matches_64 : decode cX8_matches 64 = .ok (.ireturn, 1) := by decide +kernel
theorem dX8_told_0 : decode cX8_told 0 = .ok (.iload_n 1, 1) := by decide +kernel
theorem dX8_told_1 : decode cX8_told 1 = .ok (.ifCond .lt 8, 3) := by decide +kernel
theorem dX8_told_4 : decode cX8_told 4 = .ok (.iload_n 1, 1) := by decide +kernel
theorem dX8_told_5 : decode cX8_told 5 = .ok (.iconst 3, 1) := by decide +kernel
theorem dX8_told_6 : decode cX8_told 6 = .ok (.if_icmp .le 10, 3) := by decide +kernel
theorem dX8_told_9 : decode cX8_told 9 = .ok (.aload_n 0, 1) := by decide +kernel
theorem dX8_told_10 : decode cX8_told 10 = .ok (.bipush (-2), 2) := by decide +kernel
theorem dX8_told_12 : decode cX8_told 12 = .ok (.invokevirtual 109, 3) := by decide +kernel
theorem dX8_told_15 : decode cX8_told 15 = .ok (.ireturn, 1) := by decide +kernel
theorem dX8_told_16 : decode cX8_told 16 = .ok (.aload_n 0, 1) := by decide +kernel
theorem dX8_told_17 : decode cX8_told 17 = .ok (.iload_n 1, 1) := by decide +kernel
theorem dX8_told_18 : decode cX8_told 18 = .ok (.invokevirtual 171, 3) := by decide +kernel
theorem dX8_told_21 : decode cX8_told 21 = .ok (.ireturn, 1) := by decide +kernel
theorem dX8_type_0 : decode cX8_type 0 = .ok (.iload_n 1, 1) := by decide +kernel
theorem dX8_type_1 : decode cX8_type 1 = .ok (.ifCond .lt 10, 3) := by decide +kernel
theorem dX8_type_4 : decode cX8_type 4 = .ok (.iload_n 1, 1) := by decide +kernel
theorem dX8_type_5 : decode cX8_type 5 = .ok (.sipush 128, 3) := by decide +kernel
theorem dX8_type_8 : decode cX8_type 8 = .ok (.if_icmp .lt 10, 3) := by decide +kernel
theorem dX8_type_11 : decode cX8_type 11 = .ok (.aload_n 0, 1) := by decide +kernel
theorem dX8_type_12 : decode cX8_type 12 = .ok (.bipush (-2), 2) := by decide +kernel
theorem dX8_type_14 : decode cX8_type 14 = .ok (.invokevirtual 109, 3) := by decide +kernel
theorem dX8_type_17 : decode cX8_type 17 = .ok (.ireturn, 1) := by decide +kernel
theorem dX8_type_18 : decode cX8_type 18 = .ok (.aload_n 0, 1) := by decide +kernel
theorem dX8_type_19 : decode cX8_type 19 = .ok (.getfield 50, 3) := by decide +kernel
theorem dX8_type_22 : decode cX8_type 22 = .ok (.iload_n 1, 1) := by decide +kernel
theorem dX8_type_23 : decode cX8_type 23 = .ok (.invokevirtual 174, 3) := by decide +kernel
theorem dX8_type_26 : decode cX8_type 26 = .ok (.ifCond .eq 13, 3) := by decide +kernel
theorem dX8_type_29 : decode cX8_type 29 = .ok (.aload_n 0, 1) := by decide +kernel
theorem dX8_type_30 : decode cX8_type 30 = .ok (.getfield 50, 3) := by decide +kernel
theorem dX8_type_33 : decode cX8_type 33 = .ok (.getfield 177, 3) := by decide +kernel
theorem dX8_type_36 : decode cX8_type 36 = .ok (.goto 9, 3) := by decide +kernel
theorem dX8_type_39 : decode cX8_type 39 = .ok (.aload_n 0, 1) := by decide +kernel
theorem dX8_type_40 : decode cX8_type 40 = .ok (.bipush (-4), 2) := by decide +kernel
theorem dX8_type_42 : decode cX8_type 42 = .ok (.invokevirtual 109, 3) := by decide +kernel
theorem dX8_type_45 : decode cX8_type 45 = .ok (.ireturn, 1) := by decide +kernel
theorem dX8_clear_0 : decode cX8_clear 0 = .ok (.aload_n 0, 1) := by decide +kernel
theorem dX8_clear_1 : decode cX8_clear 1 = .ok (.getfield 50, 3) := by decide +kernel
theorem dX8_clear_4 : decode cX8_clear 4 = .ok (.invokevirtual 180, 3) := by decide +kernel
theorem dX8_clear_7 : decode cX8_clear 7 = .ok (.ireturn, 1) := by decide +kernel
theorem dX8_does_0 : decode cX8_does 0 = .ok (.aload_n 0, 1) := by decide +kernel
theorem dX8_does_1 : decode cX8_does 1 = .ok (.getfield 50, 3) := by decide +kernel
theorem dX8_does_4 : decode cX8_does 4 = .ok (.invokevirtual 183, 3) := by decide +kernel
theorem dX8_does_7 : decode cX8_does 7 = .ok (.istore_n 1, 1) := by decide +kernel
theorem dX8_does_8 : decode cX8_does 8 = .ok (.iload_n 1, 1) := by decide +kernel
theorem dX8_does_9 : decode cX8_does 9 = .ok (.iconst (-1), 1) := by decide +kernel
theorem dX8_does_10 : decode cX8_does 10 = .ok (.if_icmp .eq 8, 3) := by decide +kernel
theorem dX8_does_13 : decode cX8_does 13 = .ok (.bipush (-10), 2) := by decide +kernel
theorem dX8_does_15 : decode cX8_does 15 = .ok (.iload_n 1, 1) := by decide +kernel
theorem dX8_does_16 : decode cX8_does 16 = .ok (.isub, 1) := by decide +kernel
theorem dX8_does_17 : decode cX8_does 17 = .ok (.ireturn, 1) := by decide +kernel
theorem dX8_does_18 : decode cX8_does 18 = .ok (.aload_n 0, 1) := by decide +kernel
theorem dX8_does_19 : decode cX8_does 19 = .ok (.getfield 16, 3) := by decide +kernel
theorem dX8_does_22 : decode cX8_does 22 = .ok (.aload_n 0, 1) := by decide +kernel
theorem dX8_does_23 : decode cX8_does 23 = .ok (.getfield 12, 3) := by decide +kernel
theorem dX8_does_26 : decode cX8_does 26 = .ok (.invokevirtual 64, 3) := by decide +kernel
theorem dX8_does_29 : decode cX8_does 29 = .ok (.iconst 0, 1) := by decide +kernel
theorem dX8_does_30 : decode cX8_does 30 = .ok (.istore_n 2, 1) := by decide +kernel
theorem dX8_does_31 : decode cX8_does 31 = .ok (.iload_n 2, 1) := by decide +kernel
theorem dX8_does_32 : decode cX8_does 32 = .ok (.aload_n 0, 1) := by decide +kernel
theorem dX8_does_33 : decode cX8_does 33 = .ok (.getfield 50, 3) := by decide +kernel
theorem dX8_does_36 : decode cX8_does 36 = .ok (.getfield 186, 3) := by decide +kernel
theorem dX8_does_39 : decode cX8_does 39 = .ok (.if_icmp .ge 40, 3) := by decide +kernel
theorem dX8_does_42 : decode cX8_does 42 = .ok (.iload_n 2, 1) := by decide +kernel
theorem dX8_does_43 : decode cX8_does 43 = .ok (.bipush 75, 2) := by decide +kernel
theorem dX8_does_45 : decode cX8_does 45 = .ok (.if_icmp .ge 34, 3) := by decide +kernel
theorem dX8_does_48 : decode cX8_does 48 = .ok (.aload_n 0, 1) := by decide +kernel
theorem dX8_does_49 : decode cX8_does 49 = .ok (.iload_n 2, 1) := by decide +kernel
theorem dX8_does_50 : decode cX8_does 50 = .ok (.invokevirtual 189, 3) := by decide +kernel
theorem dX8_does_53 : decode cX8_does 53 = .ok (.ifCond .ge 20, 3) := by decide +kernel
theorem dX8_does_56 : decode cX8_does 56 = .ok (.aload_n 0, 1) := by decide +kernel
theorem dX8_does_57 : decode cX8_does 57 = .ok (.getfield 12, 3) := by decide +kernel
theorem dX8_does_60 : decode cX8_does 60 = .ok (.aload_n 0, 1) := by decide +kernel
theorem dX8_does_61 : decode cX8_does 61 = .ok (.getfield 16, 3) := by decide +kernel
theorem dX8_does_64 : decode cX8_does 64 = .ok (.invokevirtual 64, 3) := by decide +kernel
theorem dX8_does_67 : decode cX8_does 67 = .ok (.sipush (-1000), 3) := by decide +kernel
theorem dX8_does_70 : decode cX8_does 70 = .ok (.iload_n 2, 1) := by decide +kernel
theorem dX8_does_71 : decode cX8_does 71 = .ok (.isub, 1) := by decide +kernel
theorem dX8_does_72 : decode cX8_does 72 = .ok (.ireturn, 1) := by decide +kernel
theorem dX8_does_73 : decode cX8_does 73 = .ok (.iinc 2 1, 3) := by decide +kernel
theorem dX8_does_76 : decode cX8_does 76 = .ok (.goto (-45), 3) := by decide +kernel
theorem dX8_does_79 : decode cX8_does 79 = .ok (.aload_n 0, 1) := by decide +kernel
theorem dX8_does_80 : decode cX8_does 80 = .ok (.aload_n 0, 1) := by decide +kernel
theorem dX8_does_81 : decode cX8_does 81 = .ok (.getfield 50, 3) := by decide +kernel
theorem dX8_does_84 : decode cX8_does 84 = .ok (.getfield 186, 3) := by decide +kernel
theorem dX8_does_87 : decode cX8_does 87 = .ok (.invokevirtual 72, 3) := by decide +kernel
theorem dX8_does_90 : decode cX8_does 90 = .ok (.ireturn, 1) := by decide +kernel
theorem dX8_back_0 : decode cX8_back 0 = .ok (.aload_n 0, 1) := by decide +kernel
theorem dX8_back_1 : decode cX8_back 1 = .ok (.getfield 22, 3) := by decide +kernel
theorem dX8_back_4 : decode cX8_back 4 = .ok (.getfield 192, 3) := by decide +kernel
theorem dX8_back_7 : decode cX8_back 7 = .ok (.ifCond .ne 10, 3) := by decide +kernel
theorem dX8_back_10 : decode cX8_back 10 = .ok (.aload_n 0, 1) := by decide +kernel
theorem dX8_back_11 : decode cX8_back 11 = .ok (.bipush (-3), 2) := by decide +kernel
theorem dX8_back_13 : decode cX8_back 13 = .ok (.invokevirtual 109, 3) := by decide +kernel
theorem dX8_back_16 : decode cX8_back 16 = .ok (.ireturn, 1) := by decide +kernel
theorem dX8_back_17 : decode cX8_back 17 = .ok (.aload_n 0, 1) := by decide +kernel
theorem dX8_back_18 : decode cX8_back 18 = .ok (.getfield 22, 3) := by decide +kernel
theorem dX8_back_21 : decode cX8_back 21 = .ok (.aload_n 0, 1) := by decide +kernel
theorem dX8_back_22 : decode cX8_back 22 = .ok (.getfield 12, 3) := by decide +kernel
theorem dX8_back_25 : decode cX8_back 25 = .ok (.invokevirtual 194, 3) := by decide +kernel
theorem dX8_back_28 : decode cX8_back 28 = .ok (.aload_n 0, 1) := by decide +kernel
theorem dX8_back_29 : decode cX8_back 29 = .ok (.getfield 29, 3) := by decide +kernel
theorem dX8_back_32 : decode cX8_back 32 = .ok (.iconst 1, 1) := by decide +kernel
theorem dX8_back_33 : decode cX8_back 33 = .ok (.putfield 197, 3) := by decide +kernel
theorem dX8_back_36 : decode cX8_back 36 = .ok (.aload_n 0, 1) := by decide +kernel
theorem dX8_back_37 : decode cX8_back 37 = .ok (.getfield 22, 3) := by decide +kernel
theorem dX8_back_40 : decode cX8_back 40 = .ok (.getfield 192, 3) := by decide +kernel
theorem dX8_back_43 : decode cX8_back 43 = .ok (.ireturn, 1) := by decide +kernel
theorem dX8_refused_0 : decode cX8_refused 0 = .ok (.iload_n 1, 1) := by decide +kernel
theorem dX8_refused_1 : decode cX8_refused 1 = .ok (.ifCond .lt 8, 3) := by decide +kernel
theorem dX8_refused_4 : decode cX8_refused 4 = .ok (.iload_n 1, 1) := by decide +kernel
theorem dX8_refused_5 : decode cX8_refused 5 = .ok (.iconst 4, 1) := by decide +kernel
theorem dX8_refused_6 : decode cX8_refused 6 = .ok (.if_icmp .le 10, 3) := by decide +kernel
theorem dX8_refused_9 : decode cX8_refused 9 = .ok (.aload_n 0, 1) := by decide +kernel
theorem dX8_refused_10 : decode cX8_refused 10 = .ok (.bipush (-2), 2) := by decide +kernel
theorem dX8_refused_12 : decode cX8_refused 12 = .ok (.invokevirtual 109, 3) := by decide +kernel
theorem dX8_refused_15 : decode cX8_refused 15 = .ok (.ireturn, 1) := by decide +kernel
theorem dX8_refused_16 : decode cX8_refused 16 = .ok (.aload_n 0, 1) := by decide +kernel
theorem dX8_refused_17 : decode cX8_refused 17 = .ok (.iload_n 1, 1) := by decide +kernel
theorem dX8_refused_18 : decode cX8_refused 18 = .ok (.invokevirtual 201, 3) := by decide +kernel
theorem dX8_refused_21 : decode cX8_refused 21 = .ok (.ireturn, 1) := by decide +kernel
theorem dX8_digest_0 : decode cX8_digest 0 = .ok (.ldc2_w 204, 3) := by decide +kernel
theorem dX8_digest_3 : decode cX8_digest 3 = .ok (.lstore_n 1, 1) := by decide +kernel
theorem dX8_digest_4 : decode cX8_digest 4 = .ok (.iconst 0, 1) := by decide +kernel
theorem dX8_digest_5 : decode cX8_digest 5 = .ok (.istore_n 3, 1) := by decide +kernel
theorem dX8_digest_6 : decode cX8_digest 6 = .ok (.iload_n 3, 1) := by decide +kernel
theorem dX8_digest_7 : decode cX8_digest 7 = .ok (.iconst 4, 1) := by decide +kernel
theorem dX8_digest_8 : decode cX8_digest 8 = .ok (.if_icmp .gt 19, 3) := by decide +kernel
theorem dX8_digest_11 : decode cX8_digest 11 = .ok (.lload_n 1, 1) := by decide +kernel
theorem dX8_digest_12 : decode cX8_digest 12 = .ok (.aload_n 0, 1) := by decide +kernel
theorem dX8_digest_13 : decode cX8_digest 13 = .ok (.iload_n 3, 1) := by decide +kernel
theorem dX8_digest_14 : decode cX8_digest 14 = .ok (.invokevirtual 201, 3) := by decide +kernel
theorem dX8_digest_17 : decode cX8_digest 17 = .ok (.invokestatic 206, 3) := by decide +kernel
theorem dX8_digest_20 : decode cX8_digest 20 = .ok (.lstore_n 1, 1) := by decide +kernel
theorem dX8_digest_21 : decode cX8_digest 21 = .ok (.iinc 3 1, 3) := by decide +kernel
theorem dX8_digest_24 : decode cX8_digest 24 = .ok (.goto (-18), 3) := by decide +kernel
theorem dX8_digest_27 : decode cX8_digest 27 = .ok (.iconst 0, 1) := by decide +kernel
theorem dX8_digest_28 : decode cX8_digest 28 = .ok (.istore_n 3, 1) := by decide +kernel
theorem dX8_digest_29 : decode cX8_digest 29 = .ok (.iload_n 3, 1) := by decide +kernel
theorem dX8_digest_30 : decode cX8_digest 30 = .ok (.iconst 3, 1) := by decide +kernel
theorem dX8_digest_31 : decode cX8_digest 31 = .ok (.if_icmp .gt 19, 3) := by decide +kernel
theorem dX8_digest_34 : decode cX8_digest 34 = .ok (.lload_n 1, 1) := by decide +kernel
theorem dX8_digest_35 : decode cX8_digest 35 = .ok (.aload_n 0, 1) := by decide +kernel
theorem dX8_digest_36 : decode cX8_digest 36 = .ok (.iload_n 3, 1) := by decide +kernel
theorem dX8_digest_37 : decode cX8_digest 37 = .ok (.invokevirtual 171, 3) := by decide +kernel
theorem dX8_digest_40 : decode cX8_digest 40 = .ok (.invokestatic 206, 3) := by decide +kernel
theorem dX8_digest_43 : decode cX8_digest 43 = .ok (.lstore_n 1, 1) := by decide +kernel
theorem dX8_digest_44 : decode cX8_digest 44 = .ok (.iinc 3 1, 3) := by decide +kernel
theorem dX8_digest_47 : decode cX8_digest 47 = .ok (.goto (-18), 3) := by decide +kernel
theorem dX8_digest_50 : decode cX8_digest 50 = .ok (.iconst 0, 1) := by decide +kernel
theorem dX8_digest_51 : decode cX8_digest 51 = .ok (.istore_n 3, 1) := by decide +kernel
theorem dX8_digest_52 : decode cX8_digest 52 = .ok (.iload_n 3, 1) := by decide +kernel
theorem dX8_digest_53 : decode cX8_digest 53 = .ok (.iconst 3, 1) := by decide +kernel
theorem dX8_digest_54 : decode cX8_digest 54 = .ok (.if_icmp .gt 19, 3) := by decide +kernel
theorem dX8_digest_57 : decode cX8_digest 57 = .ok (.lload_n 1, 1) := by decide +kernel
theorem dX8_digest_58 : decode cX8_digest 58 = .ok (.aload_n 0, 1) := by decide +kernel
theorem dX8_digest_59 : decode cX8_digest 59 = .ok (.iload_n 3, 1) := by decide +kernel
theorem dX8_digest_60 : decode cX8_digest 60 = .ok (.invokevirtual 94, 3) := by decide +kernel
theorem dX8_digest_63 : decode cX8_digest 63 = .ok (.invokestatic 210, 3) := by decide +kernel
theorem dX8_digest_66 : decode cX8_digest 66 = .ok (.lstore_n 1, 1) := by decide +kernel
theorem dX8_digest_67 : decode cX8_digest 67 = .ok (.iinc 3 1, 3) := by decide +kernel
theorem dX8_digest_70 : decode cX8_digest 70 = .ok (.goto (-18), 3) := by decide +kernel
theorem dX8_digest_73 : decode cX8_digest 73 = .ok (.lload_n 1, 1) := by decide +kernel
theorem dX8_digest_74 : decode cX8_digest 74 = .ok (.aload_n 0, 1) := by decide +kernel
theorem dX8_digest_75 : decode cX8_digest 75 = .ok (.getfield 29, 3) := by decide +kernel
theorem dX8_digest_78 : decode cX8_digest 78 = .ok (.getfield 145, 3) := by decide +kernel
theorem dX8_digest_81 : decode cX8_digest 81 = .ok (.invokestatic 214, 3) := by decide +kernel
theorem dX8_digest_84 : decode cX8_digest 84 = .ok (.lstore_n 1, 1) := by decide +kernel
theorem dX8_digest_85 : decode cX8_digest 85 = .ok (.iconst 1, 1) := by decide +kernel
theorem dX8_digest_86 : decode cX8_digest 86 = .ok (.istore_n 3, 1) := by decide +kernel
theorem dX8_digest_87 : decode cX8_digest 87 = .ok (.iload_n 3, 1) := by decide +kernel
theorem dX8_digest_88 : decode cX8_digest 88 = .ok (.iconst 2, 1) := by decide +kernel
theorem dX8_digest_89 : decode cX8_digest 89 = .ok (.if_icmp .gt 47, 3) := by decide +kernel
theorem dX8_digest_92 : decode cX8_digest 92 = .ok (.aload_n 0, 1) := by decide +kernel
theorem dX8_digest_93 : decode cX8_digest 93 = .ok (.getfield 36, 3) := by decide +kernel
theorem dX8_digest_96 : decode cX8_digest 96 = .ok (.aload_n 0, 1) := by decide +kernel
theorem dX8_digest_97 : decode cX8_digest 97 = .ok (.getfield 12, 3) := by decide +kernel
theorem dX8_digest_100 : decode cX8_digest 100 = .ok (.iconst 0, 1) := by decide +kernel
theorem dX8_digest_101 : decode cX8_digest 101 = .ok (.invokevirtual 157, 3) := by decide +kernel
theorem dX8_digest_104 : decode cX8_digest 104 = .ok (.aload_n 0, 1) := by decide +kernel
theorem dX8_digest_105 : decode cX8_digest 105 = .ok (.getfield 12, 3) := by decide +kernel
theorem dX8_digest_108 : decode cX8_digest 108 = .ok (.iload_n 3, 1) := by decide +kernel
theorem dX8_digest_109 : decode cX8_digest 109 = .ok (.invokevirtual 157, 3) := by decide +kernel
theorem dX8_digest_112 : decode cX8_digest 112 = .ok (.invokevirtual 158, 3) := by decide +kernel
theorem dX8_digest_115 : decode cX8_digest 115 = .ok (.lload_n 1, 1) := by decide +kernel
theorem dX8_digest_116 : decode cX8_digest 116 = .ok (.aload_n 0, 1) := by decide +kernel
theorem dX8_digest_117 : decode cX8_digest 117 = .ok (.getfield 36, 3) := by decide +kernel
theorem dX8_digest_120 : decode cX8_digest 120 = .ok (.getfield 162, 3) := by decide +kernel
theorem dX8_digest_123 : decode cX8_digest 123 = .ok (.getfield 218, 3) := by decide +kernel
theorem dX8_digest_126 : decode cX8_digest 126 = .ok (.invokestatic 206, 3) := by decide +kernel
theorem dX8_digest_129 : decode cX8_digest 129 = .ok (.lstore_n 1, 1) := by decide +kernel
theorem dX8_digest_130 : decode cX8_digest 130 = .ok (.iinc 3 1, 3) := by decide +kernel
theorem dX8_digest_133 : decode cX8_digest 133 = .ok (.goto (-46), 3) := by decide +kernel
theorem dX8_digest_136 : decode cX8_digest 136 = .ok (.lload_n 1, 1) := by decide +kernel
theorem dX8_digest_137 : decode cX8_digest 137 = .ok (.lreturn, 1) := by decide +kernel
theorem dX8_settled_0 : decode cX8_settled 0 = .ok (.iload_n 1, 1) := by decide +kernel
theorem dX8_settled_1 : decode cX8_settled 1 = .ok (.ifCond .ge 9, 3) := by decide +kernel
theorem dX8_settled_4 : decode cX8_settled 4 = .ok (.aload_n 0, 1) := by decide +kernel
theorem dX8_settled_5 : decode cX8_settled 5 = .ok (.iload_n 1, 1) := by decide +kernel
theorem dX8_settled_6 : decode cX8_settled 6 = .ok (.invokevirtual 109, 3) := by decide +kernel
theorem dX8_settled_9 : decode cX8_settled 9 = .ok (.ireturn, 1) := by decide +kernel
theorem dX8_settled_10 : decode cX8_settled 10 = .ok (.aload_n 0, 1) := by decide +kernel
theorem dX8_settled_11 : decode cX8_settled 11 = .ok (.getfield 22, 3) := by decide +kernel
theorem dX8_settled_14 : decode cX8_settled 14 = .ok (.aload_n 0, 1) := by decide +kernel
theorem dX8_settled_15 : decode cX8_settled 15 = .ok (.getfield 16, 3) := by decide +kernel
theorem dX8_settled_18 : decode cX8_settled 18 = .ok (.invokevirtual 219, 3) := by decide +kernel
theorem dX8_settled_21 : decode cX8_settled 21 = .ok (.aload_n 0, 1) := by decide +kernel
theorem dX8_settled_22 : decode cX8_settled 22 = .ok (.getfield 29, 3) := by decide +kernel
theorem dX8_settled_25 : decode cX8_settled 25 = .ok (.iconst 1, 1) := by decide +kernel
theorem dX8_settled_26 : decode cX8_settled 26 = .ok (.putfield 197, 3) := by decide +kernel
theorem dX8_settled_29 : decode cX8_settled 29 = .ok (.iload_n 1, 1) := by decide +kernel
theorem dX8_settled_30 : decode cX8_settled 30 = .ok (.ireturn, 1) := by decide +kernel
theorem dX8_refuse_0 : decode cX8_refuse 0 = .ok (.iload_n 1, 1) := by decide +kernel
theorem dX8_refuse_1 : decode cX8_refuse 1 = .ok (.bipush (-2), 2) := by decide +kernel
theorem dX8_refuse_3 : decode cX8_refuse 3 = .ok (.if_icmp .ne 16, 3) := by decide +kernel
theorem dX8_refuse_6 : decode cX8_refuse 6 = .ok (.aload_n 0, 1) := by decide +kernel
theorem dX8_refuse_7 : decode cX8_refuse 7 = .ok (.dup, 1) := by decide +kernel
theorem dX8_refuse_8 : decode cX8_refuse 8 = .ok (.getfield 54, 3) := by decide +kernel
theorem dX8_refuse_11 : decode cX8_refuse 11 = .ok (.iconst 1, 1) := by decide +kernel
theorem dX8_refuse_12 : decode cX8_refuse 12 = .ok (.iadd, 1) := by decide +kernel
theorem dX8_refuse_13 : decode cX8_refuse 13 = .ok (.putfield 54, 3) := by decide +kernel
theorem dX8_refuse_16 : decode cX8_refuse 16 = .ok (.goto 32, 3) := by decide +kernel
theorem dX8_refuse_19 : decode cX8_refuse 19 = .ok (.iload_n 1, 1) := by decide +kernel
theorem dX8_refuse_20 : decode cX8_refuse 20 = .ok (.bipush (-3), 2) := by decide +kernel
theorem dX8_refuse_22 : decode cX8_refuse 22 = .ok (.if_icmp .ne 16, 3) := by decide +kernel
theorem dX8_refuse_25 : decode cX8_refuse 25 = .ok (.aload_n 0, 1) := by decide +kernel
theorem dX8_refuse_26 : decode cX8_refuse 26 = .ok (.dup, 1) := by decide +kernel
theorem dX8_refuse_27 : decode cX8_refuse 27 = .ok (.getfield 58, 3) := by decide +kernel
theorem dX8_refuse_30 : decode cX8_refuse 30 = .ok (.iconst 1, 1) := by decide +kernel
theorem dX8_refuse_31 : decode cX8_refuse 31 = .ok (.iadd, 1) := by decide +kernel
theorem dX8_refuse_32 : decode cX8_refuse 32 = .ok (.putfield 58, 3) := by decide +kernel
theorem dX8_refuse_35 : decode cX8_refuse 35 = .ok (.goto 13, 3) := by decide +kernel
theorem dX8_refuse_38 : decode cX8_refuse 38 = .ok (.aload_n 0, 1) := by decide +kernel
theorem dX8_refuse_39 : decode cX8_refuse 39 = .ok (.dup, 1) := by decide +kernel
theorem dX8_refuse_40 : decode cX8_refuse 40 = .ok (.getfield 61, 3) := by decide +kernel
theorem dX8_refuse_43 : decode cX8_refuse 43 = .ok (.iconst 1, 1) := by decide +kernel
theorem dX8_refuse_44 : decode cX8_refuse 44 = .ok (.iadd, 1) := by decide +kernel
theorem dX8_refuse_45 : decode cX8_refuse 45 = .ok (.putfield 61, 3) := by decide +kernel
theorem dX8_refuse_48 : decode cX8_refuse 48 = .ok (.iload_n 1, 1) := by decide +kernel
theorem dX8_refuse_49 : decode cX8_refuse 49 = .ok (.ireturn, 1) := by decide +kernel
theorem dX8_outline_0 : decode cX8_outline 0 = .ok (.iload_n 1, 1) := by decide +kernel
theorem dX8_outline_1 : decode cX8_outline 1 = .ok (.iconst 3, 1) := by decide +kernel
theorem dX8_outline_2 : decode cX8_outline 2 = .ok (.if_icmp .eq 12, 3) := by decide +kernel
theorem dX8_outline_5 : decode cX8_outline 5 = .ok (.aload_n 0, 1) := by decide +kernel
theorem dX8_outline_6 : decode cX8_outline 6 = .ok (.getfield 12, 3) := by decide +kernel
theorem dX8_outline_9 : decode cX8_outline 9 = .ok (.iload_n 1, 1) := by decide +kernel
theorem dX8_outline_10 : decode cX8_outline 10 = .ok (.invokevirtual 157, 3) := by decide +kernel
theorem dX8_outline_13 : decode cX8_outline 13 = .ok (.areturn, 1) := by decide +kernel
theorem dX8_outline_14 : decode cX8_outline 14 = .ok (.aload_n 0, 1) := by decide +kernel
theorem dX8_outline_15 : decode cX8_outline 15 = .ok (.getfield 29, 3) := by decide +kernel
theorem dX8_outline_18 : decode cX8_outline 18 = .ok (.aload_n 0, 1) := by decide +kernel
theorem dX8_outline_19 : decode cX8_outline 19 = .ok (.getfield 12, 3) := by decide +kernel
theorem dX8_outline_22 : decode cX8_outline 22 = .ok (.invokevirtual 142, 3) := by decide +kernel
theorem dX8_outline_25 : decode cX8_outline 25 = .ok (.aload_n 0, 1) := by decide +kernel
theorem dX8_outline_26 : decode cX8_outline 26 = .ok (.getfield 29, 3) := by decide +kernel
theorem dX8_outline_29 : decode cX8_outline 29 = .ok (.getfield 222, 3) := by decide +kernel
theorem dX8_outline_32 : decode cX8_outline 32 = .ok (.areturn, 1) := by decide +kernel
theorem dX8_perform_0 : decode cX8_perform 0 = .ok (.aload_n 0, 1) := by decide +kernel
theorem dX8_perform_1 : decode cX8_perform 1 = .ok (.getfield 50, 3) := by decide +kernel
theorem dX8_perform_4 : decode cX8_perform 4 = .ok (.iload_n 1, 1) := by decide +kernel
theorem dX8_perform_5 : decode cX8_perform 5 = .ok (.iconst 1, 1) := by decide +kernel
theorem dX8_perform_6 : decode cX8_perform 6 = .ok (.invokevirtual 226, 3) := by decide +kernel
theorem dX8_perform_9 : decode cX8_perform 9 = .ok (.istore_n 2, 1) := by decide +kernel
theorem dX8_perform_10 : decode cX8_perform 10 = .ok (.aload_n 0, 1) := by decide +kernel
theorem dX8_perform_11 : decode cX8_perform 11 = .ok (.getfield 50, 3) := by decide +kernel
theorem dX8_perform_14 : decode cX8_perform 14 = .ok (.iload_n 1, 1) := by decide +kernel
theorem dX8_perform_15 : decode cX8_perform 15 = .ok (.iconst 2, 1) := by decide +kernel
theorem dX8_perform_16 : decode cX8_perform 16 = .ok (.invokevirtual 226, 3) := by decide +kernel
theorem dX8_perform_19 : decode cX8_perform 19 = .ok (.istore_n 3, 1) := by decide +kernel
theorem dX8_perform_20 : decode cX8_perform 20 = .ok (.aload_n 0, 1) := by decide +kernel
theorem dX8_perform_21 : decode cX8_perform 21 = .ok (.getfield 50, 3) := by decide +kernel
theorem dX8_perform_24 : decode cX8_perform 24 = .ok (.iload_n 1, 1) := by decide +kernel
theorem dX8_perform_25 : decode cX8_perform 25 = .ok (.iconst 3, 1) := by decide +kernel
theorem dX8_perform_26 : decode cX8_perform 26 = .ok (.invokevirtual 226, 3) := by decide +kernel
theorem dX8_perform_29 : decode cX8_perform 29 = .ok (.istore 4, 2) := by decide +kernel
theorem dX8_perform_31 : decode cX8_perform 31 = .ok (.aload_n 0, 1) := by decide +kernel
theorem dX8_perform_32 : decode cX8_perform 32 = .ok (.getfield 50, 3) := by decide +kernel
theorem dX8_perform_35 : decode cX8_perform 35 = .ok (.iload_n 1, 1) := by decide +kernel
theorem dX8_perform_36 : decode cX8_perform 36 = .ok (.iconst 4, 1) := by decide +kernel
theorem dX8_perform_37 : decode cX8_perform 37 = .ok (.invokevirtual 226, 3) := by decide +kernel
theorem dX8_perform_40 : decode cX8_perform 40 = .ok (.istore 5, 2) := by decide +kernel
theorem dX8_perform_42 : decode cX8_perform 42 = .ok (.aload_n 0, 1) := by decide +kernel
theorem dX8_perform_43 : decode cX8_perform 43 = .ok (.getfield 50, 3) := by decide +kernel
theorem dX8_perform_46 : decode cX8_perform 46 = .ok (.iload_n 1, 1) := by decide +kernel
theorem dX8_perform_47 : decode cX8_perform 47 = .ok (.iconst 0, 1) := by decide +kernel
theorem dX8_perform_48 : decode cX8_perform 48 = .ok (.invokevirtual 226, 3) := by decide +kernel
theorem dX8_perform_51 : decode cX8_perform 51 = .ok (.tableswitch 166 97 114 #[85, 166, 166, 148, 135, 158, 166, 166, 166, 166, 166, 166, 108, 166, 166, 166, 166, 122], 85) := by decide +kernel
theorem dX8_perform_136 : decode cX8_perform 136 = .ok (.aload_n 0, 1) := by decide +kernel
theorem dX8_perform_137 : decode cX8_perform 137 = .ok (.getfield 12, 3) := by decide +kernel
theorem dX8_perform_140 : decode cX8_perform 140 = .ok (.iload_n 2, 1) := by decide +kernel
theorem dX8_perform_141 : decode cX8_perform 141 = .ok (.iload_n 3, 1) := by decide +kernel
theorem dX8_perform_142 : decode cX8_perform 142 = .ok (.iload 4, 2) := by decide +kernel
theorem dX8_perform_144 : decode cX8_perform 144 = .ok (.iload 5, 2) := by decide +kernel
theorem dX8_perform_146 : decode cX8_perform 146 = .ok (.aload_n 0, 1) := by decide +kernel
theorem dX8_perform_147 : decode cX8_perform 147 = .ok (.getfield 50, 3) := by decide +kernel
theorem dX8_perform_150 : decode cX8_perform 150 = .ok (.iload_n 1, 1) := by decide +kernel
theorem dX8_perform_151 : decode cX8_perform 151 = .ok (.iconst 5, 1) := by decide +kernel
theorem dX8_perform_152 : decode cX8_perform 152 = .ok (.invokevirtual 226, 3) := by decide +kernel
theorem dX8_perform_155 : decode cX8_perform 155 = .ok (.invokevirtual 68, 3) := by decide +kernel
theorem dX8_perform_158 : decode cX8_perform 158 = .ok (.ireturn, 1) := by decide +kernel
theorem dX8_perform_159 : decode cX8_perform 159 = .ok (.aload_n 0, 1) := by decide +kernel
theorem dX8_perform_160 : decode cX8_perform 160 = .ok (.getfield 12, 3) := by decide +kernel
theorem dX8_perform_163 : decode cX8_perform 163 = .ok (.iload_n 2, 1) := by decide +kernel
theorem dX8_perform_164 : decode cX8_perform 164 = .ok (.iload_n 3, 1) := by decide +kernel
theorem dX8_perform_165 : decode cX8_perform 165 = .ok (.iload 4, 2) := by decide +kernel
theorem dX8_perform_167 : decode cX8_perform 167 = .ok (.iload 5, 2) := by decide +kernel
theorem dX8_perform_169 : decode cX8_perform 169 = .ok (.invokevirtual 76, 3) := by decide +kernel
theorem dX8_perform_172 : decode cX8_perform 172 = .ok (.ireturn, 1) := by decide +kernel
theorem dX8_perform_173 : decode cX8_perform 173 = .ok (.aload_n 0, 1) := by decide +kernel
theorem dX8_perform_174 : decode cX8_perform 174 = .ok (.getfield 12, 3) := by decide +kernel
theorem dX8_perform_177 : decode cX8_perform 177 = .ok (.iload_n 2, 1) := by decide +kernel
theorem dX8_perform_178 : decode cX8_perform 178 = .ok (.iload_n 3, 1) := by decide +kernel
theorem dX8_perform_179 : decode cX8_perform 179 = .ok (.iconst 2, 1) := by decide +kernel
theorem dX8_perform_180 : decode cX8_perform 180 = .ok (.iload 4, 2) := by decide +kernel
theorem dX8_perform_182 : decode cX8_perform 182 = .ok (.invokevirtual 80, 3) := by decide +kernel
theorem dX8_perform_185 : decode cX8_perform 185 = .ok (.ireturn, 1) := by decide +kernel
theorem dX8_perform_186 : decode cX8_perform 186 = .ok (.aload_n 0, 1) := by decide +kernel
theorem dX8_perform_187 : decode cX8_perform 187 = .ok (.getfield 12, 3) := by decide +kernel
theorem dX8_perform_190 : decode cX8_perform 190 = .ok (.iload_n 2, 1) := by decide +kernel
theorem dX8_perform_191 : decode cX8_perform 191 = .ok (.iload_n 3, 1) := by decide +kernel
theorem dX8_perform_192 : decode cX8_perform 192 = .ok (.iconst 3, 1) := by decide +kernel
theorem dX8_perform_193 : decode cX8_perform 193 = .ok (.iload 4, 2) := by decide +kernel
theorem dX8_perform_195 : decode cX8_perform 195 = .ok (.invokevirtual 80, 3) := by decide +kernel
theorem dX8_perform_198 : decode cX8_perform 198 = .ok (.ireturn, 1) := by decide +kernel
theorem dX8_perform_199 : decode cX8_perform 199 = .ok (.aload_n 0, 1) := by decide +kernel
theorem dX8_perform_200 : decode cX8_perform 200 = .ok (.getfield 12, 3) := by decide +kernel
theorem dX8_perform_203 : decode cX8_perform 203 = .ok (.iload_n 2, 1) := by decide +kernel
theorem dX8_perform_204 : decode cX8_perform 204 = .ok (.iload_n 3, 1) := by decide +kernel
theorem dX8_perform_205 : decode cX8_perform 205 = .ok (.invokevirtual 83, 3) := by decide +kernel
theorem dX8_perform_208 : decode cX8_perform 208 = .ok (.ireturn, 1) := by decide +kernel
theorem dX8_perform_209 : decode cX8_perform 209 = .ok (.aload_n 0, 1) := by decide +kernel
theorem dX8_perform_210 : decode cX8_perform 210 = .ok (.getfield 12, 3) := by decide +kernel
theorem dX8_perform_213 : decode cX8_perform 213 = .ok (.invokevirtual 87, 3) := by decide +kernel
theorem dX8_perform_216 : decode cX8_perform 216 = .ok (.ireturn, 1) := by decide +kernel
theorem dX8_perform_217 : decode cX8_perform 217 = .ok (.aload_n 0, 1) := by decide +kernel
theorem dX8_perform_218 : decode cX8_perform 218 = .ok (.getfield 12, 3) := by decide +kernel
theorem dX8_perform_221 : decode cX8_perform 221 = .ok (.iload_n 2, 1) := by decide +kernel
theorem dX8_perform_222 : decode cX8_perform 222 = .ok (.invokevirtual 91, 3) := by decide +kernel
theorem dX8_perform_225 : decode cX8_perform 225 = .ok (.ireturn, 1) := by decide +kernel
theorem dX8_tellCount_0 : decode cX8_tellCount 0 = .ok (.iload_n 1, 1) := by decide +kernel
theorem dX8_tellCount_1 : decode cX8_tellCount 1 = .ok (.tableswitch 54 0 3 #[31, 36, 41, 46], 31) := by decide +kernel
theorem dX8_tellCount_32 : decode cX8_tellCount 32 = .ok (.aload_n 0, 1) := by decide +kernel
theorem dX8_tellCount_33 : decode cX8_tellCount 33 = .ok (.getfield 54, 3) := by decide +kernel
theorem dX8_tellCount_36 : decode cX8_tellCount 36 = .ok (.ireturn, 1) := by decide +kernel
theorem dX8_tellCount_37 : decode cX8_tellCount 37 = .ok (.aload_n 0, 1) := by decide +kernel
theorem dX8_tellCount_38 : decode cX8_tellCount 38 = .ok (.getfield 58, 3) := by decide +kernel
theorem dX8_tellCount_41 : decode cX8_tellCount 41 = .ok (.ireturn, 1) := by decide +kernel
theorem dX8_tellCount_42 : decode cX8_tellCount 42 = .ok (.aload_n 0, 1) := by decide +kernel
theorem dX8_tellCount_43 : decode cX8_tellCount 43 = .ok (.getfield 61, 3) := by decide +kernel
theorem dX8_tellCount_46 : decode cX8_tellCount 46 = .ok (.ireturn, 1) := by decide +kernel
theorem dX8_tellCount_47 : decode cX8_tellCount 47 = .ok (.aload_n 0, 1) := by decide +kernel
theorem dX8_tellCount_48 : decode cX8_tellCount 48 = .ok (.getfield 50, 3) := by decide +kernel
theorem dX8_tellCount_51 : decode cX8_tellCount 51 = .ok (.getfield 177, 3) := by decide +kernel
theorem dX8_tellCount_54 : decode cX8_tellCount 54 = .ok (.ireturn, 1) := by decide +kernel
theorem dX8_tellCount_55 : decode cX8_tellCount 55 = .ok (.aload_n 0, 1) := by decide +kernel
theorem dX8_tellCount_56 : decode cX8_tellCount 56 = .ok (.getfield 22, 3) := by decide +kernel
theorem dX8_tellCount_59 : decode cX8_tellCount 59 = .ok (.getfield 192, 3) := by decide +kernel
theorem dX8_tellCount_62 : decode cX8_tellCount 62 = .ok (.ireturn, 1) := by decide +kernel
theorem dX8_tellDesk_0 : decode cX8_tellDesk 0 = .ok (.iload_n 1, 1) := by decide +kernel
theorem dX8_tellDesk_1 : decode cX8_tellDesk 1 = .ok (.ifCond .ne 11, 3) := by decide +kernel
theorem dX8_tellDesk_4 : decode cX8_tellDesk 4 = .ok (.aload_n 0, 1) := by decide +kernel
theorem dX8_tellDesk_5 : decode cX8_tellDesk 5 = .ok (.getfield 12, 3) := by decide +kernel
theorem dX8_tellDesk_8 : decode cX8_tellDesk 8 = .ok (.getfield 229, 3) := by decide +kernel
theorem dX8_tellDesk_11 : decode cX8_tellDesk 11 = .ok (.ireturn, 1) := by decide +kernel
theorem dX8_tellDesk_12 : decode cX8_tellDesk 12 = .ok (.iload_n 1, 1) := by decide +kernel
theorem dX8_tellDesk_13 : decode cX8_tellDesk 13 = .ok (.iconst 1, 1) := by decide +kernel
theorem dX8_tellDesk_14 : decode cX8_tellDesk 14 = .ok (.if_icmp .ne 11, 3) := by decide +kernel
theorem dX8_tellDesk_17 : decode cX8_tellDesk 17 = .ok (.aload_n 0, 1) := by decide +kernel
theorem dX8_tellDesk_18 : decode cX8_tellDesk 18 = .ok (.getfield 12, 3) := by decide +kernel
theorem dX8_tellDesk_21 : decode cX8_tellDesk 21 = .ok (.getfield 232, 3) := by decide +kernel
theorem dX8_tellDesk_24 : decode cX8_tellDesk 24 = .ok (.ireturn, 1) := by decide +kernel
theorem dX8_tellDesk_25 : decode cX8_tellDesk 25 = .ok (.aload_n 0, 1) := by decide +kernel
theorem dX8_tellDesk_26 : decode cX8_tellDesk 26 = .ok (.getfield 43, 3) := by decide +kernel
theorem dX8_tellDesk_29 : decode cX8_tellDesk 29 = .ok (.aload_n 0, 1) := by decide +kernel
theorem dX8_tellDesk_30 : decode cX8_tellDesk 30 = .ok (.getfield 12, 3) := by decide +kernel
theorem dX8_tellDesk_33 : decode cX8_tellDesk 33 = .ok (.iconst 0, 1) := by decide +kernel
theorem dX8_tellDesk_34 : decode cX8_tellDesk 34 = .ok (.invokevirtual 157, 3) := by decide +kernel
theorem dX8_tellDesk_37 : decode cX8_tellDesk 37 = .ok (.aload_n 0, 1) := by decide +kernel
theorem dX8_tellDesk_38 : decode cX8_tellDesk 38 = .ok (.getfield 12, 3) := by decide +kernel
theorem dX8_tellDesk_41 : decode cX8_tellDesk 41 = .ok (.iload_n 1, 1) := by decide +kernel
theorem dX8_tellDesk_42 : decode cX8_tellDesk 42 = .ok (.iconst 2, 1) := by decide +kernel
theorem dX8_tellDesk_43 : decode cX8_tellDesk 43 = .ok (.if_icmp .ne 7, 3) := by decide +kernel
theorem dX8_tellDesk_46 : decode cX8_tellDesk 46 = .ok (.iconst 1, 1) := by decide +kernel
theorem dX8_tellDesk_47 : decode cX8_tellDesk 47 = .ok (.goto 4, 3) := by decide +kernel
theorem dX8_tellDesk_50 : decode cX8_tellDesk 50 = .ok (.iconst 2, 1) := by decide +kernel
theorem dX8_tellDesk_51 : decode cX8_tellDesk 51 = .ok (.invokevirtual 157, 3) := by decide +kernel
theorem dX8_tellDesk_54 : decode cX8_tellDesk 54 = .ok (.invokevirtual 165, 3) := by decide +kernel
theorem dX8_tellDesk_57 : decode cX8_tellDesk 57 = .ok (.aload_n 0, 1) := by decide +kernel
theorem dX8_tellDesk_58 : decode cX8_tellDesk 58 = .ok (.getfield 43, 3) := by decide +kernel
theorem dX8_tellDesk_61 : decode cX8_tellDesk 61 = .ok (.invokevirtual 235, 3) := by decide +kernel
theorem dX8_tellDesk_64 : decode cX8_tellDesk 64 = .ok (.ireturn, 1) := by decide +kernel
theorem dX8_mixed_0 : decode cX8_mixed 0 = .ok (.ldc2_w 238, 3) := by decide +kernel
theorem dX8_mixed_3 : decode cX8_mixed 3 = .ok (.lload_n 0, 1) := by decide +kernel
theorem dX8_mixed_4 : decode cX8_mixed 4 = .ok (.lmul, 1) := by decide +kernel
theorem dX8_mixed_5 : decode cX8_mixed 5 = .ok (.iload_n 2, 1) := by decide +kernel
theorem dX8_mixed_6 : decode cX8_mixed 6 = .ok (.i2l, 1) := by decide +kernel
theorem dX8_mixed_7 : decode cX8_mixed 7 = .ok (.ladd, 1) := by decide +kernel
theorem dX8_mixed_8 : decode cX8_mixed 8 = .ok (.lreturn, 1) := by decide +kernel
theorem dX8_mixedOutline_0 : decode cX8_mixedOutline 0 = .ok (.aload_n 2, 1) := by decide +kernel
theorem dX8_mixedOutline_1 : decode cX8_mixedOutline 1 = .ok (.invokevirtual 129, 3) := by decide +kernel
theorem dX8_mixedOutline_4 : decode cX8_mixedOutline 4 = .ok (.istore_n 3, 1) := by decide +kernel
theorem dX8_mixedOutline_5 : decode cX8_mixedOutline 5 = .ok (.lload_n 0, 1) := by decide +kernel
theorem dX8_mixedOutline_6 : decode cX8_mixedOutline 6 = .ok (.iload_n 3, 1) := by decide +kernel
theorem dX8_mixedOutline_7 : decode cX8_mixedOutline 7 = .ok (.invokestatic 206, 3) := by decide +kernel
theorem dX8_mixedOutline_10 : decode cX8_mixedOutline 10 = .ok (.aload_n 2, 1) := by decide +kernel
theorem dX8_mixedOutline_11 : decode cX8_mixedOutline 11 = .ok (.invokevirtual 132, 3) := by decide +kernel
theorem dX8_mixedOutline_14 : decode cX8_mixedOutline 14 = .ok (.invokestatic 206, 3) := by decide +kernel
theorem dX8_mixedOutline_17 : decode cX8_mixedOutline 17 = .ok (.lstore 4, 2) := by decide +kernel
theorem dX8_mixedOutline_19 : decode cX8_mixedOutline 19 = .ok (.iconst 0, 1) := by decide +kernel
theorem dX8_mixedOutline_20 : decode cX8_mixedOutline 20 = .ok (.istore 6, 2) := by decide +kernel
theorem dX8_mixedOutline_22 : decode cX8_mixedOutline 22 = .ok (.iconst 0, 1) := by decide +kernel
theorem dX8_mixedOutline_23 : decode cX8_mixedOutline 23 = .ok (.istore 7, 2) := by decide +kernel
theorem dX8_mixedOutline_25 : decode cX8_mixedOutline 25 = .ok (.iload 7, 2) := by decide +kernel
theorem dX8_mixedOutline_27 : decode cX8_mixedOutline 27 = .ok (.iload_n 3, 1) := by decide +kernel
theorem dX8_mixedOutline_28 : decode cX8_mixedOutline 28 = .ok (.if_icmp .ge 63, 3) := by decide +kernel
theorem dX8_mixedOutline_31 : decode cX8_mixedOutline 31 = .ok (.iload 7, 2) := by decide +kernel
theorem dX8_mixedOutline_33 : decode cX8_mixedOutline 33 = .ok (.bipush 16, 2) := by decide +kernel
theorem dX8_mixedOutline_35 : decode cX8_mixedOutline 35 = .ok (.if_icmp .ge 56, 3) := by decide +kernel
theorem dX8_mixedOutline_38 : decode cX8_mixedOutline 38 = .ok (.lload 4, 2) := by decide +kernel
theorem dX8_mixedOutline_40 : decode cX8_mixedOutline 40 = .ok (.iload 6, 2) := by decide +kernel
theorem dX8_mixedOutline_42 : decode cX8_mixedOutline 42 = .ok (.invokestatic 206, 3) := by decide +kernel
theorem dX8_mixedOutline_45 : decode cX8_mixedOutline 45 = .ok (.lstore 4, 2) := by decide +kernel
theorem dX8_mixedOutline_47 : decode cX8_mixedOutline 47 = .ok (.iconst 0, 1) := by decide +kernel
theorem dX8_mixedOutline_48 : decode cX8_mixedOutline 48 = .ok (.istore 8, 2) := by decide +kernel
theorem dX8_mixedOutline_50 : decode cX8_mixedOutline 50 = .ok (.iload 8, 2) := by decide +kernel
theorem dX8_mixedOutline_52 : decode cX8_mixedOutline 52 = .ok (.iconst 3, 1) := by decide +kernel
theorem dX8_mixedOutline_53 : decode cX8_mixedOutline 53 = .ok (.if_icmp .gt 24, 3) := by decide +kernel
theorem dX8_mixedOutline_56 : decode cX8_mixedOutline 56 = .ok (.lload 4, 2) := by decide +kernel
theorem dX8_mixedOutline_58 : decode cX8_mixedOutline 58 = .ok (.aload_n 2, 1) := by decide +kernel
theorem dX8_mixedOutline_59 : decode cX8_mixedOutline 59 = .ok (.iload 6, 2) := by decide +kernel
theorem dX8_mixedOutline_61 : decode cX8_mixedOutline 61 = .ok (.iload 8, 2) := by decide +kernel
theorem dX8_mixedOutline_63 : decode cX8_mixedOutline 63 = .ok (.invokevirtual 123, 3) := by decide +kernel
theorem dX8_mixedOutline_66 : decode cX8_mixedOutline 66 = .ok (.invokestatic 206, 3) := by decide +kernel
theorem dX8_mixedOutline_69 : decode cX8_mixedOutline 69 = .ok (.lstore 4, 2) := by decide +kernel
theorem dX8_mixedOutline_71 : decode cX8_mixedOutline 71 = .ok (.iinc 8 1, 3) := by decide +kernel
theorem dX8_mixedOutline_74 : decode cX8_mixedOutline 74 = .ok (.goto (-24), 3) := by decide +kernel
theorem dX8_mixedOutline_77 : decode cX8_mixedOutline 77 = .ok (.aload_n 2, 1) := by decide +kernel
theorem dX8_mixedOutline_78 : decode cX8_mixedOutline 78 = .ok (.iload 6, 2) := by decide +kernel
theorem dX8_mixedOutline_80 : decode cX8_mixedOutline 80 = .ok (.invokevirtual 126, 3) := by decide +kernel
theorem dX8_mixedOutline_83 : decode cX8_mixedOutline 83 = .ok (.istore 6, 2) := by decide +kernel
theorem dX8_mixedOutline_85 : decode cX8_mixedOutline 85 = .ok (.iinc 7 1, 3) := by decide +kernel
theorem dX8_mixedOutline_88 : decode cX8_mixedOutline 88 = .ok (.goto (-63), 3) := by decide +kernel
theorem dX8_mixedOutline_91 : decode cX8_mixedOutline 91 = .ok (.lload 4, 2) := by decide +kernel
theorem dX8_mixedOutline_93 : decode cX8_mixedOutline 93 = .ok (.lreturn, 1) := by decide +kernel
theorem dX8_mixedConflicts_0 : decode cX8_mixedConflicts 0 = .ok (.lload_n 0, 1) := by decide +kernel
theorem dX8_mixedConflicts_1 : decode cX8_mixedConflicts 1 = .ok (.aload_n 2, 1) := by decide +kernel
theorem dX8_mixedConflicts_2 : decode cX8_mixedConflicts 2 = .ok (.getfield 218, 3) := by decide +kernel
theorem dX8_mixedConflicts_5 : decode cX8_mixedConflicts 5 = .ok (.invokestatic 206, 3) := by decide +kernel
theorem dX8_mixedConflicts_8 : decode cX8_mixedConflicts 8 = .ok (.lstore_n 3, 1) := by decide +kernel
theorem dX8_mixedConflicts_9 : decode cX8_mixedConflicts 9 = .ok (.iconst 0, 1) := by decide +kernel
theorem dX8_mixedConflicts_10 : decode cX8_mixedConflicts 10 = .ok (.istore 5, 2) := by decide +kernel
theorem dX8_mixedConflicts_12 : decode cX8_mixedConflicts 12 = .ok (.iload 5, 2) := by decide +kernel
theorem dX8_mixedConflicts_14 : decode cX8_mixedConflicts 14 = .ok (.aload_n 2, 1) := by decide +kernel
theorem dX8_mixedConflicts_15 : decode cX8_mixedConflicts 15 = .ok (.getfield 218, 3) := by decide +kernel
theorem dX8_mixedConflicts_18 : decode cX8_mixedConflicts 18 = .ok (.if_icmp .ge 45, 3) := by decide +kernel
theorem dX8_mixedConflicts_21 : decode cX8_mixedConflicts 21 = .ok (.iload 5, 2) := by decide +kernel
theorem dX8_mixedConflicts_23 : decode cX8_mixedConflicts 23 = .ok (.sipush 128, 3) := by decide +kernel
theorem dX8_mixedConflicts_26 : decode cX8_mixedConflicts 26 = .ok (.if_icmp .ge 37, 3) := by decide +kernel
theorem dX8_mixedConflicts_29 : decode cX8_mixedConflicts 29 = .ok (.iconst 0, 1) := by decide +kernel
theorem dX8_mixedConflicts_30 : decode cX8_mixedConflicts 30 = .ok (.istore 6, 2) := by decide +kernel
theorem dX8_mixedConflicts_32 : decode cX8_mixedConflicts 32 = .ok (.iload 6, 2) := by decide +kernel
theorem dX8_mixedConflicts_34 : decode cX8_mixedConflicts 34 = .ok (.iconst 2, 1) := by decide +kernel
theorem dX8_mixedConflicts_35 : decode cX8_mixedConflicts 35 = .ok (.if_icmp .gt 22, 3) := by decide +kernel
theorem dX8_mixedConflicts_38 : decode cX8_mixedConflicts 38 = .ok (.lload_n 3, 1) := by decide +kernel
theorem dX8_mixedConflicts_39 : decode cX8_mixedConflicts 39 = .ok (.aload_n 2, 1) := by decide +kernel
theorem dX8_mixedConflicts_40 : decode cX8_mixedConflicts 40 = .ok (.iload 5, 2) := by decide +kernel
theorem dX8_mixedConflicts_42 : decode cX8_mixedConflicts 42 = .ok (.iload 6, 2) := by decide +kernel
theorem dX8_mixedConflicts_44 : decode cX8_mixedConflicts 44 = .ok (.invokevirtual 149, 3) := by decide +kernel
theorem dX8_mixedConflicts_47 : decode cX8_mixedConflicts 47 = .ok (.invokestatic 206, 3) := by decide +kernel
theorem dX8_mixedConflicts_50 : decode cX8_mixedConflicts 50 = .ok (.lstore_n 3, 1) := by decide +kernel
theorem dX8_mixedConflicts_51 : decode cX8_mixedConflicts 51 = .ok (.iinc 6 1, 3) := by decide +kernel
theorem dX8_mixedConflicts_54 : decode cX8_mixedConflicts 54 = .ok (.goto (-22), 3) := by decide +kernel
theorem dX8_mixedConflicts_57 : decode cX8_mixedConflicts 57 = .ok (.iinc 5 1, 3) := by decide +kernel
theorem dX8_mixedConflicts_60 : decode cX8_mixedConflicts 60 = .ok (.goto (-48), 3) := by decide +kernel
theorem dX8_mixedConflicts_63 : decode cX8_mixedConflicts 63 = .ok (.lload_n 3, 1) := by decide +kernel
theorem dX8_mixedConflicts_64 : decode cX8_mixedConflicts 64 = .ok (.lreturn, 1) := by decide +kernel
theorem dX8_isRowAsked_0 : decode cX8_isRowAsked 0 = .ok (.iload_n 0, 1) := by decide +kernel
theorem dX8_isRowAsked_1 : decode cX8_isRowAsked 1 = .ok (.iconst (-1), 1) := by decide +kernel
theorem dX8_isRowAsked_2 : decode cX8_isRowAsked 2 = .ok (.if_icmp .lt 25, 3) := by decide +kernel
theorem dX8_isRowAsked_5 : decode cX8_isRowAsked 5 = .ok (.iload_n 1, 1) := by decide +kernel
theorem dX8_isRowAsked_6 : decode cX8_isRowAsked 6 = .ok (.ifCond .lt 21, 3) := by decide +kernel
theorem dX8_isRowAsked_9 : decode cX8_isRowAsked 9 = .ok (.iload_n 1, 1) := by decide +kernel
theorem dX8_isRowAsked_10 : decode cX8_isRowAsked 10 = .ok (.iload_n 2, 1) := by decide +kernel
theorem dX8_isRowAsked_11 : decode cX8_isRowAsked 11 = .ok (.if_icmp .ge 16, 3) := by decide +kernel
theorem dX8_isRowAsked_14 : decode cX8_isRowAsked 14 = .ok (.iload_n 0, 1) := by decide +kernel
theorem dX8_isRowAsked_15 : decode cX8_isRowAsked 15 = .ok (.iconst (-1), 1) := by decide +kernel
theorem dX8_isRowAsked_16 : decode cX8_isRowAsked 16 = .ok (.if_icmp .ne 7, 3) := by decide +kernel
theorem dX8_isRowAsked_19 : decode cX8_isRowAsked 19 = .ok (.iload_n 1, 1) := by decide +kernel
theorem dX8_isRowAsked_20 : decode cX8_isRowAsked 20 = .ok (.ifCond .ne 7, 3) := by decide +kernel
theorem dX8_isRowAsked_23 : decode cX8_isRowAsked 23 = .ok (.iconst 1, 1) := by decide +kernel
theorem dX8_isRowAsked_24 : decode cX8_isRowAsked 24 = .ok (.goto 4, 3) := by decide +kernel
theorem dX8_isRowAsked_27 : decode cX8_isRowAsked 27 = .ok (.iconst 0, 1) := by decide +kernel
theorem dX8_isRowAsked_28 : decode cX8_isRowAsked 28 = .ok (.ireturn, 1) := by decide +kernel
theorem dX8_isNumber_0 : decode cX8_isNumber 0 = .ok (.iload_n 0, 1) := by decide +kernel
theorem dX8_isNumber_1 : decode cX8_isNumber 1 = .ok (.ifCond .lt 13, 3) := by decide +kernel
theorem dX8_isNumber_4 : decode cX8_isNumber 4 = .ok (.iload_n 0, 1) := by decide +kernel
theorem dX8_isNumber_5 : decode cX8_isNumber 5 = .ok (.bipush 16, 2) := by decide +kernel
theorem dX8_isNumber_7 : decode cX8_isNumber 7 = .ok (.if_icmp .ge 7, 3) := by decide +kernel
theorem dX8_isNumber_10 : decode cX8_isNumber 10 = .ok (.iconst 1, 1) := by decide +kernel
theorem dX8_isNumber_11 : decode cX8_isNumber 11 = .ok (.goto 4, 3) := by decide +kernel
theorem dX8_isNumber_14 : decode cX8_isNumber 14 = .ok (.iconst 0, 1) := by decide +kernel
theorem dX8_isNumber_15 : decode cX8_isNumber 15 = .ok (.ireturn, 1) := by decide +kernel
theorem dX8_isValue_0 : decode cX8_isValue 0 = .ok (.iload_n 0, 1) := by decide +kernel
theorem dX8_isValue_1 : decode cX8_isValue 1 = .ok (.ifCond .lt 13, 3) := by decide +kernel
theorem dX8_isValue_4 : decode cX8_isValue 4 = .ok (.iload_n 0, 1) := by decide +kernel
theorem dX8_isValue_5 : decode cX8_isValue 5 = .ok (.bipush 100, 2) := by decide +kernel
theorem dX8_isValue_7 : decode cX8_isValue 7 = .ok (.if_icmp .ge 7, 3) := by decide +kernel
theorem dX8_isValue_10 : decode cX8_isValue 10 = .ok (.iconst 1, 1) := by decide +kernel
theorem dX8_isValue_11 : decode cX8_isValue 11 = .ok (.goto 4, 3) := by decide +kernel
theorem dX8_isValue_14 : decode cX8_isValue 14 = .ok (.iconst 0, 1) := by decide +kernel
theorem dX8_isValue_15 : decode cX8_isValue 15 = .ok (.ireturn, 1) := by decide +kernel
theorem dX8_isSide_0 : decode cX8_isSide 0 = .ok (.iload_n 0, 1) := by decide +kernel
theorem dX8_isSide_1 : decode cX8_isSide 1 = .ok (.iconst 1, 1) := by decide +kernel
theorem dX8_isSide_2 : decode cX8_isSide 2 = .ok (.if_icmp .eq 8, 3) := by decide +kernel
theorem dX8_isSide_5 : decode cX8_isSide 5 = .ok (.iload_n 0, 1) := by decide +kernel
theorem dX8_isSide_6 : decode cX8_isSide 6 = .ok (.iconst 2, 1) := by decide +kernel
theorem dX8_isSide_7 : decode cX8_isSide 7 = .ok (.if_icmp .ne 7, 3) := by decide +kernel
theorem dX8_isSide_10 : decode cX8_isSide 10 = .ok (.iconst 1, 1) := by decide +kernel
theorem dX8_isSide_11 : decode cX8_isSide 11 = .ok (.goto 4, 3) := by decide +kernel
theorem dX8_isSide_14 : decode cX8_isSide 14 = .ok (.iconst 0, 1) := by decide +kernel
theorem dX8_isSide_15 : decode cX8_isSide 15 = .ok (.ireturn, 1) := by decide +kernel
theorem dX8_isOwnOutline_0 : decode cX8_isOwnOutline 0 = .ok (.iload_n 0, 1) := by decide +kernel
theorem dX8_isOwnOutline_1 : decode cX8_isOwnOutline 1 = .ok (.ifCond .eq 10, 3) := by decide +kernel
theorem dX8_isOwnOutline_4 : decode cX8_isOwnOutline 4 = .ok (.iload_n 0, 1) := by decide +kernel
theorem dX8_isOwnOutline_5 : decode cX8_isOwnOutline 5 = .ok (.invokestatic 154, 3) := by decide +kernel
theorem dX8_isOwnOutline_8 : decode cX8_isOwnOutline 8 = .ok (.ifCond .eq 7, 3) := by decide +kernel
theorem dX8_isOwnOutline_11 : decode cX8_isOwnOutline 11 = .ok (.iconst 1, 1) := by decide +kernel
theorem dX8_isOwnOutline_12 : decode cX8_isOwnOutline 12 = .ok (.goto 4, 3) := by decide +kernel
theorem dX8_isOwnOutline_15 : decode cX8_isOwnOutline 15 = .ok (.iconst 0, 1) := by decide +kernel
theorem dX8_isOwnOutline_16 : decode cX8_isOwnOutline 16 = .ok (.ireturn, 1) := by decide +kernel
theorem dX8_isAnyOutline_0 : decode cX8_isAnyOutline 0 = .ok (.iload_n 0, 1) := by decide +kernel
theorem dX8_isAnyOutline_1 : decode cX8_isAnyOutline 1 = .ok (.invokestatic 240, 3) := by decide +kernel
theorem dX8_isAnyOutline_4 : decode cX8_isAnyOutline 4 = .ok (.ifCond .ne 8, 3) := by decide +kernel
theorem dX8_isAnyOutline_7 : decode cX8_isAnyOutline 7 = .ok (.iload_n 0, 1) := by decide +kernel
theorem dX8_isAnyOutline_8 : decode cX8_isAnyOutline 8 = .ok (.iconst 3, 1) := by decide +kernel
theorem dX8_isAnyOutline_9 : decode cX8_isAnyOutline 9 = .ok (.if_icmp .ne 7, 3) := by decide +kernel
theorem dX8_isAnyOutline_12 : decode cX8_isAnyOutline 12 = .ok (.iconst 1, 1) := by decide +kernel
theorem dX8_isAnyOutline_13 : decode cX8_isAnyOutline 13 = .ok (.goto 4, 3) := by decide +kernel
theorem dX8_isAnyOutline_16 : decode cX8_isAnyOutline 16 = .ok (.iconst 0, 1) := by decide +kernel
theorem dX8_isAnyOutline_17 : decode cX8_isAnyOutline 17 = .ok (.ireturn, 1) := by decide +kernel
theorem dX9_init_0 : decode cX9_init 0 = .ok (.aload_n 0, 1) := by decide +kernel
theorem dX9_init_1 : decode cX9_init 1 = .ok (.invokespecial 1, 3) := by decide +kernel
theorem dX9_init_4 : decode cX9_init 4 = .ok (.aload_n 0, 1) := by decide +kernel
theorem dX9_init_5 : decode cX9_init 5 = .ok (.sipush 258, 3) := by decide +kernel
theorem dX9_init_8 : decode cX9_init 8 = .ok (.newarray .int, 2) := by decide +kernel
theorem dX9_init_10 : decode cX9_init 10 = .ok (.putfield 7, 3) := by decide +kernel
theorem dX9_init_13 : decode cX9_init 13 = .ok (.aload_n 0, 1) := by decide +kernel
theorem dX9_init_14 : decode cX9_init 14 = .ok (.sipush 258, 3) := by decide +kernel
theorem dX9_init_17 : decode cX9_init 17 = .ok (.newarray .int, 2) := by decide +kernel
theorem dX9_init_19 : decode cX9_init 19 = .ok (.putfield 13, 3) := by decide +kernel
theorem dX9_init_22 : decode cX9_init 22 = .ok (.aload_n 0, 1) := by decide +kernel
theorem dX9_init_23 : decode cX9_init 23 = .ok (.sipush 258, 3) := by decide +kernel
theorem dX9_init_26 : decode cX9_init 26 = .ok (.newarray .int, 2) := by decide +kernel
theorem dX9_init_28 : decode cX9_init 28 = .ok (.putfield 16, 3) := by decide +kernel
theorem dX9_init_31 : decode cX9_init 31 = .ok (.aload_n 0, 1) := by decide +kernel
theorem dX9_init_32 : decode cX9_init 32 = .ok (.sipush 1290, 3) := by decide +kernel
theorem dX9_init_35 : decode cX9_init 35 = .ok (.newarray .int, 2) := by decide +kernel
theorem dX9_init_37 : decode cX9_init 37 = .ok (.putfield 19, 3) := by decide +kernel
theorem dX9_init_40 : decode cX9_init 40 = .ok (.aload_n 0, 1) := by decide +kernel
theorem dX9_init_41 : decode cX9_init 41 = .ok (.iconst 3, 1) := by decide +kernel
theorem dX9_init_42 : decode cX9_init 42 = .ok (.newarray .int, 2) := by decide +kernel
theorem dX9_init_44 : decode cX9_init 44 = .ok (.putfield 22, 3) := by decide +kernel
theorem dX9_init_47 : decode cX9_init 47 = .ok (.aload_n 0, 1) := by decide +kernel
theorem dX9_init_48 : decode cX9_init 48 = .ok (.sipush 150, 3) := by decide +kernel
theorem dX9_init_51 : decode cX9_init 51 = .ok (.newarray .int, 2) := by decide +kernel
theorem dX9_init_53 : decode cX9_init 53 = .ok (.putfield 25, 3) := by decide +kernel
theorem dX9_init_56 : decode cX9_init 56 = .ok (.aload_n 0, 1) := by decide +kernel
theorem dX9_init_57 : decode cX9_init 57 = .ok (.sipush 150, 3) := by decide +kernel
theorem dX9_init_60 : decode cX9_init 60 = .ok (.newarray .int, 2) := by decide +kernel
theorem dX9_init_62 : decode cX9_init 62 = .ok (.putfield 28, 3) := by decide +kernel
theorem dX9_init_65 : decode cX9_init 65 = .ok (.aload_n 0, 1) := by decide +kernel
theorem dX9_init_66 : decode cX9_init 66 = .ok (.sipush 151, 3) := by decide +kernel
theorem dX9_init_69 : decode cX9_init 69 = .ok (.newarray .int, 2) := by decide +kernel
theorem dX9_init_71 : decode cX9_init 71 = .ok (.putfield 31, 3) := by decide +kernel
theorem dX9_init_74 : decode cX9_init 74 = .ok (.aload_n 0, 1) := by decide +kernel
theorem dX9_init_75 : decode cX9_init 75 = .ok (.sipush 150, 3) := by decide +kernel
theorem dX9_init_78 : decode cX9_init 78 = .ok (.newarray .int, 2) := by decide +kernel
theorem dX9_init_80 : decode cX9_init 80 = .ok (.putfield 34, 3) := by decide +kernel
theorem dX9_init_83 : decode cX9_init 83 = .ok (.aload_n 0, 1) := by decide +kernel
theorem dX9_init_84 : decode cX9_init 84 = .ok (.sipush 480, 3) := by decide +kernel
theorem dX9_init_87 : decode cX9_init 87 = .ok (.newarray .int, 2) := by decide +kernel
theorem dX9_init_89 : decode cX9_init 89 = .ok (.putfield 37, 3) := by decide +kernel
theorem dX9_init_92 : decode cX9_init 92 = .ok (.aload_n 0, 1) := by decide +kernel
theorem dX9_init_93 : decode cX9_init 93 = .ok (.bipush 16, 2) := by decide +kernel
theorem dX9_init_95 : decode cX9_init 95 = .ok (.newarray .int, 2) := by decide +kernel
theorem dX9_init_97 : decode cX9_init 97 = .ok (.putfield 40, 3) := by decide +kernel
theorem dX9_init_100 : decode cX9_init 100 = .ok (.aload_n 0, 1) := by decide +kernel
theorem dX9_init_101 : decode cX9_init 101 = .ok (.bipush 16, 2) := by decide +kernel
theorem dX9_init_103 : decode cX9_init 103 = .ok (.newarray .int, 2) := by decide +kernel
theorem dX9_init_105 : decode cX9_init 105 = .ok (.putfield 43, 3) := by decide +kernel
theorem dX9_init_108 : decode cX9_init 108 = .ok (.aload_n 0, 1) := by decide +kernel
theorem dX9_init_109 : decode cX9_init 109 = .ok (.bipush 96, 2) := by decide +kernel
theorem dX9_init_111 : decode cX9_init 111 = .ok (.newarray .int, 2) := by decide +kernel
theorem dX9_init_113 : decode cX9_init 113 = .ok (.putfield 46, 3) := by decide +kernel
theorem dX9_init_116 : decode cX9_init 116 = .ok (.aload_n 0, 1) := by decide +kernel
theorem dX9_init_117 : decode cX9_init 117 = .ok (.bipush 16, 2) := by decide +kernel
theorem dX9_init_119 : decode cX9_init 119 = .ok (.newarray .int, 2) := by decide +kernel
theorem dX9_init_121 : decode cX9_init 121 = .ok (.putfield 49, 3) := by decide +kernel
theorem dX9_init_124 : decode cX9_init 124 = .ok (.iconst 0, 1) := by decide +kernel
theorem dX9_init_125 : decode cX9_init 125 = .ok (.istore_n 1, 1) := by decide +kernel
theorem dX9_init_126 : decode cX9_init 126 = .ok (.iload_n 1, 1) := by decide +kernel
theorem dX9_init_127 : decode cX9_init 127 = .ok (.iconst 4, 1) := by decide +kernel
theorem dX9_init_128 : decode cX9_init 128 = .ok (.if_icmp .ge 44, 3) := by decide +kernel
theorem dX9_init_131 : decode cX9_init 131 = .ok (.iconst 0, 1) := by decide +kernel
theorem dX9_init_132 : decode cX9_init 132 = .ok (.istore_n 2, 1) := by decide +kernel
theorem dX9_init_133 : decode cX9_init 133 = .ok (.iload_n 2, 1) := by decide +kernel
theorem dX9_init_134 : decode cX9_init 134 = .ok (.bipush 16, 2) := by decide +kernel
theorem dX9_init_136 : decode cX9_init 136 = .ok (.if_icmp .ge 30, 3) := by decide +kernel
theorem dX9_init_139 : decode cX9_init 139 = .ok (.aload_n 0, 1) := by decide +kernel
theorem dX9_init_140 : decode cX9_init 140 = .ok (.getfield 7, 3) := by decide +kernel
theorem dX9_init_143 : decode cX9_init 143 = .ok (.bipush 64, 2) := by decide +kernel
theorem dX9_init_145 : decode cX9_init 145 = .ok (.iload_n 1, 1) := by decide +kernel
theorem dX9_init_146 : decode cX9_init 146 = .ok (.imul, 1) := by decide +kernel
theorem dX9_init_147 : decode cX9_init 147 = .ok (.iload_n 2, 1) := by decide +kernel
theorem dX9_init_148 : decode cX9_init 148 = .ok (.iadd, 1) := by decide +kernel
theorem dX9_init_149 : decode cX9_init 149 = .ok (.iload_n 2, 1) := by decide +kernel
theorem dX9_init_150 : decode cX9_init 150 = .ok (.ifCond .ne 7, 3) := by decide +kernel
theorem dX9_init_153 : decode cX9_init 153 = .ok (.iconst (-1), 1) := by decide +kernel
theorem dX9_init_154 : decode cX9_init 154 = .ok (.goto 5, 3) := by decide +kernel
theorem dX9_init_157 : decode cX9_init 157 = .ok (.bipush (-9), 2) := by decide +kernel
theorem dX9_init_159 : decode cX9_init 159 = .ok (.iastore, 1) := by decide +kernel
theorem dX9_init_160 : decode cX9_init 160 = .ok (.iinc 2 1, 3) := by decide +kernel
theorem dX9_init_163 : decode cX9_init 163 = .ok (.goto (-30), 3) := by decide +kernel
theorem dX9_init_166 : decode cX9_init 166 = .ok (.iinc 1 1, 3) := by decide +kernel
theorem dX9_init_169 : decode cX9_init 169 = .ok (.goto (-43), 3) := by decide +kernel
theorem dX9_init_172 : decode cX9_init 172 = .ok (.aload_n 0, 1) := by decide +kernel
theorem dX9_init_173 : decode cX9_init 173 = .ok (.getfield 7, 3) := by decide +kernel
theorem dX9_init_176 : decode cX9_init 176 = .ok (.sipush 256, 3) := by decide +kernel
theorem dX9_init_179 : decode cX9_init 179 = .ok (.iconst 1, 1) := by decide +kernel
theorem dX9_init_180 : decode cX9_init 180 = .ok (.iastore, 1) := by decide +kernel
theorem dX9_init_181 : decode cX9_init 181 = .ok (.aload_n 0, 1) := by decide +kernel
theorem dX9_init_182 : decode cX9_init 182 = .ok (.getfield 7, 3) := by decide +kernel
theorem dX9_init_185 : decode cX9_init 185 = .ok (.sipush 257, 3) := by decide +kernel
