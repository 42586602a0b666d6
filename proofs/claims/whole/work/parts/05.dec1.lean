theorem dX1_init_0 : decode cX1_init 0 = .ok (.aload_n 0, 1) := by decide +kernel
theorem dX1_init_1 : decode cX1_init 1 = .ok (.invokespecial 1, 3) := by decide +kernel
theorem dX1_init_4 : decode cX1_init 4 = .ok (.aload_n 0, 1) := by decide +kernel
theorem dX1_init_5 : decode cX1_init 5 = .ok (.bipush 40, 2) := by decide +kernel
theorem dX1_init_7 : decode cX1_init 7 = .ok (.newarray .boolean, 2) := by decide +kernel
theorem dX1_init_9 : decode cX1_init 9 = .ok (.putfield 9, 3) := by decide +kernel
theorem dX1_init_12 : decode cX1_init 12 = .ok (.aload_n 0, 1) := by decide +kernel
theorem dX1_init_13 : decode cX1_init 13 = .ok (.bipush 40, 2) := by decide +kernel
theorem dX1_init_15 : decode cX1_init 15 = .ok (.newarray .int, 2) := by decide +kernel
theorem dX1_init_17 : decode cX1_init 17 = .ok (.putfield 13, 3) := by decide +kernel
theorem dX1_init_20 : decode cX1_init 20 = .ok (.aload_n 0, 1) := by decide +kernel
theorem dX1_init_21 : decode cX1_init 21 = .ok (.sipush 1280, 3) := by decide +kernel
theorem dX1_init_24 : decode cX1_init 24 = .ok (.newarray .int, 2) := by decide +kernel
theorem dX1_init_26 : decode cX1_init 26 = .ok (.putfield 17, 3) := by decide +kernel
theorem dX1_init_29 : decode cX1_init 29 = .ok (.aload_n 0, 1) := by decide +kernel
theorem dX1_init_30 : decode cX1_init 30 = .ok (.sipush 1600, 3) := by decide +kernel
theorem dX1_init_33 : decode cX1_init 33 = .ok (.newarray .int, 2) := by decide +kernel
theorem dX1_init_35 : decode cX1_init 35 = .ok (.putfield 20, 3) := by decide +kernel
theorem dX1_init_38 : decode cX1_init 38 = .ok (.aload_n 0, 1) := by decide +kernel
theorem dX1_init_39 : decode cX1_init 39 = .ok (.bipush 32, 2) := by decide +kernel
theorem dX1_init_41 : decode cX1_init 41 = .ok (.newarray .int, 2) := by decide +kernel
theorem dX1_init_43 : decode cX1_init 43 = .ok (.putfield 23, 3) := by decide +kernel
theorem dX1_init_46 : decode cX1_init 46 = .ok (.return_, 1) := by decide +kernel
theorem dX1_thrown_0 : decode cX1_thrown 0 = .ok (.aload_n 0, 1) := by decide +kernel
theorem dX1_thrown_1 : decode cX1_thrown 1 = .ok (.getfield 26, 3) := by decide +kernel
theorem dX1_thrown_4 : decode cX1_thrown 4 = .ok (.ireturn, 1) := by decide +kernel
theorem dX1_make_0 : decode cX1_make 0 = .ok (.aload_n 0, 1) := by decide +kernel
theorem dX1_make_1 : decode cX1_make 1 = .ok (.iload_n 1, 1) := by decide +kernel
theorem dX1_make_2 : decode cX1_make 2 = .ok (.ifCond .lt 9, 3) := by decide +kernel
theorem dX1_make_5 : decode cX1_make 5 = .ok (.iload_n 1, 1) := by decide +kernel
theorem dX1_make_6 : decode cX1_make 6 = .ok (.bipush 32, 2) := by decide +kernel
theorem dX1_make_8 : decode cX1_make 8 = .ok (.if_icmp .le 7, 3) := by decide +kernel
theorem dX1_make_11 : decode cX1_make 11 = .ok (.iconst 1, 1) := by decide +kernel
theorem dX1_make_12 : decode cX1_make 12 = .ok (.goto 17, 3) := by decide +kernel
theorem dX1_make_15 : decode cX1_make 15 = .ok (.aload_n 0, 1) := by decide +kernel
theorem dX1_make_16 : decode cX1_make 16 = .ok (.invokevirtual 42, 3) := by decide +kernel
theorem dX1_make_19 : decode cX1_make 19 = .ok (.bipush 40, 2) := by decide +kernel
theorem dX1_make_21 : decode cX1_make 21 = .ok (.if_icmp .ne 7, 3) := by decide +kernel
theorem dX1_make_24 : decode cX1_make 24 = .ok (.iconst 2, 1) := by decide +kernel
theorem dX1_make_25 : decode cX1_make 25 = .ok (.goto 4, 3) := by decide +kernel
theorem dX1_make_28 : decode cX1_make 28 = .ok (.iconst 0, 1) := by decide +kernel
theorem dX1_make_29 : decode cX1_make 29 = .ok (.putfield 26, 3) := by decide +kernel
theorem dX1_make_32 : decode cX1_make 32 = .ok (.aload_n 0, 1) := by decide +kernel
theorem dX1_make_33 : decode cX1_make 33 = .ok (.getfield 26, 3) := by decide +kernel
theorem dX1_make_36 : decode cX1_make 36 = .ok (.ifCond .le 5, 3) := by decide +kernel
theorem dX1_make_39 : decode cX1_make 39 = .ok (.iconst 0, 1) := by decide +kernel
theorem dX1_make_40 : decode cX1_make 40 = .ok (.ireturn, 1) := by decide +kernel
theorem dX1_make_41 : decode cX1_make 41 = .ok (.aload_n 0, 1) := by decide +kernel
theorem dX1_make_42 : decode cX1_make 42 = .ok (.invokevirtual 42, 3) := by decide +kernel
theorem dX1_make_45 : decode cX1_make 45 = .ok (.istore_n 2, 1) := by decide +kernel
theorem dX1_make_46 : decode cX1_make 46 = .ok (.aload_n 0, 1) := by decide +kernel
theorem dX1_make_47 : decode cX1_make 47 = .ok (.getfield 9, 3) := by decide +kernel
theorem dX1_make_50 : decode cX1_make 50 = .ok (.iload_n 2, 1) := by decide +kernel
theorem dX1_make_51 : decode cX1_make 51 = .ok (.iconst 1, 1) := by decide +kernel
theorem dX1_make_52 : decode cX1_make 52 = .ok (.bastore, 1) := by decide +kernel
theorem dX1_make_53 : decode cX1_make 53 = .ok (.aload_n 0, 1) := by decide +kernel
theorem dX1_make_54 : decode cX1_make 54 = .ok (.getfield 13, 3) := by decide +kernel
theorem dX1_make_57 : decode cX1_make 57 = .ok (.iload_n 2, 1) := by decide +kernel
theorem dX1_make_58 : decode cX1_make 58 = .ok (.iload_n 1, 1) := by decide +kernel
theorem dX1_make_59 : decode cX1_make 59 = .ok (.iastore, 1) := by decide +kernel
theorem dX1_make_60 : decode cX1_make 60 = .ok (.iconst 0, 1) := by decide +kernel
theorem dX1_make_61 : decode cX1_make 61 = .ok (.istore_n 3, 1) := by decide +kernel
theorem dX1_make_62 : decode cX1_make 62 = .ok (.iload_n 3, 1) := by decide +kernel
theorem dX1_make_63 : decode cX1_make 63 = .ok (.iload_n 1, 1) := by decide +kernel
theorem dX1_make_64 : decode cX1_make 64 = .ok (.if_icmp .ge 21, 3) := by decide +kernel
theorem dX1_make_67 : decode cX1_make 67 = .ok (.aload_n 0, 1) := by decide +kernel
theorem dX1_make_68 : decode cX1_make 68 = .ok (.getfield 17, 3) := by decide +kernel
theorem dX1_make_71 : decode cX1_make 71 = .ok (.bipush 32, 2) := by decide +kernel
theorem dX1_make_73 : decode cX1_make 73 = .ok (.iload_n 2, 1) := by decide +kernel
theorem dX1_make_74 : decode cX1_make 74 = .ok (.imul, 1) := by decide +kernel
theorem dX1_make_75 : decode cX1_make 75 = .ok (.iload_n 3, 1) := by decide +kernel
theorem dX1_make_76 : decode cX1_make 76 = .ok (.iadd, 1) := by decide +kernel
theorem dX1_make_77 : decode cX1_make 77 = .ok (.iconst (-1), 1) := by decide +kernel
theorem dX1_make_78 : decode cX1_make 78 = .ok (.iastore, 1) := by decide +kernel
theorem dX1_make_79 : decode cX1_make 79 = .ok (.iinc 3 1, 3) := by decide +kernel
theorem dX1_make_82 : decode cX1_make 82 = .ok (.goto (-20), 3) := by decide +kernel
theorem dX1_make_85 : decode cX1_make 85 = .ok (.iload_n 2, 1) := by decide +kernel
theorem dX1_make_86 : decode cX1_make 86 = .ok (.ireturn, 1) := by decide +kernel
theorem dX1_row_0 : decode cX1_row 0 = .ok (.iconst 0, 1) := by decide +kernel
theorem dX1_row_1 : decode cX1_row 1 = .ok (.istore_n 1, 1) := by decide +kernel
theorem dX1_row_2 : decode cX1_row 2 = .ok (.iload_n 1, 1) := by decide +kernel
theorem dX1_row_3 : decode cX1_row 3 = .ok (.bipush 40, 2) := by decide +kernel
theorem dX1_row_5 : decode cX1_row 5 = .ok (.if_icmp .ge 18, 3) := by decide +kernel
theorem dX1_row_8 : decode cX1_row 8 = .ok (.aload_n 0, 1) := by decide +kernel
theorem dX1_row_9 : decode cX1_row 9 = .ok (.getfield 9, 3) := by decide +kernel
theorem dX1_row_12 : decode cX1_row 12 = .ok (.iload_n 1, 1) := by decide +kernel
theorem dX1_row_13 : decode cX1_row 13 = .ok (.baload, 1) := by decide +kernel
theorem dX1_row_14 : decode cX1_row 14 = .ok (.ifCond .eq 9, 3) := by decide +kernel
theorem dX1_row_17 : decode cX1_row 17 = .ok (.iinc 1 1, 3) := by decide +kernel
theorem dX1_row_20 : decode cX1_row 20 = .ok (.goto (-18), 3) := by decide +kernel
theorem dX1_row_23 : decode cX1_row 23 = .ok (.iload_n 1, 1) := by decide +kernel
theorem dX1_row_24 : decode cX1_row 24 = .ok (.ireturn, 1) := by decide +kernel
theorem dX1_share_0 : decode cX1_share 0 = .ok (.aload_n 0, 1) := by decide +kernel
theorem dX1_share_1 : decode cX1_share 1 = .ok (.iload_n 1, 1) := by decide +kernel
theorem dX1_share_2 : decode cX1_share 2 = .ok (.invokevirtual 30, 3) := by decide +kernel
theorem dX1_share_5 : decode cX1_share 5 = .ok (.ifCond .eq 5, 3) := by decide +kernel
theorem dX1_share_8 : decode cX1_share 8 = .ok (.iconst 0, 1) := by decide +kernel
theorem dX1_share_9 : decode cX1_share 9 = .ok (.ireturn, 1) := by decide +kernel
theorem dX1_share_10 : decode cX1_share 10 = .ok (.aload_n 0, 1) := by decide +kernel
theorem dX1_share_11 : decode cX1_share 11 = .ok (.iload_n 1, 1) := by decide +kernel
theorem dX1_share_12 : decode cX1_share 12 = .ok (.iload_n 2, 1) := by decide +kernel
theorem dX1_share_13 : decode cX1_share 13 = .ok (.iload_n 3, 1) := by decide +kernel
theorem dX1_share_14 : decode cX1_share 14 = .ok (.invokevirtual 46, 3) := by decide +kernel
theorem dX1_share_17 : decode cX1_share 17 = .ok (.ifCond .eq 9, 3) := by decide +kernel
theorem dX1_share_20 : decode cX1_share 20 = .ok (.aload_n 0, 1) := by decide +kernel
theorem dX1_share_21 : decode cX1_share 21 = .ok (.iconst 1, 1) := by decide +kernel
theorem dX1_share_22 : decode cX1_share 22 = .ok (.invokevirtual 50, 3) := by decide +kernel
theorem dX1_share_25 : decode cX1_share 25 = .ok (.ireturn, 1) := by decide +kernel
theorem dX1_share_26 : decode cX1_share 26 = .ok (.aload_n 0, 1) := by decide +kernel
theorem dX1_share_27 : decode cX1_share 27 = .ok (.invokevirtual 42, 3) := by decide +kernel
theorem dX1_share_30 : decode cX1_share 30 = .ok (.bipush 40, 2) := by decide +kernel
theorem dX1_share_32 : decode cX1_share 32 = .ok (.if_icmp .ne 9, 3) := by decide +kernel
theorem dX1_share_35 : decode cX1_share 35 = .ok (.aload_n 0, 1) := by decide +kernel
theorem dX1_share_36 : decode cX1_share 36 = .ok (.iconst 2, 1) := by decide +kernel
theorem dX1_share_37 : decode cX1_share 37 = .ok (.invokevirtual 50, 3) := by decide +kernel
theorem dX1_share_40 : decode cX1_share 40 = .ok (.ireturn, 1) := by decide +kernel
theorem dX1_share_41 : decode cX1_share 41 = .ok (.aload_n 0, 1) := by decide +kernel
theorem dX1_share_42 : decode cX1_share 42 = .ok (.invokevirtual 42, 3) := by decide +kernel
theorem dX1_share_45 : decode cX1_share 45 = .ok (.istore 4, 2) := by decide +kernel
theorem dX1_share_47 : decode cX1_share 47 = .ok (.aload_n 0, 1) := by decide +kernel
theorem dX1_share_48 : decode cX1_share 48 = .ok (.getfield 9, 3) := by decide +kernel
theorem dX1_share_51 : decode cX1_share 51 = .ok (.iload 4, 2) := by decide +kernel
theorem dX1_share_53 : decode cX1_share 53 = .ok (.iconst 1, 1) := by decide +kernel
theorem dX1_share_54 : decode cX1_share 54 = .ok (.bastore, 1) := by decide +kernel
theorem dX1_share_55 : decode cX1_share 55 = .ok (.aload_n 0, 1) := by decide +kernel
theorem dX1_share_56 : decode cX1_share 56 = .ok (.getfield 13, 3) := by decide +kernel
theorem dX1_share_59 : decode cX1_share 59 = .ok (.iload 4, 2) := by decide +kernel
theorem dX1_share_61 : decode cX1_share 61 = .ok (.iload_n 3, 1) := by decide +kernel
theorem dX1_share_62 : decode cX1_share 62 = .ok (.iastore, 1) := by decide +kernel
theorem dX1_share_63 : decode cX1_share 63 = .ok (.iconst 0, 1) := by decide +kernel
theorem dX1_share_64 : decode cX1_share 64 = .ok (.istore 5, 2) := by decide +kernel
theorem dX1_share_66 : decode cX1_share 66 = .ok (.iload 5, 2) := by decide +kernel
theorem dX1_share_68 : decode cX1_share 68 = .ok (.iload_n 3, 1) := by decide +kernel
theorem dX1_share_69 : decode cX1_share 69 = .ok (.if_icmp .ge 31, 3) := by decide +kernel
theorem dX1_share_72 : decode cX1_share 72 = .ok (.aload_n 0, 1) := by decide +kernel
theorem dX1_share_73 : decode cX1_share 73 = .ok (.getfield 17, 3) := by decide +kernel
theorem dX1_share_76 : decode cX1_share 76 = .ok (.bipush 32, 2) := by decide +kernel
theorem dX1_share_78 : decode cX1_share 78 = .ok (.iload 4, 2) := by decide +kernel
theorem dX1_share_80 : decode cX1_share 80 = .ok (.imul, 1) := by decide +kernel
theorem dX1_share_81 : decode cX1_share 81 = .ok (.iload 5, 2) := by decide +kernel
theorem dX1_share_83 : decode cX1_share 83 = .ok (.iadd, 1) := by decide +kernel
theorem dX1_share_84 : decode cX1_share 84 = .ok (.aload_n 0, 1) := by decide +kernel
theorem dX1_share_85 : decode cX1_share 85 = .ok (.iload_n 1, 1) := by decide +kernel
theorem dX1_share_86 : decode cX1_share 86 = .ok (.iload_n 2, 1) := by decide +kernel
theorem dX1_share_87 : decode cX1_share 87 = .ok (.iload 5, 2) := by decide +kernel
theorem dX1_share_89 : decode cX1_share 89 = .ok (.iadd, 1) := by decide +kernel
theorem dX1_share_90 : decode cX1_share 90 = .ok (.invokevirtual 34, 3) := by decide +kernel
theorem dX1_share_93 : decode cX1_share 93 = .ok (.iastore, 1) := by decide +kernel
theorem dX1_share_94 : decode cX1_share 94 = .ok (.iinc 5 1, 3) := by decide +kernel
theorem dX1_share_97 : decode cX1_share 97 = .ok (.goto (-31), 3) := by decide +kernel
theorem dX1_share_100 : decode cX1_share 100 = .ok (.iload 4, 2) := by decide +kernel
theorem dX1_share_102 : decode cX1_share 102 = .ok (.ireturn, 1) := by decide +kernel
theorem dX1_lacks_0 : decode cX1_lacks 0 = .ok (.aload_n 0, 1) := by decide +kernel
theorem dX1_lacks_1 : decode cX1_lacks 1 = .ok (.iload_n 1, 1) := by decide +kernel
theorem dX1_lacks_2 : decode cX1_lacks 2 = .ok (.ifCond .lt 18, 3) := by decide +kernel
theorem dX1_lacks_5 : decode cX1_lacks 5 = .ok (.iload_n 1, 1) := by decide +kernel
theorem dX1_lacks_6 : decode cX1_lacks 6 = .ok (.bipush 40, 2) := by decide +kernel
theorem dX1_lacks_8 : decode cX1_lacks 8 = .ok (.if_icmp .ge 12, 3) := by decide +kernel
theorem dX1_lacks_11 : decode cX1_lacks 11 = .ok (.aload_n 0, 1) := by decide +kernel
theorem dX1_lacks_12 : decode cX1_lacks 12 = .ok (.getfield 9, 3) := by decide +kernel
theorem dX1_lacks_15 : decode cX1_lacks 15 = .ok (.iload_n 1, 1) := by decide +kernel
theorem dX1_lacks_16 : decode cX1_lacks 16 = .ok (.baload, 1) := by decide +kernel
theorem dX1_lacks_17 : decode cX1_lacks 17 = .ok (.ifCond .ne 7, 3) := by decide +kernel
theorem dX1_lacks_20 : decode cX1_lacks 20 = .ok (.iconst 1, 1) := by decide +kernel
theorem dX1_lacks_21 : decode cX1_lacks 21 = .ok (.goto 4, 3) := by decide +kernel
theorem dX1_lacks_24 : decode cX1_lacks 24 = .ok (.iconst 0, 1) := by decide +kernel
theorem dX1_lacks_25 : decode cX1_lacks 25 = .ok (.putfield 26, 3) := by decide +kernel
theorem dX1_lacks_28 : decode cX1_lacks 28 = .ok (.aload_n 0, 1) := by decide +kernel
theorem dX1_lacks_29 : decode cX1_lacks 29 = .ok (.getfield 26, 3) := by decide +kernel
theorem dX1_lacks_32 : decode cX1_lacks 32 = .ok (.ifCond .le 7, 3) := by decide +kernel
theorem dX1_lacks_35 : decode cX1_lacks 35 = .ok (.iconst 1, 1) := by decide +kernel
theorem dX1_lacks_36 : decode cX1_lacks 36 = .ok (.goto 4, 3) := by decide +kernel
theorem dX1_lacks_39 : decode cX1_lacks 39 = .ok (.iconst 0, 1) := by decide +kernel
theorem dX1_lacks_40 : decode cX1_lacks 40 = .ok (.ireturn, 1) := by decide +kernel
theorem dX1_none_0 : decode cX1_none 0 = .ok (.iload_n 2, 1) := by decide +kernel
theorem dX1_none_1 : decode cX1_none 1 = .ok (.ifCond .lt 29, 3) := by decide +kernel
theorem dX1_none_4 : decode cX1_none 4 = .ok (.iload_n 3, 1) := by decide +kernel
theorem dX1_none_5 : decode cX1_none 5 = .ok (.ifCond .lt 25, 3) := by decide +kernel
theorem dX1_none_8 : decode cX1_none 8 = .ok (.iload_n 3, 1) := by decide +kernel
theorem dX1_none_9 : decode cX1_none 9 = .ok (.aload_n 0, 1) := by decide +kernel
theorem dX1_none_10 : decode cX1_none 10 = .ok (.getfield 13, 3) := by decide +kernel
theorem dX1_none_13 : decode cX1_none 13 = .ok (.iload_n 1, 1) := by decide +kernel
theorem dX1_none_14 : decode cX1_none 14 = .ok (.iaload, 1) := by decide +kernel
theorem dX1_none_15 : decode cX1_none 15 = .ok (.if_icmp .gt 15, 3) := by decide +kernel
theorem dX1_none_18 : decode cX1_none 18 = .ok (.iload_n 2, 1) := by decide +kernel
theorem dX1_none_19 : decode cX1_none 19 = .ok (.aload_n 0, 1) := by decide +kernel
theorem dX1_none_20 : decode cX1_none 20 = .ok (.getfield 13, 3) := by decide +kernel
theorem dX1_none_23 : decode cX1_none 23 = .ok (.iload_n 1, 1) := by decide +kernel
theorem dX1_none_24 : decode cX1_none 24 = .ok (.iaload, 1) := by decide +kernel
theorem dX1_none_25 : decode cX1_none 25 = .ok (.iload_n 3, 1) := by decide +kernel
theorem dX1_none_26 : decode cX1_none 26 = .ok (.isub, 1) := by decide +kernel
theorem dX1_none_27 : decode cX1_none 27 = .ok (.if_icmp .le 7, 3) := by decide +kernel
theorem dX1_none_30 : decode cX1_none 30 = .ok (.iconst 1, 1) := by decide +kernel
theorem dX1_none_31 : decode cX1_none 31 = .ok (.goto 4, 3) := by decide +kernel
theorem dX1_none_34 : decode cX1_none 34 = .ok (.iconst 0, 1) := by decide +kernel
theorem dX1_none_35 : decode cX1_none 35 = .ok (.ireturn, 1) := by decide +kernel
theorem dX1_fail_0 : decode cX1_fail 0 = .ok (.aload_n 0, 1) := by decide +kernel
theorem dX1_fail_1 : decode cX1_fail 1 = .ok (.iload_n 1, 1) := by decide +kernel
theorem dX1_fail_2 : decode cX1_fail 2 = .ok (.putfield 26, 3) := by decide +kernel
theorem dX1_fail_5 : decode cX1_fail 5 = .ok (.iconst 0, 1) := by decide +kernel
theorem dX1_fail_6 : decode cX1_fail 6 = .ok (.ireturn, 1) := by decide +kernel
theorem dX1_at_0 : decode cX1_at 0 = .ok (.aload_n 0, 1) := by decide +kernel
theorem dX1_at_1 : decode cX1_at 1 = .ok (.getfield 17, 3) := by decide +kernel
theorem dX1_at_4 : decode cX1_at 4 = .ok (.bipush 32, 2) := by decide +kernel
theorem dX1_at_6 : decode cX1_at 6 = .ok (.iload_n 1, 1) := by decide +kernel
theorem dX1_at_7 : decode cX1_at 7 = .ok (.imul, 1) := by decide +kernel
theorem dX1_at_8 : decode cX1_at 8 = .ok (.iload_n 2, 1) := by decide +kernel
theorem dX1_at_9 : decode cX1_at 9 = .ok (.iadd, 1) := by decide +kernel
theorem dX1_at_10 : decode cX1_at 10 = .ok (.iaload, 1) := by decide +kernel
theorem dX1_at_11 : decode cX1_at 11 = .ok (.ireturn, 1) := by decide +kernel
theorem dX1_drop_0 : decode cX1_drop 0 = .ok (.aload_n 0, 1) := by decide +kernel
theorem dX1_drop_1 : decode cX1_drop 1 = .ok (.iload_n 1, 1) := by decide +kernel
theorem dX1_drop_2 : decode cX1_drop 2 = .ok (.invokevirtual 30, 3) := by decide +kernel
theorem dX1_drop_5 : decode cX1_drop 5 = .ok (.ifCond .eq 5, 3) := by decide +kernel
theorem dX1_drop_8 : decode cX1_drop 8 = .ok (.iconst 0, 1) := by decide +kernel
theorem dX1_drop_9 : decode cX1_drop 9 = .ok (.ireturn, 1) := by decide +kernel
theorem dX1_drop_10 : decode cX1_drop 10 = .ok (.aload_n 0, 1) := by decide +kernel
theorem dX1_drop_11 : decode cX1_drop 11 = .ok (.invokevirtual 53, 3) := by decide +kernel
theorem dX1_drop_14 : decode cX1_drop 14 = .ok (.istore_n 2, 1) := by decide +kernel
theorem dX1_drop_15 : decode cX1_drop 15 = .ok (.aload_n 0, 1) := by decide +kernel
theorem dX1_drop_16 : decode cX1_drop 16 = .ok (.getfield 9, 3) := by decide +kernel
theorem dX1_drop_19 : decode cX1_drop 19 = .ok (.iload_n 1, 1) := by decide +kernel
theorem dX1_drop_20 : decode cX1_drop 20 = .ok (.iconst 0, 1) := by decide +kernel
theorem dX1_drop_21 : decode cX1_drop 21 = .ok (.bastore, 1) := by decide +kernel
theorem dX1_drop_22 : decode cX1_drop 22 = .ok (.iload_n 2, 1) := by decide +kernel
theorem dX1_drop_23 : decode cX1_drop 23 = .ok (.aload_n 0, 1) := by decide +kernel
theorem dX1_drop_24 : decode cX1_drop 24 = .ok (.invokevirtual 53, 3) := by decide +kernel
theorem dX1_drop_27 : decode cX1_drop 27 = .ok (.isub, 1) := by decide +kernel
theorem dX1_drop_28 : decode cX1_drop 28 = .ok (.ireturn, 1) := by decide +kernel
theorem dX1_frames_0 : decode cX1_frames 0 = .ok (.iconst 0, 1) := by decide +kernel
theorem dX1_frames_1 : decode cX1_frames 1 = .ok (.istore_n 1, 1) := by decide +kernel
theorem dX1_frames_2 : decode cX1_frames 2 = .ok (.iconst 0, 1) := by decide +kernel
theorem dX1_frames_3 : decode cX1_frames 3 = .ok (.istore_n 2, 1) := by decide +kernel
theorem dX1_frames_4 : decode cX1_frames 4 = .ok (.iload_n 2, 1) := by decide +kernel
theorem dX1_frames_5 : decode cX1_frames 5 = .ok (.sipush 200, 3) := by decide +kernel
theorem dX1_frames_8 : decode cX1_frames 8 = .ok (.if_icmp .ge 20, 3) := by decide +kernel
theorem dX1_frames_11 : decode cX1_frames 11 = .ok (.aload_n 0, 1) := by decide +kernel
theorem dX1_frames_12 : decode cX1_frames 12 = .ok (.iload_n 2, 1) := by decide +kernel
theorem dX1_frames_13 : decode cX1_frames 13 = .ok (.invokevirtual 38, 3) := by decide +kernel
theorem dX1_frames_16 : decode cX1_frames 16 = .ok (.ifCond .le 6, 3) := by decide +kernel
theorem dX1_frames_19 : decode cX1_frames 19 = .ok (.iinc 1 1, 3) := by decide +kernel
theorem dX1_frames_22 : decode cX1_frames 22 = .ok (.iinc 2 1, 3) := by decide +kernel
theorem dX1_frames_25 : decode cX1_frames 25 = .ok (.goto (-21), 3) := by decide +kernel
theorem dX1_frames_28 : decode cX1_frames 28 = .ok (.iload_n 1, 1) := by decide +kernel
theorem dX1_frames_29 : decode cX1_frames 29 = .ok (.ireturn, 1) := by decide +kernel
theorem dX1_holdersOf_0 : decode cX1_holdersOf 0 = .ok (.iconst 0, 1) := by decide +kernel
theorem dX1_holdersOf_1 : decode cX1_holdersOf 1 = .ok (.istore_n 2, 1) := by decide +kernel
theorem dX1_holdersOf_2 : decode cX1_holdersOf 2 = .ok (.iconst 0, 1) := by decide +kernel
theorem dX1_holdersOf_3 : decode cX1_holdersOf 3 = .ok (.istore_n 3, 1) := by decide +kernel
theorem dX1_holdersOf_4 : decode cX1_holdersOf 4 = .ok (.iload_n 3, 1) := by decide +kernel
theorem dX1_holdersOf_5 : decode cX1_holdersOf 5 = .ok (.bipush 40, 2) := by decide +kernel
theorem dX1_holdersOf_7 : decode cX1_holdersOf 7 = .ok (.if_icmp .ge 52, 3) := by decide +kernel
theorem dX1_holdersOf_10 : decode cX1_holdersOf 10 = .ok (.iconst 0, 1) := by decide +kernel
theorem dX1_holdersOf_11 : decode cX1_holdersOf 11 = .ok (.istore 4, 2) := by decide +kernel
theorem dX1_holdersOf_13 : decode cX1_holdersOf 13 = .ok (.aload_n 0, 1) := by decide +kernel
theorem dX1_holdersOf_14 : decode cX1_holdersOf 14 = .ok (.getfield 9, 3) := by decide +kernel
theorem dX1_holdersOf_17 : decode cX1_holdersOf 17 = .ok (.iload_n 3, 1) := by decide +kernel
theorem dX1_holdersOf_18 : decode cX1_holdersOf 18 = .ok (.baload, 1) := by decide +kernel
theorem dX1_holdersOf_19 : decode cX1_holdersOf 19 = .ok (.ifCond .eq 34, 3) := by decide +kernel
theorem dX1_holdersOf_22 : decode cX1_holdersOf 22 = .ok (.iload 4, 2) := by decide +kernel
theorem dX1_holdersOf_24 : decode cX1_holdersOf 24 = .ok (.aload_n 0, 1) := by decide +kernel
theorem dX1_holdersOf_25 : decode cX1_holdersOf 25 = .ok (.getfield 13, 3) := by decide +kernel
theorem dX1_holdersOf_28 : decode cX1_holdersOf 28 = .ok (.iload_n 3, 1) := by decide +kernel
theorem dX1_holdersOf_29 : decode cX1_holdersOf 29 = .ok (.iaload, 1) := by decide +kernel
theorem dX1_holdersOf_30 : decode cX1_holdersOf 30 = .ok (.if_icmp .ge 23, 3) := by decide +kernel
theorem dX1_holdersOf_33 : decode cX1_holdersOf 33 = .ok (.aload_n 0, 1) := by decide +kernel
theorem dX1_holdersOf_34 : decode cX1_holdersOf 34 = .ok (.iload_n 3, 1) := by decide +kernel
theorem dX1_holdersOf_35 : decode cX1_holdersOf 35 = .ok (.iload 4, 2) := by decide +kernel
theorem dX1_holdersOf_37 : decode cX1_holdersOf 37 = .ok (.invokevirtual 34, 3) := by decide +kernel
theorem dX1_holdersOf_40 : decode cX1_holdersOf 40 = .ok (.iload_n 1, 1) := by decide +kernel
theorem dX1_holdersOf_41 : decode cX1_holdersOf 41 = .ok (.if_icmp .ne 6, 3) := by decide +kernel
theorem dX1_holdersOf_44 : decode cX1_holdersOf 44 = .ok (.iinc 2 1, 3) := by decide +kernel
theorem dX1_holdersOf_47 : decode cX1_holdersOf 47 = .ok (.iinc 4 1, 3) := by decide +kernel
theorem dX1_holdersOf_50 : decode cX1_holdersOf 50 = .ok (.goto (-37), 3) := by decide +kernel
theorem dX1_holdersOf_53 : decode cX1_holdersOf 53 = .ok (.iinc 3 1, 3) := by decide +kernel
theorem dX1_holdersOf_56 : decode cX1_holdersOf 56 = .ok (.goto (-52), 3) := by decide +kernel
theorem dX1_holdersOf_59 : decode cX1_holdersOf 59 = .ok (.iload_n 2, 1) := by decide +kernel
theorem dX1_holdersOf_60 : decode cX1_holdersOf 60 = .ok (.ireturn, 1) := by decide +kernel
theorem dX1_write_0 : decode cX1_write 0 = .ok (.aload_n 0, 1) := by decide +kernel
theorem dX1_write_1 : decode cX1_write 1 = .ok (.iload_n 1, 1) := by decide +kernel
theorem dX1_write_2 : decode cX1_write 2 = .ok (.iload_n 2, 1) := by decide +kernel
theorem dX1_write_3 : decode cX1_write 3 = .ok (.invokevirtual 59, 3) := by decide +kernel
theorem dX1_write_6 : decode cX1_write 6 = .ok (.ifCond .ne 5, 3) := by decide +kernel
theorem dX1_write_9 : decode cX1_write 9 = .ok (.iconst 0, 1) := by decide +kernel
theorem dX1_write_10 : decode cX1_write 10 = .ok (.ireturn, 1) := by decide +kernel
theorem dX1_write_11 : decode cX1_write 11 = .ok (.iload_n 3, 1) := by decide +kernel
theorem dX1_write_12 : decode cX1_write 12 = .ok (.ifCond .lt 9, 3) := by decide +kernel
theorem dX1_write_15 : decode cX1_write 15 = .ok (.iload_n 3, 1) := by decide +kernel
theorem dX1_write_16 : decode cX1_write 16 = .ok (.bipush 8, 2) := by decide +kernel
theorem dX1_write_18 : decode cX1_write 18 = .ok (.if_icmp .lt 9, 3) := by decide +kernel
theorem dX1_write_21 : decode cX1_write 21 = .ok (.aload_n 0, 1) := by decide +kernel
theorem dX1_write_22 : decode cX1_write 22 = .ok (.iconst 1, 1) := by decide +kernel
theorem dX1_write_23 : decode cX1_write 23 = .ok (.invokevirtual 50, 3) := by decide +kernel
theorem dX1_write_26 : decode cX1_write 26 = .ok (.ireturn, 1) := by decide +kernel
theorem dX1_write_27 : decode cX1_write 27 = .ok (.aload_n 0, 1) := by decide +kernel
theorem dX1_write_28 : decode cX1_write 28 = .ok (.iload_n 1, 1) := by decide +kernel
theorem dX1_write_29 : decode cX1_write 29 = .ok (.iload_n 2, 1) := by decide +kernel
theorem dX1_write_30 : decode cX1_write 30 = .ok (.iload_n 3, 1) := by decide +kernel
theorem dX1_write_31 : decode cX1_write 31 = .ok (.invokevirtual 63, 3) := by decide +kernel
theorem dX1_write_34 : decode cX1_write 34 = .ok (.istore 5, 2) := by decide +kernel
theorem dX1_write_36 : decode cX1_write 36 = .ok (.aload_n 0, 1) := by decide +kernel
theorem dX1_write_37 : decode cX1_write 37 = .ok (.iload_n 1, 1) := by decide +kernel
theorem dX1_write_38 : decode cX1_write 38 = .ok (.iload_n 2, 1) := by decide +kernel
theorem dX1_write_39 : decode cX1_write 39 = .ok (.invokevirtual 34, 3) := by decide +kernel
theorem dX1_write_42 : decode cX1_write 42 = .ok (.iconst (-1), 1) := by decide +kernel
theorem dX1_write_43 : decode cX1_write 43 = .ok (.if_icmp .ne 11, 3) := by decide +kernel
theorem dX1_write_46 : decode cX1_write 46 = .ok (.iload 4, 2) := by decide +kernel
theorem dX1_write_48 : decode cX1_write 48 = .ok (.ifCond .ne 6, 3) := by decide +kernel
theorem dX1_write_51 : decode cX1_write 51 = .ok (.iload 5, 2) := by decide +kernel
theorem dX1_write_53 : decode cX1_write 53 = .ok (.ireturn, 1) := by decide +kernel
theorem dX1_write_54 : decode cX1_write 54 = .ok (.aload_n 0, 1) := by decide +kernel
theorem dX1_write_55 : decode cX1_write 55 = .ok (.iload_n 1, 1) := by decide +kernel
theorem dX1_write_56 : decode cX1_write 56 = .ok (.iload_n 2, 1) := by decide +kernel
theorem dX1_write_57 : decode cX1_write 57 = .ok (.invokevirtual 67, 3) := by decide +kernel
theorem dX1_write_60 : decode cX1_write 60 = .ok (.ifCond .ne 9, 3) := by decide +kernel
theorem dX1_write_63 : decode cX1_write 63 = .ok (.aload_n 0, 1) := by decide +kernel
theorem dX1_write_64 : decode cX1_write 64 = .ok (.iconst 2, 1) := by decide +kernel
theorem dX1_write_65 : decode cX1_write 65 = .ok (.invokevirtual 50, 3) := by decide +kernel
theorem dX1_write_68 : decode cX1_write 68 = .ok (.ireturn, 1) := by decide +kernel
theorem dX1_write_69 : decode cX1_write 69 = .ok (.aload_n 0, 1) := by decide +kernel
theorem dX1_write_70 : decode cX1_write 70 = .ok (.getfield 20, 3) := by decide +kernel
theorem dX1_write_73 : decode cX1_write 73 = .ok (.bipush 8, 2) := by decide +kernel
theorem dX1_write_75 : decode cX1_write 75 = .ok (.aload_n 0, 1) := by decide +kernel
theorem dX1_write_76 : decode cX1_write 76 = .ok (.iload_n 1, 1) := by decide +kernel
theorem dX1_write_77 : decode cX1_write 77 = .ok (.iload_n 2, 1) := by decide +kernel
theorem dX1_write_78 : decode cX1_write 78 = .ok (.invokevirtual 34, 3) := by decide +kernel
theorem dX1_write_81 : decode cX1_write 81 = .ok (.imul, 1) := by decide +kernel
theorem dX1_write_82 : decode cX1_write 82 = .ok (.iload_n 3, 1) := by decide +kernel
theorem dX1_write_83 : decode cX1_write 83 = .ok (.iadd, 1) := by decide +kernel
theorem dX1_write_84 : decode cX1_write 84 = .ok (.iload 4, 2) := by decide +kernel
theorem dX1_write_86 : decode cX1_write 86 = .ok (.iastore, 1) := by decide +kernel
theorem dX1_write_87 : decode cX1_write 87 = .ok (.iload 5, 2) := by decide +kernel
theorem dX1_write_89 : decode cX1_write 89 = .ok (.ireturn, 1) := by decide +kernel
theorem dX1_page_0 : decode cX1_page 0 = .ok (.aload_n 0, 1) := by decide +kernel
theorem dX1_page_1 : decode cX1_page 1 = .ok (.iload_n 1, 1) := by decide +kernel
theorem dX1_page_2 : decode cX1_page 2 = .ok (.invokevirtual 30, 3) := by decide +kernel
theorem dX1_page_5 : decode cX1_page 5 = .ok (.ifCond .ne 22, 3) := by decide +kernel
theorem dX1_page_8 : decode cX1_page 8 = .ok (.iload_n 2, 1) := by decide +kernel
theorem dX1_page_9 : decode cX1_page 9 = .ok (.ifCond .lt 13, 3) := by decide +kernel
theorem dX1_page_12 : decode cX1_page 12 = .ok (.iload_n 2, 1) := by decide +kernel
theorem dX1_page_13 : decode cX1_page 13 = .ok (.aload_n 0, 1) := by decide +kernel
theorem dX1_page_14 : decode cX1_page 14 = .ok (.getfield 13, 3) := by decide +kernel
theorem dX1_page_17 : decode cX1_page 17 = .ok (.iload_n 1, 1) := by decide +kernel
theorem dX1_page_18 : decode cX1_page 18 = .ok (.iaload, 1) := by decide +kernel
theorem dX1_page_19 : decode cX1_page 19 = .ok (.if_icmp .lt 8, 3) := by decide +kernel
theorem dX1_page_22 : decode cX1_page 22 = .ok (.aload_n 0, 1) := by decide +kernel
theorem dX1_page_23 : decode cX1_page 23 = .ok (.iconst 1, 1) := by decide +kernel
theorem dX1_page_24 : decode cX1_page 24 = .ok (.putfield 26, 3) := by decide +kernel
theorem dX1_page_27 : decode cX1_page 27 = .ok (.aload_n 0, 1) := by decide +kernel
theorem dX1_page_28 : decode cX1_page 28 = .ok (.getfield 26, 3) := by decide +kernel
theorem dX1_page_31 : decode cX1_page 31 = .ok (.ifCond .ne 7, 3) := by decide +kernel
theorem dX1_page_34 : decode cX1_page 34 = .ok (.iconst 1, 1) := by decide +kernel
theorem dX1_page_35 : decode cX1_page 35 = .ok (.goto 4, 3) := by decide +kernel
theorem dX1_page_38 : decode cX1_page 38 = .ok (.iconst 0, 1) := by decide +kernel
theorem dX1_page_39 : decode cX1_page 39 = .ok (.ireturn, 1) := by decide +kernel
theorem dX1_cellOf_0 : decode cX1_cellOf 0 = .ok (.aload_n 0, 1) := by decide +kernel
theorem dX1_cellOf_1 : decode cX1_cellOf 1 = .ok (.iload_n 1, 1) := by decide +kernel
theorem dX1_cellOf_2 : decode cX1_cellOf 2 = .ok (.iload_n 2, 1) := by decide +kernel
theorem dX1_cellOf_3 : decode cX1_cellOf 3 = .ok (.invokevirtual 34, 3) := by decide +kernel
theorem dX1_cellOf_6 : decode cX1_cellOf 6 = .ok (.iconst (-1), 1) := by decide +kernel
theorem dX1_cellOf_7 : decode cX1_cellOf 7 = .ok (.if_icmp .ne 7, 3) := by decide +kernel
theorem dX1_cellOf_10 : decode cX1_cellOf 10 = .ok (.iconst 0, 1) := by decide +kernel
theorem dX1_cellOf_11 : decode cX1_cellOf 11 = .ok (.goto 19, 3) := by decide +kernel
theorem dX1_cellOf_14 : decode cX1_cellOf 14 = .ok (.aload_n 0, 1) := by decide +kernel
theorem dX1_cellOf_15 : decode cX1_cellOf 15 = .ok (.getfield 20, 3) := by decide +kernel
theorem dX1_cellOf_18 : decode cX1_cellOf 18 = .ok (.bipush 8, 2) := by decide +kernel
theorem dX1_cellOf_20 : decode cX1_cellOf 20 = .ok (.aload_n 0, 1) := by decide +kernel
theorem dX1_cellOf_21 : decode cX1_cellOf 21 = .ok (.iload_n 1, 1) := by decide +kernel
theorem dX1_cellOf_22 : decode cX1_cellOf 22 = .ok (.iload_n 2, 1) := by decide +kernel
theorem dX1_cellOf_23 : decode cX1_cellOf 23 = .ok (.invokevirtual 34, 3) := by decide +kernel
theorem dX1_cellOf_26 : decode cX1_cellOf 26 = .ok (.imul, 1) := by decide +kernel
theorem dX1_cellOf_27 : decode cX1_cellOf 27 = .ok (.iload_n 3, 1) := by decide +kernel
theorem dX1_cellOf_28 : decode cX1_cellOf 28 = .ok (.iadd, 1) := by decide +kernel
theorem dX1_cellOf_29 : decode cX1_cellOf 29 = .ok (.iaload, 1) := by decide +kernel
theorem dX1_cellOf_30 : decode cX1_cellOf 30 = .ok (.ireturn, 1) := by decide +kernel
theorem dX1_alone_0 : decode cX1_alone 0 = .ok (.aload_n 0, 1) := by decide +kernel
theorem dX1_alone_1 : decode cX1_alone 1 = .ok (.iload_n 1, 1) := by decide +kernel
theorem dX1_alone_2 : decode cX1_alone 2 = .ok (.iload_n 2, 1) := by decide +kernel
theorem dX1_alone_3 : decode cX1_alone 3 = .ok (.invokevirtual 34, 3) := by decide +kernel
theorem dX1_alone_6 : decode cX1_alone 6 = .ok (.istore_n 3, 1) := by decide +kernel
theorem dX1_alone_7 : decode cX1_alone 7 = .ok (.iload_n 3, 1) := by decide +kernel
theorem dX1_alone_8 : decode cX1_alone 8 = .ok (.iconst (-1), 1) := by decide +kernel
theorem dX1_alone_9 : decode cX1_alone 9 = .ok (.if_icmp .eq 14, 3) := by decide +kernel
theorem dX1_alone_12 : decode cX1_alone 12 = .ok (.aload_n 0, 1) := by decide +kernel
theorem dX1_alone_13 : decode cX1_alone 13 = .ok (.iload_n 3, 1) := by decide +kernel
theorem dX1_alone_14 : decode cX1_alone 14 = .ok (.invokevirtual 38, 3) := by decide +kernel
theorem dX1_alone_17 : decode cX1_alone 17 = .ok (.iconst 1, 1) := by decide +kernel
theorem dX1_alone_18 : decode cX1_alone 18 = .ok (.if_icmp .ne 5, 3) := by decide +kernel
theorem dX1_alone_21 : decode cX1_alone 21 = .ok (.iconst 1, 1) := by decide +kernel
theorem dX1_alone_22 : decode cX1_alone 22 = .ok (.ireturn, 1) := by decide +kernel
theorem dX1_alone_23 : decode cX1_alone 23 = .ok (.aload_n 0, 1) := by decide +kernel
theorem dX1_alone_24 : decode cX1_alone 24 = .ok (.invokevirtual 56, 3) := by decide +kernel
theorem dX1_alone_27 : decode cX1_alone 27 = .ok (.istore 4, 2) := by decide +kernel
theorem dX1_alone_29 : decode cX1_alone 29 = .ok (.iload 4, 2) := by decide +kernel
theorem dX1_alone_31 : decode cX1_alone 31 = .ok (.sipush 200, 3) := by decide +kernel
theorem dX1_alone_34 : decode cX1_alone 34 = .ok (.if_icmp .ne 5, 3) := by decide +kernel
theorem dX1_alone_37 : decode cX1_alone 37 = .ok (.iconst 0, 1) := by decide +kernel
theorem dX1_alone_38 : decode cX1_alone 38 = .ok (.ireturn, 1) := by decide +kernel
theorem dX1_alone_39 : decode cX1_alone 39 = .ok (.iconst 0, 1) := by decide +kernel
theorem dX1_alone_40 : decode cX1_alone 40 = .ok (.istore 5, 2) := by decide +kernel
theorem dX1_alone_42 : decode cX1_alone 42 = .ok (.iload 5, 2) := by decide +kernel
theorem dX1_alone_44 : decode cX1_alone 44 = .ok (.bipush 8, 2) := by decide +kernel
theorem dX1_alone_46 : decode cX1_alone 46 = .ok (.if_icmp .ge 43, 3) := by decide +kernel
theorem dX1_alone_49 : decode cX1_alone 49 = .ok (.aload_n 0, 1) := by decide +kernel
theorem dX1_alone_50 : decode cX1_alone 50 = .ok (.getfield 20, 3) := by decide +kernel
theorem dX1_alone_53 : decode cX1_alone 53 = .ok (.bipush 8, 2) := by decide +kernel
theorem dX1_alone_55 : decode cX1_alone 55 = .ok (.iload 4, 2) := by decide +kernel
theorem dX1_alone_57 : decode cX1_alone 57 = .ok (.imul, 1) := by decide +kernel
theorem dX1_alone_58 : decode cX1_alone 58 = .ok (.iload 5, 2) := by decide +kernel
theorem dX1_alone_60 : decode cX1_alone 60 = .ok (.iadd, 1) := by decide +kernel
theorem dX1_alone_61 : decode cX1_alone 61 = .ok (.iload_n 3, 1) := by decide +kernel
theorem dX1_alone_62 : decode cX1_alone 62 = .ok (.iconst (-1), 1) := by decide +kernel
theorem dX1_alone_63 : decode cX1_alone 63 = .ok (.if_icmp .ne 7, 3) := by decide +kernel
theorem dX1_alone_66 : decode cX1_alone 66 = .ok (.iconst 0, 1) := by decide +kernel
theorem dX1_alone_67 : decode cX1_alone 67 = .ok (.goto 15, 3) := by decide +kernel
theorem dX1_alone_70 : decode cX1_alone 70 = .ok (.aload_n 0, 1) := by decide +kernel
theorem dX1_alone_71 : decode cX1_alone 71 = .ok (.getfield 20, 3) := by decide +kernel
theorem dX1_alone_74 : decode cX1_alone 74 = .ok (.bipush 8, 2) := by decide +kernel
theorem dX1_alone_76 : decode cX1_alone 76 = .ok (.iload_n 3, 1) := by decide +kernel
theorem dX1_alone_77 : decode cX1_alone 77 = .ok (.imul, 1) := by decide +kernel
theorem dX1_alone_78 : decode cX1_alone 78 = .ok (.iload 5, 2) := by decide +kernel
theorem dX1_alone_80 : decode cX1_alone 80 = .ok (.iadd, 1) := by decide +kernel
theorem dX1_alone_81 : decode cX1_alone 81 = .ok (.iaload, 1) := by decide +kernel
theorem dX1_alone_82 : decode cX1_alone 82 = .ok (.iastore, 1) := by decide +kernel
theorem dX1_alone_83 : decode cX1_alone 83 = .ok (.iinc 5 1, 3) := by decide +kernel
theorem dX1_alone_86 : decode cX1_alone 86 = .ok (.goto (-44), 3) := by decide +kernel
theorem dX1_alone_89 : decode cX1_alone 89 = .ok (.aload_n 0, 1) := by decide +kernel
theorem dX1_alone_90 : decode cX1_alone 90 = .ok (.getfield 17, 3) := by decide +kernel
theorem dX1_alone_93 : decode cX1_alone 93 = .ok (.bipush 32, 2) := by decide +kernel
theorem dX1_alone_95 : decode cX1_alone 95 = .ok (.iload_n 1, 1) := by decide +kernel
theorem dX1_alone_96 : decode cX1_alone 96 = .ok (.imul, 1) := by decide +kernel
theorem dX1_alone_97 : decode cX1_alone 97 = .ok (.iload_n 2, 1) := by decide +kernel
theorem dX1_alone_98 : decode cX1_alone 98 = .ok (.iadd, 1) := by decide +kernel
theorem dX1_alone_99 : decode cX1_alone 99 = .ok (.iload 4, 2) := by decide +kernel
theorem dX1_alone_101 : decode cX1_alone 101 = .ok (.iastore, 1) := by decide +kernel
theorem dX1_alone_102 : decode cX1_alone 102 = .ok (.iconst 1, 1) := by decide +kernel
theorem dX1_alone_103 : decode cX1_alone 103 = .ok (.ireturn, 1) := by decide +kernel
theorem dX1_free_0 : decode cX1_free 0 = .ok (.iconst 0, 1) := by decide +kernel
theorem dX1_free_1 : decode cX1_free 1 = .ok (.istore_n 1, 1) := by decide +kernel
theorem dX1_free_2 : decode cX1_free 2 = .ok (.iload_n 1, 1) := by decide +kernel
theorem dX1_free_3 : decode cX1_free 3 = .ok (.sipush 200, 3) := by decide +kernel
theorem dX1_free_6 : decode cX1_free 6 = .ok (.if_icmp .ge 17, 3) := by decide +kernel
theorem dX1_free_9 : decode cX1_free 9 = .ok (.aload_n 0, 1) := by decide +kernel
theorem dX1_free_10 : decode cX1_free 10 = .ok (.iload_n 1, 1) := by decide +kernel
theorem dX1_free_11 : decode cX1_free 11 = .ok (.invokevirtual 38, 3) := by decide +kernel
theorem dX1_free_14 : decode cX1_free 14 = .ok (.ifCond .le 9, 3) := by decide +kernel
theorem dX1_free_17 : decode cX1_free 17 = .ok (.iinc 1 1, 3) := by decide +kernel
theorem dX1_free_20 : decode cX1_free 20 = .ok (.goto (-18), 3) := by decide +kernel
theorem dX1_free_23 : decode cX1_free 23 = .ok (.iload_n 1, 1) := by decide +kernel
theorem dX1_free_24 : decode cX1_free 24 = .ok (.ireturn, 1) := by decide +kernel
theorem dX1_read_0 : decode cX1_read 0 = .ok (.aload_n 0, 1) := by decide +kernel
theorem dX1_read_1 : decode cX1_read 1 = .ok (.iload_n 1, 1) := by decide +kernel
theorem dX1_read_2 : decode cX1_read 2 = .ok (.iload_n 2, 1) := by decide +kernel
theorem dX1_read_3 : decode cX1_read 3 = .ok (.invokevirtual 59, 3) := by decide +kernel
theorem dX1_read_6 : decode cX1_read 6 = .ok (.ifCond .ne 5, 3) := by decide +kernel
theorem dX1_read_9 : decode cX1_read 9 = .ok (.iconst 0, 1) := by decide +kernel
theorem dX1_read_10 : decode cX1_read 10 = .ok (.ireturn, 1) := by decide +kernel
theorem dX1_read_11 : decode cX1_read 11 = .ok (.iload_n 3, 1) := by decide +kernel
theorem dX1_read_12 : decode cX1_read 12 = .ok (.ifCond .lt 9, 3) := by decide +kernel
theorem dX1_read_15 : decode cX1_read 15 = .ok (.iload_n 3, 1) := by decide +kernel
theorem dX1_read_16 : decode cX1_read 16 = .ok (.bipush 8, 2) := by decide +kernel
theorem dX1_read_18 : decode cX1_read 18 = .ok (.if_icmp .lt 11, 3) := by decide +kernel
theorem dX1_read_21 : decode cX1_read 21 = .ok (.aload_n 0, 1) := by decide +kernel
theorem dX1_read_22 : decode cX1_read 22 = .ok (.iconst 1, 1) := by decide +kernel
theorem dX1_read_23 : decode cX1_read 23 = .ok (.invokevirtual 50, 3) := by decide +kernel
theorem dX1_read_26 : decode cX1_read 26 = .ok (.goto 10, 3) := by decide +kernel
theorem dX1_read_29 : decode cX1_read 29 = .ok (.aload_n 0, 1) := by decide +kernel
theorem dX1_read_30 : decode cX1_read 30 = .ok (.iload_n 1, 1) := by decide +kernel
theorem dX1_read_31 : decode cX1_read 31 = .ok (.iload_n 2, 1) := by decide +kernel
theorem dX1_read_32 : decode cX1_read 32 = .ok (.iload_n 3, 1) := by decide +kernel
theorem dX1_read_33 : decode cX1_read 33 = .ok (.invokevirtual 63, 3) := by decide +kernel
theorem dX1_read_36 : decode cX1_read 36 = .ok (.ireturn, 1) := by decide +kernel
theorem dX1_lay_0 : decode cX1_lay 0 = .ok (.aload_n 0, 1) := by decide +kernel
theorem dX1_lay_1 : decode cX1_lay 1 = .ok (.iload_n 1, 1) := by decide +kernel
theorem dX1_lay_2 : decode cX1_lay 2 = .ok (.invokevirtual 30, 3) := by decide +kernel
theorem dX1_lay_5 : decode cX1_lay 5 = .ok (.ifCond .ne 11, 3) := by decide +kernel
theorem dX1_lay_8 : decode cX1_lay 8 = .ok (.aload_n 0, 1) := by decide +kernel
theorem dX1_lay_9 : decode cX1_lay 9 = .ok (.iload_n 3, 1) := by decide +kernel
theorem dX1_lay_10 : decode cX1_lay 10 = .ok (.invokevirtual 30, 3) := by decide +kernel
theorem dX1_lay_13 : decode cX1_lay 13 = .ok (.ifCond .eq 5, 3) := by decide +kernel
theorem dX1_lay_16 : decode cX1_lay 16 = .ok (.iconst 0, 1) := by decide +kernel
theorem dX1_lay_17 : decode cX1_lay 17 = .ok (.ireturn, 1) := by decide +kernel
theorem dX1_lay_18 : decode cX1_lay 18 = .ok (.aload_n 0, 1) := by decide +kernel
theorem dX1_lay_19 : decode cX1_lay 19 = .ok (.iload_n 1, 1) := by decide +kernel
theorem dX1_lay_20 : decode cX1_lay 20 = .ok (.iload_n 2, 1) := by decide +kernel
theorem dX1_lay_21 : decode cX1_lay 21 = .ok (.iload 5, 2) := by decide +kernel
theorem dX1_lay_23 : decode cX1_lay 23 = .ok (.invokevirtual 46, 3) := by decide +kernel
theorem dX1_lay_26 : decode cX1_lay 26 = .ok (.ifCond .ne 15, 3) := by decide +kernel
theorem dX1_lay_29 : decode cX1_lay 29 = .ok (.aload_n 0, 1) := by decide +kernel
theorem dX1_lay_30 : decode cX1_lay 30 = .ok (.iload_n 3, 1) := by decide +kernel
theorem dX1_lay_31 : decode cX1_lay 31 = .ok (.iload 4, 2) := by decide +kernel
theorem dX1_lay_33 : decode cX1_lay 33 = .ok (.iload 5, 2) := by decide +kernel
theorem dX1_lay_35 : decode cX1_lay 35 = .ok (.invokevirtual 46, 3) := by decide +kernel
theorem dX1_lay_38 : decode cX1_lay 38 = .ok (.ifCond .eq 9, 3) := by decide +kernel
theorem dX1_lay_41 : decode cX1_lay 41 = .ok (.aload_n 0, 1) := by decide +kernel
theorem dX1_lay_42 : decode cX1_lay 42 = .ok (.iconst 1, 1) := by decide +kernel
theorem dX1_lay_43 : decode cX1_lay 43 = .ok (.invokevirtual 50, 3) := by decide +kernel
theorem dX1_lay_46 : decode cX1_lay 46 = .ok (.ireturn, 1) := by decide +kernel
theorem dX1_lay_47 : decode cX1_lay 47 = .ok (.aload_n 0, 1) := by decide +kernel
theorem dX1_lay_48 : decode cX1_lay 48 = .ok (.invokevirtual 53, 3) := by decide +kernel
theorem dX1_lay_51 : decode cX1_lay 51 = .ok (.istore 6, 2) := by decide +kernel
theorem dX1_lay_53 : decode cX1_lay 53 = .ok (.iconst 0, 1) := by decide +kernel
theorem dX1_lay_54 : decode cX1_lay 54 = .ok (.istore 7, 2) := by decide +kernel
theorem dX1_lay_56 : decode cX1_lay 56 = .ok (.iload 7, 2) := by decide +kernel
theorem dX1_lay_58 : decode cX1_lay 58 = .ok (.iload 5, 2) := by decide +kernel
theorem dX1_lay_60 : decode cX1_lay 60 = .ok (.if_icmp .ge 26, 3) := by decide +kernel
theorem dX1_lay_63 : decode cX1_lay 63 = .ok (.aload_n 0, 1) := by decide +kernel
theorem dX1_lay_64 : decode cX1_lay 64 = .ok (.getfield 23, 3) := by decide +kernel
theorem dX1_lay_67 : decode cX1_lay 67 = .ok (.iload 7, 2) := by decide +kernel
theorem dX1_lay_69 : decode cX1_lay 69 = .ok (.aload_n 0, 1) := by decide +kernel
theorem dX1_lay_70 : decode cX1_lay 70 = .ok (.iload_n 3, 1) := by decide +kernel
theorem dX1_lay_71 : decode cX1_lay 71 = .ok (.iload 4, 2) := by decide +kernel
theorem dX1_lay_73 : decode cX1_lay 73 = .ok (.iload 7, 2) := by decide +kernel
theorem dX1_lay_75 : decode cX1_lay 75 = .ok (.iadd, 1) := by decide +kernel
theorem dX1_lay_76 : decode cX1_lay 76 = .ok (.invokevirtual 34, 3) := by decide +kernel
theorem dX1_lay_79 : decode cX1_lay 79 = .ok (.iastore, 1) := by decide +kernel
theorem dX1_lay_80 : decode cX1_lay 80 = .ok (.iinc 7 1, 3) := by decide +kernel
theorem dX1_lay_83 : decode cX1_lay 83 = .ok (.goto (-27), 3) := by decide +kernel
theorem dX1_lay_86 : decode cX1_lay 86 = .ok (.iconst 0, 1) := by decide +kernel
theorem dX1_lay_87 : decode cX1_lay 87 = .ok (.istore 7, 2) := by decide +kernel
theorem dX1_lay_89 : decode cX1_lay 89 = .ok (.iload 7, 2) := by decide +kernel
theorem dX1_lay_91 : decode cX1_lay 91 = .ok (.iload 5, 2) := by decide +kernel
theorem dX1_lay_93 : decode cX1_lay 93 = .ok (.if_icmp .ge 30, 3) := by decide +kernel
theorem dX1_lay_96 : decode cX1_lay 96 = .ok (.aload_n 0, 1) := by decide +kernel
theorem dX1_lay_97 : decode cX1_lay 97 = .ok (.getfield 17, 3) := by decide +kernel
theorem dX1_lay_100 : decode cX1_lay 100 = .ok (.bipush 32, 2) := by decide +kernel
theorem dX1_lay_102 : decode cX1_lay 102 = .ok (.iload_n 1, 1) := by decide +kernel
theorem dX1_lay_103 : decode cX1_lay 103 = .ok (.imul, 1) := by decide +kernel
theorem dX1_lay_104 : decode cX1_lay 104 = .ok (.iload_n 2, 1) := by decide +kernel
theorem dX1_lay_105 : decode cX1_lay 105 = .ok (.iadd, 1) := by decide +kernel
theorem dX1_lay_106 : decode cX1_lay 106 = .ok (.iload 7, 2) := by decide +kernel
theorem dX1_lay_108 : decode cX1_lay 108 = .ok (.iadd, 1) := by decide +kernel
theorem dX1_lay_109 : decode cX1_lay 109 = .ok (.aload_n 0, 1) := by decide +kernel
theorem dX1_lay_110 : decode cX1_lay 110 = .ok (.getfield 23, 3) := by decide +kernel
theorem dX1_lay_113 : decode cX1_lay 113 = .ok (.iload 7, 2) := by decide +kernel
theorem dX1_lay_115 : decode cX1_lay 115 = .ok (.iaload, 1) := by decide +kernel
theorem dX1_lay_116 : decode cX1_lay 116 = .ok (.iastore, 1) := by decide +kernel
theorem dX1_lay_117 : decode cX1_lay 117 = .ok (.iinc 7 1, 3) := by decide +kernel
theorem dX1_lay_120 : decode cX1_lay 120 = .ok (.goto (-31), 3) := by decide +kernel
theorem dX1_lay_123 : decode cX1_lay 123 = .ok (.iload 6, 2) := by decide +kernel
theorem dX1_lay_125 : decode cX1_lay 125 = .ok (.aload_n 0, 1) := by decide +kernel
theorem dX1_lay_126 : decode cX1_lay 126 = .ok (.invokevirtual 53, 3) := by decide +kernel
theorem dX1_lay_129 : decode cX1_lay 129 = .ok (.isub, 1) := by decide +kernel
theorem dX1_lay_130 : decode cX1_lay 130 = .ok (.ireturn, 1) := by decide +kernel
theorem dX1_size_0 : decode cX1_size 0 = .ok (.aload_n 0, 1) := by decide +kernel
theorem dX1_size_1 : decode cX1_size 1 = .ok (.iload_n 1, 1) := by decide +kernel
theorem dX1_size_2 : decode cX1_size 2 = .ok (.invokevirtual 30, 3) := by decide +kernel
theorem dX1_size_5 : decode cX1_size 5 = .ok (.ifCond .eq 5, 3) := by decide +kernel
theorem dX1_size_8 : decode cX1_size 8 = .ok (.iconst 0, 1) := by decide +kernel
theorem dX1_size_9 : decode cX1_size 9 = .ok (.ireturn, 1) := by decide +kernel
theorem dX1_size_10 : decode cX1_size 10 = .ok (.iload_n 2, 1) := by decide +kernel
theorem dX1_size_11 : decode cX1_size 11 = .ok (.ifCond .lt 9, 3) := by decide +kernel
theorem dX1_size_14 : decode cX1_size 14 = .ok (.iload_n 2, 1) := by decide +kernel
theorem dX1_size_15 : decode cX1_size 15 = .ok (.bipush 32, 2) := by decide +kernel
theorem dX1_size_17 : decode cX1_size 17 = .ok (.if_icmp .le 9, 3) := by decide +kernel
theorem dX1_size_20 : decode cX1_size 20 = .ok (.aload_n 0, 1) := by decide +kernel
theorem dX1_size_21 : decode cX1_size 21 = .ok (.iconst 2, 1) := by decide +kernel
theorem dX1_size_22 : decode cX1_size 22 = .ok (.invokevirtual 50, 3) := by decide +kernel
theorem dX1_size_25 : decode cX1_size 25 = .ok (.ireturn, 1) := by decide +kernel
theorem dX1_size_26 : decode cX1_size 26 = .ok (.aload_n 0, 1) := by decide +kernel
theorem dX1_size_27 : decode cX1_size 27 = .ok (.getfield 13, 3) := by decide +kernel
theorem dX1_size_30 : decode cX1_size 30 = .ok (.iload_n 1, 1) := by decide +kernel
theorem dX1_size_31 : decode cX1_size 31 = .ok (.iaload, 1) := by decide +kernel
theorem dX1_size_32 : decode cX1_size 32 = .ok (.istore_n 3, 1) := by decide +kernel
theorem dX1_size_33 : decode cX1_size 33 = .ok (.iload_n 3, 1) := by decide +kernel
theorem dX1_size_34 : decode cX1_size 34 = .ok (.istore 4, 2) := by decide +kernel
theorem dX1_size_36 : decode cX1_size 36 = .ok (.iload 4, 2) := by decide +kernel
theorem dX1_size_38 : decode cX1_size 38 = .ok (.iload_n 2, 1) := by decide +kernel
theorem dX1_size_39 : decode cX1_size 39 = .ok (.if_icmp .ge 22, 3) := by decide +kernel
theorem dX1_size_42 : decode cX1_size 42 = .ok (.aload_n 0, 1) := by decide +kernel
theorem dX1_size_43 : decode cX1_size 43 = .ok (.getfield 17, 3) := by decide +kernel
theorem dX1_size_46 : decode cX1_size 46 = .ok (.bipush 32, 2) := by decide +kernel
theorem dX1_size_48 : decode cX1_size 48 = .ok (.iload_n 1, 1) := by decide +kernel
theorem dX1_size_49 : decode cX1_size 49 = .ok (.imul, 1) := by decide +kernel
theorem dX1_size_50 : decode cX1_size 50 = .ok (.iload 4, 2) := by decide +kernel
theorem dX1_size_52 : decode cX1_size 52 = .ok (.iadd, 1) := by decide +kernel
theorem dX1_size_53 : decode cX1_size 53 = .ok (.iconst (-1), 1) := by decide +kernel
theorem dX1_size_54 : decode cX1_size 54 = .ok (.iastore, 1) := by decide +kernel
theorem dX1_size_55 : decode cX1_size 55 = .ok (.iinc 4 1, 3) := by decide +kernel
theorem dX1_size_58 : decode cX1_size 58 = .ok (.goto (-22), 3) := by decide +kernel
theorem dX1_size_61 : decode cX1_size 61 = .ok (.aload_n 0, 1) := by decide +kernel
theorem dX1_size_62 : decode cX1_size 62 = .ok (.getfield 13, 3) := by decide +kernel
theorem dX1_size_65 : decode cX1_size 65 = .ok (.iload_n 1, 1) := by decide +kernel
theorem dX1_size_66 : decode cX1_size 66 = .ok (.iload_n 2, 1) := by decide +kernel
theorem dX1_size_67 : decode cX1_size 67 = .ok (.iastore, 1) := by decide +kernel
theorem dX1_size_68 : decode cX1_size 68 = .ok (.iload_n 3, 1) := by decide +kernel
theorem dX1_size_69 : decode cX1_size 69 = .ok (.ireturn, 1) := by decide +kernel
theorem dX1_blank_0 : decode cX1_blank 0 = .ok (.aload_n 0, 1) := by decide +kernel
theorem dX1_blank_1 : decode cX1_blank 1 = .ok (.iload_n 1, 1) := by decide +kernel
theorem dX1_blank_2 : decode cX1_blank 2 = .ok (.iload_n 2, 1) := by decide +kernel
theorem dX1_blank_3 : decode cX1_blank 3 = .ok (.invokevirtual 59, 3) := by decide +kernel
theorem dX1_blank_6 : decode cX1_blank 6 = .ok (.ifCond .ne 5, 3) := by decide +kernel
theorem dX1_blank_9 : decode cX1_blank 9 = .ok (.iconst 0, 1) := by decide +kernel
theorem dX1_blank_10 : decode cX1_blank 10 = .ok (.ireturn, 1) := by decide +kernel
theorem dX1_blank_11 : decode cX1_blank 11 = .ok (.aload_n 0, 1) := by decide +kernel
theorem dX1_blank_12 : decode cX1_blank 12 = .ok (.iload_n 1, 1) := by decide +kernel
theorem dX1_blank_13 : decode cX1_blank 13 = .ok (.iload_n 2, 1) := by decide +kernel
theorem dX1_blank_14 : decode cX1_blank 14 = .ok (.invokevirtual 34, 3) := by decide +kernel
theorem dX1_blank_17 : decode cX1_blank 17 = .ok (.iconst (-1), 1) := by decide +kernel
theorem dX1_blank_18 : decode cX1_blank 18 = .ok (.if_icmp .eq 7, 3) := by decide +kernel
theorem dX1_blank_21 : decode cX1_blank 21 = .ok (.iconst 1, 1) := by decide +kernel
theorem dX1_blank_22 : decode cX1_blank 22 = .ok (.goto 4, 3) := by decide +kernel
theorem dX1_blank_25 : decode cX1_blank 25 = .ok (.iconst 0, 1) := by decide +kernel
theorem dX1_blank_26 : decode cX1_blank 26 = .ok (.istore_n 3, 1) := by decide +kernel
theorem dX1_blank_27 : decode cX1_blank 27 = .ok (.aload_n 0, 1) := by decide +kernel
theorem dX1_blank_28 : decode cX1_blank 28 = .ok (.getfield 17, 3) := by decide +kernel
theorem dX1_blank_31 : decode cX1_blank 31 = .ok (.bipush 32, 2) := by decide +kernel
theorem dX1_blank_33 : decode cX1_blank 33 = .ok (.iload_n 1, 1) := by decide +kernel
theorem dX1_blank_34 : decode cX1_blank 34 = .ok (.imul, 1) := by decide +kernel
theorem dX1_blank_35 : decode cX1_blank 35 = .ok (.iload_n 2, 1) := by decide +kernel
theorem dX1_blank_36 : decode cX1_blank 36 = .ok (.iadd, 1) := by decide +kernel
theorem dX1_blank_37 : decode cX1_blank 37 = .ok (.iconst (-1), 1) := by decide +kernel
theorem dX1_blank_38 : decode cX1_blank 38 = .ok (.iastore, 1) := by decide +kernel
theorem dX1_blank_39 : decode cX1_blank 39 = .ok (.iload_n 3, 1) := by decide +kernel
theorem dX1_blank_40 : decode cX1_blank 40 = .ok (.ireturn, 1) := by decide +kernel
theorem dX1_own_0 : decode cX1_own 0 = .ok (.aload_n 0, 1) := by decide +kernel
theorem dX1_own_1 : decode cX1_own 1 = .ok (.iload_n 1, 1) := by decide +kernel
theorem dX1_own_2 : decode cX1_own 2 = .ok (.iload_n 2, 1) := by decide +kernel
theorem dX1_own_3 : decode cX1_own 3 = .ok (.invokevirtual 59, 3) := by decide +kernel
theorem dX1_own_6 : decode cX1_own 6 = .ok (.ifCond .ne 5, 3) := by decide +kernel
theorem dX1_own_9 : decode cX1_own 9 = .ok (.iconst 0, 1) := by decide +kernel
theorem dX1_own_10 : decode cX1_own 10 = .ok (.ireturn, 1) := by decide +kernel
theorem dX1_own_11 : decode cX1_own 11 = .ok (.aload_n 0, 1) := by decide +kernel
theorem dX1_own_12 : decode cX1_own 12 = .ok (.iload_n 1, 1) := by decide +kernel
theorem dX1_own_13 : decode cX1_own 13 = .ok (.iload_n 2, 1) := by decide +kernel
theorem dX1_own_14 : decode cX1_own 14 = .ok (.invokevirtual 34, 3) := by decide +kernel
theorem dX1_own_17 : decode cX1_own 17 = .ok (.istore_n 3, 1) := by decide +kernel
theorem dX1_own_18 : decode cX1_own 18 = .ok (.aload_n 0, 1) := by decide +kernel
theorem dX1_own_19 : decode cX1_own 19 = .ok (.iload_n 1, 1) := by decide +kernel
theorem dX1_own_20 : decode cX1_own 20 = .ok (.iload_n 2, 1) := by decide +kernel
theorem dX1_own_21 : decode cX1_own 21 = .ok (.invokevirtual 67, 3) := by decide +kernel
theorem dX1_own_24 : decode cX1_own 24 = .ok (.ifCond .ne 8, 3) := by decide +kernel
theorem dX1_own_27 : decode cX1_own 27 = .ok (.aload_n 0, 1) := by decide +kernel
theorem dX1_own_28 : decode cX1_own 28 = .ok (.iconst 2, 1) := by decide +kernel
theorem dX1_own_29 : decode cX1_own 29 = .ok (.putfield 26, 3) := by decide +kernel
theorem dX1_own_32 : decode cX1_own 32 = .ok (.aload_n 0, 1) := by decide +kernel
theorem dX1_own_33 : decode cX1_own 33 = .ok (.getfield 26, 3) := by decide +kernel
theorem dX1_own_36 : decode cX1_own 36 = .ok (.ifCond .ne 17, 3) := by decide +kernel
theorem dX1_own_39 : decode cX1_own 39 = .ok (.aload_n 0, 1) := by decide +kernel
theorem dX1_own_40 : decode cX1_own 40 = .ok (.iload_n 1, 1) := by decide +kernel
theorem dX1_own_41 : decode cX1_own 41 = .ok (.iload_n 2, 1) := by decide +kernel
theorem dX1_own_42 : decode cX1_own 42 = .ok (.invokevirtual 34, 3) := by decide +kernel
theorem dX1_own_45 : decode cX1_own 45 = .ok (.iload_n 3, 1) := by decide +kernel
theorem dX1_own_46 : decode cX1_own 46 = .ok (.if_icmp .eq 7, 3) := by decide +kernel
theorem dX1_own_49 : decode cX1_own 49 = .ok (.iconst 1, 1) := by decide +kernel
theorem dX1_own_50 : decode cX1_own 50 = .ok (.goto 4, 3) := by decide +kernel
theorem dX1_own_53 : decode cX1_own 53 = .ok (.iconst 0, 1) := by decide +kernel
theorem dX1_own_54 : decode cX1_own 54 = .ok (.ireturn, 1) := by decide +kernel
theorem dX1_sweep_0 : decode cX1_sweep 0 = .ok (.aload_n 0, 1) := by decide +kernel
theorem dX1_sweep_1 : decode cX1_sweep 1 = .ok (.iconst 0, 1) := by decide +kernel
theorem dX1_sweep_2 : decode cX1_sweep 2 = .ok (.putfield 26, 3) := by decide +kernel
theorem dX1_sweep_5 : decode cX1_sweep 5 = .ok (.iconst 0, 1) := by decide +kernel
theorem dX1_sweep_6 : decode cX1_sweep 6 = .ok (.istore_n 1, 1) := by decide +kernel
theorem dX1_sweep_7 : decode cX1_sweep 7 = .ok (.iconst 0, 1) := by decide +kernel
theorem dX1_sweep_8 : decode cX1_sweep 8 = .ok (.istore_n 2, 1) := by decide +kernel
theorem dX1_sweep_9 : decode cX1_sweep 9 = .ok (.iload_n 2, 1) := by decide +kernel
theorem dX1_sweep_10 : decode cX1_sweep 10 = .ok (.sipush 200, 3) := by decide +kernel
theorem dX1_sweep_13 : decode cX1_sweep 13 = .ok (.if_icmp .ge 77, 3) := by decide +kernel
theorem dX1_sweep_16 : decode cX1_sweep 16 = .ok (.aload_n 0, 1) := by decide +kernel
theorem dX1_sweep_17 : decode cX1_sweep 17 = .ok (.iload_n 2, 1) := by decide +kernel
theorem dX1_sweep_18 : decode cX1_sweep 18 = .ok (.invokevirtual 38, 3) := by decide +kernel
theorem dX1_sweep_21 : decode cX1_sweep 21 = .ok (.ifCond .ne 6, 3) := by decide +kernel
theorem dX1_sweep_24 : decode cX1_sweep 24 = .ok (.goto 60, 3) := by decide +kernel
theorem dX1_sweep_27 : decode cX1_sweep 27 = .ok (.iconst 1, 1) := by decide +kernel
theorem dX1_sweep_28 : decode cX1_sweep 28 = .ok (.istore_n 3, 1) := by decide +kernel
theorem dX1_sweep_29 : decode cX1_sweep 29 = .ok (.iconst 0, 1) := by decide +kernel
theorem dX1_sweep_30 : decode cX1_sweep 30 = .ok (.istore 4, 2) := by decide +kernel
theorem dX1_sweep_32 : decode cX1_sweep 32 = .ok (.iload 4, 2) := by decide +kernel
theorem dX1_sweep_34 : decode cX1_sweep 34 = .ok (.bipush 8, 2) := by decide +kernel
theorem dX1_sweep_36 : decode cX1_sweep 36 = .ok (.if_icmp .ge 32, 3) := by decide +kernel
theorem dX1_sweep_39 : decode cX1_sweep 39 = .ok (.iload_n 3, 1) := by decide +kernel
theorem dX1_sweep_40 : decode cX1_sweep 40 = .ok (.aload_n 0, 1) := by decide +kernel
theorem dX1_sweep_41 : decode cX1_sweep 41 = .ok (.getfield 20, 3) := by decide +kernel
theorem dX1_sweep_44 : decode cX1_sweep 44 = .ok (.bipush 8, 2) := by decide +kernel
theorem dX1_sweep_46 : decode cX1_sweep 46 = .ok (.iload_n 2, 1) := by decide +kernel
theorem dX1_sweep_47 : decode cX1_sweep 47 = .ok (.imul, 1) := by decide +kernel
theorem dX1_sweep_48 : decode cX1_sweep 48 = .ok (.iload 4, 2) := by decide +kernel
theorem dX1_sweep_50 : decode cX1_sweep 50 = .ok (.iadd, 1) := by decide +kernel
theorem dX1_sweep_51 : decode cX1_sweep 51 = .ok (.iaload, 1) := by decide +kernel
theorem dX1_sweep_52 : decode cX1_sweep 52 = .ok (.ifCond .ne 7, 3) := by decide +kernel
theorem dX1_sweep_55 : decode cX1_sweep 55 = .ok (.iconst 1, 1) := by decide +kernel
theorem dX1_sweep_56 : decode cX1_sweep 56 = .ok (.goto 4, 3) := by decide +kernel
theorem dX1_sweep_59 : decode cX1_sweep 59 = .ok (.iconst 0, 1) := by decide +kernel
theorem dX1_sweep_60 : decode cX1_sweep 60 = .ok (.iand, 1) := by decide +kernel
theorem dX1_sweep_61 : decode cX1_sweep 61 = .ok (.istore_n 3, 1) := by decide +kernel
theorem dX1_sweep_62 : decode cX1_sweep 62 = .ok (.iinc 4 1, 3) := by decide +kernel
theorem dX1_sweep_65 : decode cX1_sweep 65 = .ok (.goto (-33), 3) := by decide +kernel
theorem dX1_sweep_68 : decode cX1_sweep 68 = .ok (.iload_n 3, 1) := by decide +kernel
theorem dX1_sweep_69 : decode cX1_sweep 69 = .ok (.ifCond .ne 6, 3) := by decide +kernel
theorem dX1_sweep_72 : decode cX1_sweep 72 = .ok (.goto 12, 3) := by decide +kernel
theorem dX1_sweep_75 : decode cX1_sweep 75 = .ok (.aload_n 0, 1) := by decide +kernel
theorem dX1_sweep_76 : decode cX1_sweep 76 = .ok (.iload_n 2, 1) := by decide +kernel
theorem dX1_sweep_77 : decode cX1_sweep 77 = .ok (.iconst (-1), 1) := by decide +kernel
theorem dX1_sweep_78 : decode cX1_sweep 78 = .ok (.invokevirtual 70, 3) := by decide +kernel
theorem dX1_sweep_81 : decode cX1_sweep 81 = .ok (.iinc 1 1, 3) := by decide +kernel
theorem dX1_sweep_84 : decode cX1_sweep 84 = .ok (.iinc 2 1, 3) := by decide +kernel
theorem dX1_sweep_87 : decode cX1_sweep 87 = .ok (.goto (-78), 3) := by decide +kernel
theorem dX1_sweep_90 : decode cX1_sweep 90 = .ok (.iload_n 1, 1) := by decide +kernel
theorem dX1_sweep_91 : decode cX1_sweep 91 = .ok (.ireturn, 1) := by decide +kernel
theorem dX1_change_0 : decode cX1_change 0 = .ok (.iconst 0, 1) := by decide +kernel
theorem dX1_change_1 : decode cX1_change 1 = .ok (.istore_n 3, 1) := by decide +kernel
theorem dX1_change_2 : decode cX1_change 2 = .ok (.iload_n 3, 1) := by decide +kernel
theorem dX1_change_3 : decode cX1_change 3 = .ok (.bipush 40, 2) := by decide +kernel
theorem dX1_change_5 : decode cX1_change 5 = .ok (.if_icmp .ge 62, 3) := by decide +kernel
theorem dX1_change_8 : decode cX1_change 8 = .ok (.iconst 0, 1) := by decide +kernel
theorem dX1_change_9 : decode cX1_change 9 = .ok (.istore 4, 2) := by decide +kernel
theorem dX1_change_11 : decode cX1_change 11 = .ok (.aload_n 0, 1) := by decide +kernel
theorem dX1_change_12 : decode cX1_change 12 = .ok (.getfield 9, 3) := by decide +kernel
theorem dX1_change_15 : decode cX1_change 15 = .ok (.iload_n 3, 1) := by decide +kernel
theorem dX1_change_16 : decode cX1_change 16 = .ok (.baload, 1) := by decide +kernel
theorem dX1_change_17 : decode cX1_change 17 = .ok (.ifCond .eq 44, 3) := by decide +kernel
theorem dX1_change_20 : decode cX1_change 20 = .ok (.iload 4, 2) := by decide +kernel
theorem dX1_change_22 : decode cX1_change 22 = .ok (.aload_n 0, 1) := by decide +kernel
theorem dX1_change_23 : decode cX1_change 23 = .ok (.getfield 13, 3) := by decide +kernel
theorem dX1_change_26 : decode cX1_change 26 = .ok (.iload_n 3, 1) := by decide +kernel
theorem dX1_change_27 : decode cX1_change 27 = .ok (.iaload, 1) := by decide +kernel
theorem dX1_change_28 : decode cX1_change 28 = .ok (.if_icmp .ge 33, 3) := by decide +kernel
theorem dX1_change_31 : decode cX1_change 31 = .ok (.aload_n 0, 1) := by decide +kernel
theorem dX1_change_32 : decode cX1_change 32 = .ok (.iload_n 3, 1) := by decide +kernel
theorem dX1_change_33 : decode cX1_change 33 = .ok (.iload 4, 2) := by decide +kernel
theorem dX1_change_35 : decode cX1_change 35 = .ok (.invokevirtual 34, 3) := by decide +kernel
theorem dX1_change_38 : decode cX1_change 38 = .ok (.iload_n 1, 1) := by decide +kernel
theorem dX1_change_39 : decode cX1_change 39 = .ok (.if_icmp .ne 16, 3) := by decide +kernel
theorem dX1_change_42 : decode cX1_change 42 = .ok (.aload_n 0, 1) := by decide +kernel
theorem dX1_change_43 : decode cX1_change 43 = .ok (.getfield 17, 3) := by decide +kernel
theorem dX1_change_46 : decode cX1_change 46 = .ok (.bipush 32, 2) := by decide +kernel
theorem dX1_change_48 : decode cX1_change 48 = .ok (.iload_n 3, 1) := by decide +kernel
theorem dX1_change_49 : decode cX1_change 49 = .ok (.imul, 1) := by decide +kernel
theorem dX1_change_50 : decode cX1_change 50 = .ok (.iload 4, 2) := by decide +kernel
theorem dX1_change_52 : decode cX1_change 52 = .ok (.iadd, 1) := by decide +kernel
theorem dX1_change_53 : decode cX1_change 53 = .ok (.iload_n 2, 1) := by decide +kernel
theorem dX1_change_54 : decode cX1_change 54 = .ok (.iastore, 1) := by decide +kernel
theorem dX1_change_55 : decode cX1_change 55 = .ok (.iinc 4 1, 3) := by decide +kernel
theorem dX1_change_58 : decode cX1_change 58 = .ok (.goto (-47), 3) := by decide +kernel
theorem dX1_change_61 : decode cX1_change 61 = .ok (.iinc 3 1, 3) := by decide +kernel
theorem dX1_change_64 : decode cX1_change 64 = .ok (.goto (-62), 3) := by decide +kernel
theorem dX1_change_67 : decode cX1_change 67 = .ok (.return_, 1) := by decide +kernel
theorem dX1_merge_0 : decode cX1_merge 0 = .ok (.aload_n 0, 1) := by decide +kernel
theorem dX1_merge_1 : decode cX1_merge 1 = .ok (.iconst 0, 1) := by decide +kernel
theorem dX1_merge_2 : decode cX1_merge 2 = .ok (.putfield 26, 3) := by decide +kernel
theorem dX1_merge_5 : decode cX1_merge 5 = .ok (.iconst 0, 1) := by decide +kernel
theorem dX1_merge_6 : decode cX1_merge 6 = .ok (.istore_n 1, 1) := by decide +kernel
theorem dX1_merge_7 : decode cX1_merge 7 = .ok (.iconst 0, 1) := by decide +kernel
theorem dX1_merge_8 : decode cX1_merge 8 = .ok (.istore_n 2, 1) := by decide +kernel
theorem dX1_merge_9 : decode cX1_merge 9 = .ok (.iload_n 2, 1) := by decide +kernel
theorem dX1_merge_10 : decode cX1_merge 10 = .ok (.sipush 200, 3) := by decide +kernel
theorem dX1_merge_13 : decode cX1_merge 13 = .ok (.if_icmp .ge 59, 3) := by decide +kernel
theorem dX1_merge_16 : decode cX1_merge 16 = .ok (.iconst 0, 1) := by decide +kernel
theorem dX1_merge_17 : decode cX1_merge 17 = .ok (.istore_n 3, 1) := by decide +kernel
theorem dX1_merge_18 : decode cX1_merge 18 = .ok (.iload_n 3, 1) := by decide +kernel
theorem dX1_merge_19 : decode cX1_merge 19 = .ok (.iload_n 2, 1) := by decide +kernel
theorem dX1_merge_20 : decode cX1_merge 20 = .ok (.if_icmp .ge 46, 3) := by decide +kernel
theorem dX1_merge_23 : decode cX1_merge 23 = .ok (.aload_n 0, 1) := by decide +kernel
theorem dX1_merge_24 : decode cX1_merge 24 = .ok (.iload_n 2, 1) := by decide +kernel
theorem dX1_merge_25 : decode cX1_merge 25 = .ok (.invokevirtual 38, 3) := by decide +kernel
theorem dX1_merge_28 : decode cX1_merge 28 = .ok (.ifCond .le 38, 3) := by decide +kernel
theorem dX1_merge_31 : decode cX1_merge 31 = .ok (.aload_n 0, 1) := by decide +kernel
theorem dX1_merge_32 : decode cX1_merge 32 = .ok (.iload_n 3, 1) := by decide +kernel
theorem dX1_merge_33 : decode cX1_merge 33 = .ok (.invokevirtual 38, 3) := by decide +kernel
theorem dX1_merge_36 : decode cX1_merge 36 = .ok (.ifCond .eq 24, 3) := by decide +kernel
theorem dX1_merge_39 : decode cX1_merge 39 = .ok (.aload_n 0, 1) := by decide +kernel
theorem dX1_merge_40 : decode cX1_merge 40 = .ok (.iload_n 2, 1) := by decide +kernel
theorem dX1_merge_41 : decode cX1_merge 41 = .ok (.iload_n 3, 1) := by decide +kernel
theorem dX1_merge_42 : decode cX1_merge 42 = .ok (.invokevirtual 74, 3) := by decide +kernel
theorem dX1_merge_45 : decode cX1_merge 45 = .ok (.ifCond .ne 6, 3) := by decide +kernel
theorem dX1_merge_48 : decode cX1_merge 48 = .ok (.goto 12, 3) := by decide +kernel
theorem dX1_merge_51 : decode cX1_merge 51 = .ok (.aload_n 0, 1) := by decide +kernel
theorem dX1_merge_52 : decode cX1_merge 52 = .ok (.iload_n 2, 1) := by decide +kernel
theorem dX1_merge_53 : decode cX1_merge 53 = .ok (.iload_n 3, 1) := by decide +kernel
theorem dX1_merge_54 : decode cX1_merge 54 = .ok (.invokevirtual 70, 3) := by decide +kernel
theorem dX1_merge_57 : decode cX1_merge 57 = .ok (.iinc 1 1, 3) := by decide +kernel
theorem dX1_merge_60 : decode cX1_merge 60 = .ok (.iinc 3 1, 3) := by decide +kernel
theorem dX1_merge_63 : decode cX1_merge 63 = .ok (.goto (-45), 3) := by decide +kernel
theorem dX1_merge_66 : decode cX1_merge 66 = .ok (.iinc 2 1, 3) := by decide +kernel
theorem dX1_merge_69 : decode cX1_merge 69 = .ok (.goto (-60), 3) := by decide +kernel
theorem dX1_merge_72 : decode cX1_merge 72 = .ok (.iload_n 1, 1) := by decide +kernel
theorem dX1_merge_73 : decode cX1_merge 73 = .ok (.ireturn, 1) := by decide +kernel
theorem dX1_same_0 : decode cX1_same 0 = .ok (.iconst 0, 1) := by decide +kernel
theorem dX1_same_1 : decode cX1_same 1 = .ok (.istore_n 3, 1) := by decide +kernel
theorem dX1_same_2 : decode cX1_same 2 = .ok (.iload_n 3, 1) := by decide +kernel
theorem dX1_same_3 : decode cX1_same 3 = .ok (.bipush 8, 2) := by decide +kernel
theorem dX1_same_5 : decode cX1_same 5 = .ok (.if_icmp .ge 36, 3) := by decide +kernel
theorem dX1_same_8 : decode cX1_same 8 = .ok (.aload_n 0, 1) := by decide +kernel
theorem dX1_same_9 : decode cX1_same 9 = .ok (.getfield 20, 3) := by decide +kernel
theorem dX1_same_12 : decode cX1_same 12 = .ok (.bipush 8, 2) := by decide +kernel
theorem dX1_same_14 : decode cX1_same 14 = .ok (.iload_n 1, 1) := by decide +kernel
theorem dX1_same_15 : decode cX1_same 15 = .ok (.imul, 1) := by decide +kernel
theorem dX1_same_16 : decode cX1_same 16 = .ok (.iload_n 3, 1) := by decide +kernel
theorem dX1_same_17 : decode cX1_same 17 = .ok (.iadd, 1) := by decide +kernel
theorem dX1_same_18 : decode cX1_same 18 = .ok (.iaload, 1) := by decide +kernel
theorem dX1_same_19 : decode cX1_same 19 = .ok (.aload_n 0, 1) := by decide +kernel
theorem dX1_same_20 : decode cX1_same 20 = .ok (.getfield 20, 3) := by decide +kernel
theorem dX1_same_23 : decode cX1_same 23 = .ok (.bipush 8, 2) := by decide +kernel
theorem dX1_same_25 : decode cX1_same 25 = .ok (.iload_n 2, 1) := by decide +kernel
theorem dX1_same_26 : decode cX1_same 26 = .ok (.imul, 1) := by decide +kernel
theorem dX1_same_27 : decode cX1_same 27 = .ok (.iload_n 3, 1) := by decide +kernel
theorem dX1_same_28 : decode cX1_same 28 = .ok (.iadd, 1) := by decide +kernel
theorem dX1_same_29 : decode cX1_same 29 = .ok (.iaload, 1) := by decide +kernel
theorem dX1_same_30 : decode cX1_same 30 = .ok (.if_icmp .eq 5, 3) := by decide +kernel
theorem dX1_same_33 : decode cX1_same 33 = .ok (.iconst 0, 1) := by decide +kernel
theorem dX1_same_34 : decode cX1_same 34 = .ok (.ireturn, 1) := by decide +kernel
theorem dX1_same_35 : decode cX1_same 35 = .ok (.iinc 3 1, 3) := by decide +kernel
theorem dX1_same_38 : decode cX1_same 38 = .ok (.goto (-36), 3) := by decide +kernel
theorem dX1_same_41 : decode cX1_same 41 = .ok (.iconst 1, 1) := by decide +kernel
theorem dX1_same_42 : decode cX1_same 42 = .ok (.ireturn, 1) := by decide +kernel
theorem dX1_common_0 : decode cX1_common 0 = .ok (.aload_n 0, 1) := by decide +kernel
theorem dX1_common_1 : decode cX1_common 1 = .ok (.iload_n 1, 1) := by decide +kernel
theorem dX1_common_2 : decode cX1_common 2 = .ok (.iload_n 2, 1) := by decide +kernel
theorem dX1_common_3 : decode cX1_common 3 = .ok (.invokevirtual 59, 3) := by decide +kernel
theorem dX1_common_6 : decode cX1_common 6 = .ok (.ifCond .eq 43, 3) := by decide +kernel
theorem dX1_common_9 : decode cX1_common 9 = .ok (.aload_n 0, 1) := by decide +kernel
theorem dX1_common_10 : decode cX1_common 10 = .ok (.iload_n 3, 1) := by decide +kernel
theorem dX1_common_11 : decode cX1_common 11 = .ok (.iload 4, 2) := by decide +kernel
theorem dX1_common_13 : decode cX1_common 13 = .ok (.invokevirtual 59, 3) := by decide +kernel
theorem dX1_common_16 : decode cX1_common 16 = .ok (.ifCond .eq 33, 3) := by decide +kernel
theorem dX1_common_19 : decode cX1_common 19 = .ok (.aload_n 0, 1) := by decide +kernel
theorem dX1_common_20 : decode cX1_common 20 = .ok (.iload_n 1, 1) := by decide +kernel
theorem dX1_common_21 : decode cX1_common 21 = .ok (.iload_n 2, 1) := by decide +kernel
theorem dX1_common_22 : decode cX1_common 22 = .ok (.invokevirtual 34, 3) := by decide +kernel
theorem dX1_common_25 : decode cX1_common 25 = .ok (.iconst (-1), 1) := by decide +kernel
theorem dX1_common_26 : decode cX1_common 26 = .ok (.if_icmp .eq 23, 3) := by decide +kernel
theorem dX1_common_29 : decode cX1_common 29 = .ok (.aload_n 0, 1) := by decide +kernel
theorem dX1_common_30 : decode cX1_common 30 = .ok (.iload_n 1, 1) := by decide +kernel
theorem dX1_common_31 : decode cX1_common 31 = .ok (.iload_n 2, 1) := by decide +kernel
theorem dX1_common_32 : decode cX1_common 32 = .ok (.invokevirtual 34, 3) := by decide +kernel
theorem dX1_common_35 : decode cX1_common 35 = .ok (.aload_n 0, 1) := by decide +kernel
theorem dX1_common_36 : decode cX1_common 36 = .ok (.iload_n 3, 1) := by decide +kernel
theorem dX1_common_37 : decode cX1_common 37 = .ok (.iload 4, 2) := by decide +kernel
theorem dX1_common_39 : decode cX1_common 39 = .ok (.invokevirtual 34, 3) := by decide +kernel
theorem dX1_common_42 : decode cX1_common 42 = .ok (.if_icmp .ne 7, 3) := by decide +kernel
theorem dX1_common_45 : decode cX1_common 45 = .ok (.iconst 1, 1) := by decide +kernel
theorem dX1_common_46 : decode cX1_common 46 = .ok (.goto 4, 3) := by decide +kernel
theorem dX1_common_49 : decode cX1_common 49 = .ok (.iconst 0, 1) := by decide +kernel
theorem dX1_common_50 : decode cX1_common 50 = .ok (.ireturn, 1) := by decide +kernel
theorem dX1_holders_0 : decode cX1_holders 0 = .ok (.aload_n 0, 1) := by decide +kernel
theorem dX1_holders_1 : decode cX1_holders 1 = .ok (.iload_n 1, 1) := by decide +kernel
theorem dX1_holders_2 : decode cX1_holders 2 = .ok (.iload_n 2, 1) := by decide +kernel
theorem dX1_holders_3 : decode cX1_holders 3 = .ok (.invokevirtual 59, 3) := by decide +kernel
theorem dX1_holders_6 : decode cX1_holders 6 = .ok (.ifCond .eq 13, 3) := by decide +kernel
theorem dX1_holders_9 : decode cX1_holders 9 = .ok (.aload_n 0, 1) := by decide +kernel
theorem dX1_holders_10 : decode cX1_holders 10 = .ok (.iload_n 1, 1) := by decide +kernel
theorem dX1_holders_11 : decode cX1_holders 11 = .ok (.iload_n 2, 1) := by decide +kernel
theorem dX1_holders_12 : decode cX1_holders 12 = .ok (.invokevirtual 34, 3) := by decide +kernel
theorem dX1_holders_15 : decode cX1_holders 15 = .ok (.iconst (-1), 1) := by decide +kernel
theorem dX1_holders_16 : decode cX1_holders 16 = .ok (.if_icmp .ne 7, 3) := by decide +kernel
theorem dX1_holders_19 : decode cX1_holders 19 = .ok (.iconst 0, 1) := by decide +kernel
theorem dX1_holders_20 : decode cX1_holders 20 = .ok (.goto 13, 3) := by decide +kernel
theorem dX1_holders_23 : decode cX1_holders 23 = .ok (.aload_n 0, 1) := by decide +kernel
theorem dX1_holders_24 : decode cX1_holders 24 = .ok (.aload_n 0, 1) := by decide +kernel
theorem dX1_holders_25 : decode cX1_holders 25 = .ok (.iload_n 1, 1) := by decide +kernel
theorem dX1_holders_26 : decode cX1_holders 26 = .ok (.iload_n 2, 1) := by decide +kernel
theorem dX1_holders_27 : decode cX1_holders 27 = .ok (.invokevirtual 34, 3) := by decide +kernel
theorem dX1_holders_30 : decode cX1_holders 30 = .ok (.invokevirtual 38, 3) := by decide +kernel
theorem dX1_holders_33 : decode cX1_holders 33 = .ok (.ireturn, 1) := by decide +kernel
theorem dX1_about_0 : decode cX1_about 0 = .ok (.aload_n 0, 1) := by decide +kernel
theorem dX1_about_1 : decode cX1_about 1 = .ok (.iload_n 1, 1) := by decide +kernel
theorem dX1_about_2 : decode cX1_about 2 = .ok (.invokevirtual 30, 3) := by decide +kernel
theorem dX1_about_5 : decode cX1_about 5 = .ok (.ifCond .eq 5, 3) := by decide +kernel
theorem dX1_about_8 : decode cX1_about 8 = .ok (.iconst 0, 1) := by decide +kernel
theorem dX1_about_9 : decode cX1_about 9 = .ok (.ireturn, 1) := by decide +kernel
theorem dX1_about_10 : decode cX1_about 10 = .ok (.iconst 0, 1) := by decide +kernel
theorem dX1_about_11 : decode cX1_about 11 = .ok (.istore_n 3, 1) := by decide +kernel
theorem dX1_about_12 : decode cX1_about 12 = .ok (.iload_n 2, 1) := by decide +kernel
theorem dX1_about_13 : decode cX1_about 13 = .ok (.tableswitch 179 0 4 #[35, 42, 49, 81, 129], 35) := by decide +kernel
theorem dX1_about_48 : decode cX1_about 48 = .ok (.aload_n 0, 1) := by decide +kernel
theorem dX1_about_49 : decode cX1_about 49 = .ok (.getfield 13, 3) := by decide +kernel
theorem dX1_about_52 : decode cX1_about 52 = .ok (.iload_n 1, 1) := by decide +kernel
theorem dX1_about_53 : decode cX1_about 53 = .ok (.iaload, 1) := by decide +kernel
theorem dX1_about_54 : decode cX1_about 54 = .ok (.ireturn, 1) := by decide +kernel
theorem dX1_about_55 : decode cX1_about 55 = .ok (.aload_n 0, 1) := by decide +kernel
theorem dX1_about_56 : decode cX1_about 56 = .ok (.iload_n 1, 1) := by decide +kernel
theorem dX1_about_57 : decode cX1_about 57 = .ok (.iconst (-1), 1) := by decide +kernel
theorem dX1_about_58 : decode cX1_about 58 = .ok (.invokevirtual 77, 3) := by decide +kernel
theorem dX1_about_61 : decode cX1_about 61 = .ok (.ireturn, 1) := by decide +kernel
theorem dX1_about_62 : decode cX1_about 62 = .ok (.iconst 0, 1) := by decide +kernel
theorem dX1_about_63 : decode cX1_about 63 = .ok (.istore 4, 2) := by decide +kernel
theorem dX1_about_65 : decode cX1_about 65 = .ok (.iload 4, 2) := by decide +kernel
theorem dX1_about_67 : decode cX1_about 67 = .ok (.sipush 200, 3) := by decide +kernel
theorem dX1_about_70 : decode cX1_about 70 = .ok (.if_icmp .ge 22, 3) := by decide +kernel
theorem dX1_about_73 : decode cX1_about 73 = .ok (.aload_n 0, 1) := by decide +kernel
theorem dX1_about_74 : decode cX1_about 74 = .ok (.iload_n 1, 1) := by decide +kernel
theorem dX1_about_75 : decode cX1_about 75 = .ok (.iload 4, 2) := by decide +kernel
theorem dX1_about_77 : decode cX1_about 77 = .ok (.invokevirtual 77, 3) := by decide +kernel
theorem dX1_about_80 : decode cX1_about 80 = .ok (.ifCond .le 6, 3) := by decide +kernel
theorem dX1_about_83 : decode cX1_about 83 = .ok (.iinc 3 1, 3) := by decide +kernel
theorem dX1_about_86 : decode cX1_about 86 = .ok (.iinc 4 1, 3) := by decide +kernel
theorem dX1_about_89 : decode cX1_about 89 = .ok (.goto (-24), 3) := by decide +kernel
theorem dX1_about_92 : decode cX1_about 92 = .ok (.iload_n 3, 1) := by decide +kernel
theorem dX1_about_93 : decode cX1_about 93 = .ok (.ireturn, 1) := by decide +kernel
theorem dX1_about_94 : decode cX1_about 94 = .ok (.iconst 0, 1) := by decide +kernel
theorem dX1_about_95 : decode cX1_about 95 = .ok (.istore 4, 2) := by decide +kernel
theorem dX1_about_97 : decode cX1_about 97 = .ok (.iload 4, 2) := by decide +kernel
theorem dX1_about_99 : decode cX1_about 99 = .ok (.sipush 200, 3) := by decide +kernel
theorem dX1_about_102 : decode cX1_about 102 = .ok (.if_icmp .ge 38, 3) := by decide +kernel
theorem dX1_about_105 : decode cX1_about 105 = .ok (.aload_n 0, 1) := by decide +kernel
theorem dX1_about_106 : decode cX1_about 106 = .ok (.iload_n 1, 1) := by decide +kernel
theorem dX1_about_107 : decode cX1_about 107 = .ok (.iload 4, 2) := by decide +kernel
theorem dX1_about_109 : decode cX1_about 109 = .ok (.invokevirtual 77, 3) := by decide +kernel
theorem dX1_about_112 : decode cX1_about 112 = .ok (.ifCond .le 22, 3) := by decide +kernel
theorem dX1_about_115 : decode cX1_about 115 = .ok (.aload_n 0, 1) := by decide +kernel
theorem dX1_about_116 : decode cX1_about 116 = .ok (.iload_n 1, 1) := by decide +kernel
theorem dX1_about_117 : decode cX1_about 117 = .ok (.iload 4, 2) := by decide +kernel
theorem dX1_about_119 : decode cX1_about 119 = .ok (.invokevirtual 77, 3) := by decide +kernel
theorem dX1_about_122 : decode cX1_about 122 = .ok (.aload_n 0, 1) := by decide +kernel
theorem dX1_about_123 : decode cX1_about 123 = .ok (.iload 4, 2) := by decide +kernel
theorem dX1_about_125 : decode cX1_about 125 = .ok (.invokevirtual 38, 3) := by decide +kernel
theorem dX1_about_128 : decode cX1_about 128 = .ok (.if_icmp .ne 6, 3) := by decide +kernel
theorem dX1_about_131 : decode cX1_about 131 = .ok (.iinc 3 1, 3) := by decide +kernel
theorem dX1_about_134 : decode cX1_about 134 = .ok (.iinc 4 1, 3) := by decide +kernel
theorem dX1_about_137 : decode cX1_about 137 = .ok (.goto (-40), 3) := by decide +kernel
theorem dX1_about_140 : decode cX1_about 140 = .ok (.iload_n 3, 1) := by decide +kernel
theorem dX1_about_141 : decode cX1_about 141 = .ok (.ireturn, 1) := by decide +kernel
theorem dX1_about_142 : decode cX1_about 142 = .ok (.iconst 0, 1) := by decide +kernel
theorem dX1_about_143 : decode cX1_about 143 = .ok (.istore 4, 2) := by decide +kernel
theorem dX1_about_145 : decode cX1_about 145 = .ok (.iload 4, 2) := by decide +kernel
theorem dX1_about_147 : decode cX1_about 147 = .ok (.aload_n 0, 1) := by decide +kernel
theorem dX1_about_148 : decode cX1_about 148 = .ok (.getfield 13, 3) := by decide +kernel
theorem dX1_about_151 : decode cX1_about 151 = .ok (.iload_n 1, 1) := by decide +kernel
theorem dX1_about_152 : decode cX1_about 152 = .ok (.iaload, 1) := by decide +kernel
theorem dX1_about_153 : decode cX1_about 153 = .ok (.if_icmp .ge 37, 3) := by decide +kernel
theorem dX1_about_156 : decode cX1_about 156 = .ok (.iconst 0, 1) := by decide +kernel
theorem dX1_about_157 : decode cX1_about 157 = .ok (.istore 5, 2) := by decide +kernel
theorem dX1_about_159 : decode cX1_about 159 = .ok (.iload 5, 2) := by decide +kernel
theorem dX1_about_161 : decode cX1_about 161 = .ok (.bipush 8, 2) := by decide +kernel
theorem dX1_about_163 : decode cX1_about 163 = .ok (.if_icmp .ge 21, 3) := by decide +kernel
theorem dX1_about_166 : decode cX1_about 166 = .ok (.iload_n 3, 1) := by decide +kernel
theorem dX1_about_167 : decode cX1_about 167 = .ok (.aload_n 0, 1) := by decide +kernel
theorem dX1_about_168 : decode cX1_about 168 = .ok (.iload_n 1, 1) := by decide +kernel
theorem dX1_about_169 : decode cX1_about 169 = .ok (.iload 4, 2) := by decide +kernel
theorem dX1_about_171 : decode cX1_about 171 = .ok (.iload 5, 2) := by decide +kernel
theorem dX1_about_173 : decode cX1_about 173 = .ok (.invokevirtual 63, 3) := by decide +kernel
theorem dX1_about_176 : decode cX1_about 176 = .ok (.iadd, 1) := by decide +kernel
theorem dX1_about_177 : decode cX1_about 177 = .ok (.istore_n 3, 1) := by decide +kernel
theorem dX1_about_178 : decode cX1_about 178 = .ok (.iinc 5 1, 3) := by decide +kernel
theorem dX1_about_181 : decode cX1_about 181 = .ok (.goto (-22), 3) := by decide +kernel
theorem dX1_about_184 : decode cX1_about 184 = .ok (.iinc 4 1, 3) := by decide +kernel
theorem dX1_about_187 : decode cX1_about 187 = .ok (.goto (-42), 3) := by decide +kernel
theorem dX1_about_190 : decode cX1_about 190 = .ok (.iload_n 3, 1) := by decide +kernel
theorem dX1_about_191 : decode cX1_about 191 = .ok (.ireturn, 1) := by decide +kernel
theorem dX1_about_192 : decode cX1_about 192 = .ok (.aload_n 0, 1) := by decide +kernel
theorem dX1_about_193 : decode cX1_about 193 = .ok (.iconst 2, 1) := by decide +kernel
theorem dX1_about_194 : decode cX1_about 194 = .ok (.invokevirtual 50, 3) := by decide +kernel
theorem dX1_about_197 : decode cX1_about 197 = .ok (.ireturn, 1) := by decide +kernel
theorem dX1_own0_0 : decode cX1_own0 0 = .ok (.iconst 0, 1) := by decide +kernel
theorem dX1_own0_1 : decode cX1_own0 1 = .ok (.istore_n 3, 1) := by decide +kernel
theorem dX1_own0_2 : decode cX1_own0 2 = .ok (.iconst 0, 1) := by decide +kernel
theorem dX1_own0_3 : decode cX1_own0 3 = .ok (.istore 4, 2) := by decide +kernel
theorem dX1_own0_5 : decode cX1_own0 5 = .ok (.iload 4, 2) := by decide +kernel
theorem dX1_own0_7 : decode cX1_own0 7 = .ok (.aload_n 0, 1) := by decide +kernel
theorem dX1_own0_8 : decode cX1_own0 8 = .ok (.getfield 13, 3) := by decide +kernel
theorem dX1_own0_11 : decode cX1_own0 11 = .ok (.iload_n 1, 1) := by decide +kernel
theorem dX1_own0_12 : decode cX1_own0 12 = .ok (.iaload, 1) := by decide +kernel
theorem dX1_own0_13 : decode cX1_own0 13 = .ok (.if_icmp .ge 23, 3) := by decide +kernel
theorem dX1_own0_16 : decode cX1_own0 16 = .ok (.aload_n 0, 1) := by decide +kernel
theorem dX1_own0_17 : decode cX1_own0 17 = .ok (.iload_n 1, 1) := by decide +kernel
theorem dX1_own0_18 : decode cX1_own0 18 = .ok (.iload 4, 2) := by decide +kernel
theorem dX1_own0_20 : decode cX1_own0 20 = .ok (.invokevirtual 34, 3) := by decide +kernel
theorem dX1_own0_23 : decode cX1_own0 23 = .ok (.iload_n 2, 1) := by decide +kernel
theorem dX1_own0_24 : decode cX1_own0 24 = .ok (.if_icmp .ne 6, 3) := by decide +kernel
theorem dX1_own0_27 : decode cX1_own0 27 = .ok (.iinc 3 1, 3) := by decide +kernel
theorem dX1_own0_30 : decode cX1_own0 30 = .ok (.iinc 4 1, 3) := by decide +kernel
theorem dX1_own0_33 : decode cX1_own0 33 = .ok (.goto (-28), 3) := by decide +kernel
theorem dX1_own0_36 : decode cX1_own0 36 = .ok (.iload_n 3, 1) := by decide +kernel
theorem dX1_own0_37 : decode cX1_own0 37 = .ok (.ireturn, 1) := by decide +kernel
theorem dX1_count_0 : decode cX1_count 0 = .ok (.aload_n 0, 1) := by decide +kernel
theorem dX1_count_1 : decode cX1_count 1 = .ok (.iconst 0, 1) := by decide +kernel
theorem dX1_count_2 : decode cX1_count 2 = .ok (.putfield 26, 3) := by decide +kernel
theorem dX1_count_5 : decode cX1_count 5 = .ok (.iconst 0, 1) := by decide +kernel
theorem dX1_count_6 : decode cX1_count 6 = .ok (.istore_n 2, 1) := by decide +kernel
theorem dX1_count_7 : decode cX1_count 7 = .ok (.iload_n 1, 1) := by decide +kernel
theorem dX1_count_8 : decode cX1_count 8 = .ok (.tableswitch 167 0 3 #[32, 60, 94, 99], 32) := by decide +kernel
theorem dX1_count_40 : decode cX1_count 40 = .ok (.iconst 0, 1) := by decide +kernel
theorem dX1_count_41 : decode cX1_count 41 = .ok (.istore_n 3, 1) := by decide +kernel
theorem dX1_count_42 : decode cX1_count 42 = .ok (.iload_n 3, 1) := by decide +kernel
theorem dX1_count_43 : decode cX1_count 43 = .ok (.bipush 40, 2) := by decide +kernel
theorem dX1_count_45 : decode cX1_count 45 = .ok (.if_icmp .ge 21, 3) := by decide +kernel
theorem dX1_count_48 : decode cX1_count 48 = .ok (.aload_n 0, 1) := by decide +kernel
theorem dX1_count_49 : decode cX1_count 49 = .ok (.getfield 9, 3) := by decide +kernel
theorem dX1_count_52 : decode cX1_count 52 = .ok (.iload_n 3, 1) := by decide +kernel
theorem dX1_count_53 : decode cX1_count 53 = .ok (.baload, 1) := by decide +kernel
theorem dX1_count_54 : decode cX1_count 54 = .ok (.ifCond .eq 6, 3) := by decide +kernel
theorem dX1_count_57 : decode cX1_count 57 = .ok (.iinc 2 1, 3) := by decide +kernel
theorem dX1_count_60 : decode cX1_count 60 = .ok (.iinc 3 1, 3) := by decide +kernel
theorem dX1_count_63 : decode cX1_count 63 = .ok (.goto (-21), 3) := by decide +kernel
theorem dX1_count_66 : decode cX1_count 66 = .ok (.iload_n 2, 1) := by decide +kernel
theorem dX1_count_67 : decode cX1_count 67 = .ok (.ireturn, 1) := by decide +kernel
theorem dX1_count_68 : decode cX1_count 68 = .ok (.iconst 0, 1) := by decide +kernel
theorem dX1_count_69 : decode cX1_count 69 = .ok (.istore_n 3, 1) := by decide +kernel
theorem dX1_count_70 : decode cX1_count 70 = .ok (.iload_n 3, 1) := by decide +kernel
theorem dX1_count_71 : decode cX1_count 71 = .ok (.bipush 40, 2) := by decide +kernel
theorem dX1_count_73 : decode cX1_count 73 = .ok (.if_icmp .ge 27, 3) := by decide +kernel
theorem dX1_count_76 : decode cX1_count 76 = .ok (.aload_n 0, 1) := by decide +kernel
theorem dX1_count_77 : decode cX1_count 77 = .ok (.getfield 9, 3) := by decide +kernel
theorem dX1_count_80 : decode cX1_count 80 = .ok (.iload_n 3, 1) := by decide +kernel
theorem dX1_count_81 : decode cX1_count 81 = .ok (.baload, 1) := by decide +kernel
theorem dX1_count_82 : decode cX1_count 82 = .ok (.ifCond .eq 12, 3) := by decide +kernel
theorem dX1_count_85 : decode cX1_count 85 = .ok (.iload_n 2, 1) := by decide +kernel
theorem dX1_count_86 : decode cX1_count 86 = .ok (.aload_n 0, 1) := by decide +kernel
theorem dX1_count_87 : decode cX1_count 87 = .ok (.getfield 13, 3) := by decide +kernel
theorem dX1_count_90 : decode cX1_count 90 = .ok (.iload_n 3, 1) := by decide +kernel
theorem dX1_count_91 : decode cX1_count 91 = .ok (.iaload, 1) := by decide +kernel
theorem dX1_count_92 : decode cX1_count 92 = .ok (.iadd, 1) := by decide +kernel
theorem dX1_count_93 : decode cX1_count 93 = .ok (.istore_n 2, 1) := by decide +kernel
theorem dX1_count_94 : decode cX1_count 94 = .ok (.iinc 3 1, 3) := by decide +kernel
theorem dX1_count_97 : decode cX1_count 97 = .ok (.goto (-27), 3) := by decide +kernel
theorem dX1_count_100 : decode cX1_count 100 = .ok (.iload_n 2, 1) := by decide +kernel
theorem dX1_count_101 : decode cX1_count 101 = .ok (.ireturn, 1) := by decide +kernel
theorem dX1_count_102 : decode cX1_count 102 = .ok (.aload_n 0, 1) := by decide +kernel
theorem dX1_count_103 : decode cX1_count 103 = .ok (.invokevirtual 53, 3) := by decide +kernel
theorem dX1_count_106 : decode cX1_count 106 = .ok (.ireturn, 1) := by decide +kernel
theorem dX1_count_107 : decode cX1_count 107 = .ok (.iconst 0, 1) := by decide +kernel
theorem dX1_count_108 : decode cX1_count 108 = .ok (.istore_n 3, 1) := by decide +kernel
theorem dX1_count_109 : decode cX1_count 109 = .ok (.iload_n 3, 1) := by decide +kernel
theorem dX1_count_110 : decode cX1_count 110 = .ok (.sipush 200, 3) := by decide +kernel
theorem dX1_count_113 : decode cX1_count 113 = .ok (.if_icmp .ge 60, 3) := by decide +kernel
theorem dX1_count_116 : decode cX1_count 116 = .ok (.iconst 0, 1) := by decide +kernel
theorem dX1_count_117 : decode cX1_count 117 = .ok (.istore 4, 2) := by decide +kernel
theorem dX1_count_119 : decode cX1_count 119 = .ok (.iconst 0, 1) := by decide +kernel
theorem dX1_count_120 : decode cX1_count 120 = .ok (.istore 5, 2) := by decide +kernel
theorem dX1_count_122 : decode cX1_count 122 = .ok (.iload 5, 2) := by decide +kernel
theorem dX1_count_124 : decode cX1_count 124 = .ok (.bipush 40, 2) := by decide +kernel
theorem dX1_count_126 : decode cX1_count 126 = .ok (.if_icmp .ge 32, 3) := by decide +kernel
theorem dX1_count_129 : decode cX1_count 129 = .ok (.aload_n 0, 1) := by decide +kernel
theorem dX1_count_130 : decode cX1_count 130 = .ok (.getfield 9, 3) := by decide +kernel
theorem dX1_count_133 : decode cX1_count 133 = .ok (.iload 5, 2) := by decide +kernel
theorem dX1_count_135 : decode cX1_count 135 = .ok (.baload, 1) := by decide +kernel
theorem dX1_count_136 : decode cX1_count 136 = .ok (.ifCond .eq 16, 3) := by decide +kernel
theorem dX1_count_139 : decode cX1_count 139 = .ok (.aload_n 0, 1) := by decide +kernel
theorem dX1_count_140 : decode cX1_count 140 = .ok (.iload 5, 2) := by decide +kernel
theorem dX1_count_142 : decode cX1_count 142 = .ok (.iload_n 3, 1) := by decide +kernel
theorem dX1_count_143 : decode cX1_count 143 = .ok (.invokevirtual 77, 3) := by decide +kernel
theorem dX1_count_146 : decode cX1_count 146 = .ok (.ifCond .le 6, 3) := by decide +kernel
theorem dX1_count_149 : decode cX1_count 149 = .ok (.iinc 4 1, 3) := by decide +kernel
theorem dX1_count_152 : decode cX1_count 152 = .ok (.iinc 5 1, 3) := by decide +kernel
theorem dX1_count_155 : decode cX1_count 155 = .ok (.goto (-33), 3) := by decide +kernel
theorem dX1_count_158 : decode cX1_count 158 = .ok (.iload 4, 2) := by decide +kernel
theorem dX1_count_160 : decode cX1_count 160 = .ok (.iconst 1, 1) := by decide +kernel
theorem dX1_count_161 : decode cX1_count 161 = .ok (.if_icmp .le 6, 3) := by decide +kernel
theorem dX1_count_164 : decode cX1_count 164 = .ok (.iinc 2 1, 3) := by decide +kernel
theorem dX1_count_167 : decode cX1_count 167 = .ok (.iinc 3 1, 3) := by decide +kernel
theorem dX1_count_170 : decode cX1_count 170 = .ok (.goto (-61), 3) := by decide +kernel
theorem dX1_count_173 : decode cX1_count 173 = .ok (.iload_n 2, 1) := by decide +kernel
theorem dX1_count_174 : decode cX1_count 174 = .ok (.ireturn, 1) := by decide +kernel
theorem dX1_count_175 : decode cX1_count 175 = .ok (.iconst (-1), 1) := by decide +kernel
theorem dX1_count_176 : decode cX1_count 176 = .ok (.ireturn, 1) := by decide +kernel
