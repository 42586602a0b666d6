theorem dL_make_0 : decode cL_make 0 = .ok (.aload_n 2, 1) := by decide +kernel
theorem dL_make_1 : decode cL_make 1 = .ok (.iconst 0, 1) := by decide +kernel
theorem dL_make_2 : decode cL_make 2 = .ok (.aload_n 0, 1) := by decide +kernel
theorem dL_make_3 : decode cL_make 3 = .ok (.iload_n 1, 1) := by decide +kernel
theorem dL_make_4 : decode cL_make 4 = .ok (.invokevirtual 7, 3) := by decide +kernel
theorem dL_make_7 : decode cL_make 7 = .ok (.i2l, 1) := by decide +kernel
theorem dL_make_8 : decode cL_make 8 = .ok (.lastore, 1) := by decide +kernel
theorem dL_make_9 : decode cL_make 9 = .ok (.goto 9, 3) := by decide +kernel
theorem dL_make_12 : decode cL_make 12 = .ok (.astore_n 3, 1) := by decide +kernel
theorem dL_make_13 : decode cL_make 13 = .ok (.iconst 1, 1) := by decide +kernel
theorem dL_make_14 : decode cL_make 14 = .ok (.ireturn, 1) := by decide +kernel
theorem dL_make_15 : decode cL_make 15 = .ok (.astore_n 3, 1) := by decide +kernel
theorem dL_make_16 : decode cL_make 16 = .ok (.iconst 2, 1) := by decide +kernel
theorem dL_make_17 : decode cL_make 17 = .ok (.ireturn, 1) := by decide +kernel
theorem dL_make_18 : decode cL_make 18 = .ok (.iconst 0, 1) := by decide +kernel
theorem dL_make_19 : decode cL_make 19 = .ok (.ireturn, 1) := by decide +kernel
theorem dL_share_0 : decode cL_share 0 = .ok (.aload 4, 2) := by decide +kernel
theorem dL_share_2 : decode cL_share 2 = .ok (.iconst 0, 1) := by decide +kernel
theorem dL_share_3 : decode cL_share 3 = .ok (.aload_n 0, 1) := by decide +kernel
theorem dL_share_4 : decode cL_share 4 = .ok (.iload_n 1, 1) := by decide +kernel
theorem dL_share_5 : decode cL_share 5 = .ok (.iload_n 2, 1) := by decide +kernel
theorem dL_share_6 : decode cL_share 6 = .ok (.iload_n 3, 1) := by decide +kernel
theorem dL_share_7 : decode cL_share 7 = .ok (.invokevirtual 17, 3) := by decide +kernel
theorem dL_share_10 : decode cL_share 10 = .ok (.i2l, 1) := by decide +kernel
theorem dL_share_11 : decode cL_share 11 = .ok (.lastore, 1) := by decide +kernel
theorem dL_share_12 : decode cL_share 12 = .ok (.goto 11, 3) := by decide +kernel
theorem dL_share_15 : decode cL_share 15 = .ok (.astore 5, 2) := by decide +kernel
theorem dL_share_17 : decode cL_share 17 = .ok (.iconst 1, 1) := by decide +kernel
theorem dL_share_18 : decode cL_share 18 = .ok (.ireturn, 1) := by decide +kernel
theorem dL_share_19 : decode cL_share 19 = .ok (.astore 5, 2) := by decide +kernel
theorem dL_share_21 : decode cL_share 21 = .ok (.iconst 2, 1) := by decide +kernel
theorem dL_share_22 : decode cL_share 22 = .ok (.ireturn, 1) := by decide +kernel
theorem dL_share_23 : decode cL_share 23 = .ok (.iconst 0, 1) := by decide +kernel
theorem dL_share_24 : decode cL_share 24 = .ok (.ireturn, 1) := by decide +kernel
theorem dL_drop_0 : decode cL_drop 0 = .ok (.aload_n 2, 1) := by decide +kernel
theorem dL_drop_1 : decode cL_drop 1 = .ok (.iconst 0, 1) := by decide +kernel
theorem dL_drop_2 : decode cL_drop 2 = .ok (.aload_n 0, 1) := by decide +kernel
theorem dL_drop_3 : decode cL_drop 3 = .ok (.iload_n 1, 1) := by decide +kernel
theorem dL_drop_4 : decode cL_drop 4 = .ok (.invokevirtual 23, 3) := by decide +kernel
theorem dL_drop_7 : decode cL_drop 7 = .ok (.i2l, 1) := by decide +kernel
theorem dL_drop_8 : decode cL_drop 8 = .ok (.lastore, 1) := by decide +kernel
theorem dL_drop_9 : decode cL_drop 9 = .ok (.goto 6, 3) := by decide +kernel
theorem dL_drop_12 : decode cL_drop 12 = .ok (.astore_n 3, 1) := by decide +kernel
theorem dL_drop_13 : decode cL_drop 13 = .ok (.iconst 1, 1) := by decide +kernel
theorem dL_drop_14 : decode cL_drop 14 = .ok (.ireturn, 1) := by decide +kernel
theorem dL_drop_15 : decode cL_drop 15 = .ok (.iconst 0, 1) := by decide +kernel
theorem dL_drop_16 : decode cL_drop 16 = .ok (.ireturn, 1) := by decide +kernel
theorem dL_write_0 : decode cL_write 0 = .ok (.aload 5, 2) := by decide +kernel
theorem dL_write_2 : decode cL_write 2 = .ok (.iconst 0, 1) := by decide +kernel
theorem dL_write_3 : decode cL_write 3 = .ok (.aload_n 0, 1) := by decide +kernel
theorem dL_write_4 : decode cL_write 4 = .ok (.iload_n 1, 1) := by decide +kernel
theorem dL_write_5 : decode cL_write 5 = .ok (.iload_n 2, 1) := by decide +kernel
theorem dL_write_6 : decode cL_write 6 = .ok (.iload_n 3, 1) := by decide +kernel
theorem dL_write_7 : decode cL_write 7 = .ok (.iload 4, 2) := by decide +kernel
theorem dL_write_9 : decode cL_write 9 = .ok (.invokevirtual 26, 3) := by decide +kernel
theorem dL_write_12 : decode cL_write 12 = .ok (.i2l, 1) := by decide +kernel
theorem dL_write_13 : decode cL_write 13 = .ok (.lastore, 1) := by decide +kernel
theorem dL_write_14 : decode cL_write 14 = .ok (.goto 11, 3) := by decide +kernel
theorem dL_write_17 : decode cL_write 17 = .ok (.astore 6, 2) := by decide +kernel
theorem dL_write_19 : decode cL_write 19 = .ok (.iconst 1, 1) := by decide +kernel
theorem dL_write_20 : decode cL_write 20 = .ok (.ireturn, 1) := by decide +kernel
theorem dL_write_21 : decode cL_write 21 = .ok (.astore 6, 2) := by decide +kernel
theorem dL_write_23 : decode cL_write 23 = .ok (.iconst 2, 1) := by decide +kernel
theorem dL_write_24 : decode cL_write 24 = .ok (.ireturn, 1) := by decide +kernel
theorem dL_write_25 : decode cL_write 25 = .ok (.iconst 0, 1) := by decide +kernel
theorem dL_write_26 : decode cL_write 26 = .ok (.ireturn, 1) := by decide +kernel
theorem dL_read_0 : decode cL_read 0 = .ok (.aload 4, 2) := by decide +kernel
theorem dL_read_2 : decode cL_read 2 = .ok (.iconst 0, 1) := by decide +kernel
theorem dL_read_3 : decode cL_read 3 = .ok (.aload_n 0, 1) := by decide +kernel
theorem dL_read_4 : decode cL_read 4 = .ok (.iload_n 1, 1) := by decide +kernel
theorem dL_read_5 : decode cL_read 5 = .ok (.iload_n 2, 1) := by decide +kernel
theorem dL_read_6 : decode cL_read 6 = .ok (.iload_n 3, 1) := by decide +kernel
theorem dL_read_7 : decode cL_read 7 = .ok (.invokevirtual 32, 3) := by decide +kernel
theorem dL_read_10 : decode cL_read 10 = .ok (.i2l, 1) := by decide +kernel
theorem dL_read_11 : decode cL_read 11 = .ok (.lastore, 1) := by decide +kernel
theorem dL_read_12 : decode cL_read 12 = .ok (.goto 7, 3) := by decide +kernel
theorem dL_read_15 : decode cL_read 15 = .ok (.astore 5, 2) := by decide +kernel
theorem dL_read_17 : decode cL_read 17 = .ok (.iconst 1, 1) := by decide +kernel
theorem dL_read_18 : decode cL_read 18 = .ok (.ireturn, 1) := by decide +kernel
theorem dL_read_19 : decode cL_read 19 = .ok (.iconst 0, 1) := by decide +kernel
theorem dL_read_20 : decode cL_read 20 = .ok (.ireturn, 1) := by decide +kernel
theorem dL_lay_0 : decode cL_lay 0 = .ok (.aload 6, 2) := by decide +kernel
theorem dL_lay_2 : decode cL_lay 2 = .ok (.iconst 0, 1) := by decide +kernel
theorem dL_lay_3 : decode cL_lay 3 = .ok (.aload_n 0, 1) := by decide +kernel
theorem dL_lay_4 : decode cL_lay 4 = .ok (.iload_n 1, 1) := by decide +kernel
theorem dL_lay_5 : decode cL_lay 5 = .ok (.iload_n 2, 1) := by decide +kernel
theorem dL_lay_6 : decode cL_lay 6 = .ok (.iload_n 3, 1) := by decide +kernel
theorem dL_lay_7 : decode cL_lay 7 = .ok (.iload 4, 2) := by decide +kernel
theorem dL_lay_9 : decode cL_lay 9 = .ok (.iload 5, 2) := by decide +kernel
theorem dL_lay_11 : decode cL_lay 11 = .ok (.invokevirtual 35, 3) := by decide +kernel
theorem dL_lay_14 : decode cL_lay 14 = .ok (.i2l, 1) := by decide +kernel
theorem dL_lay_15 : decode cL_lay 15 = .ok (.lastore, 1) := by decide +kernel
theorem dL_lay_16 : decode cL_lay 16 = .ok (.goto 7, 3) := by decide +kernel
theorem dL_lay_19 : decode cL_lay 19 = .ok (.astore 7, 2) := by decide +kernel
theorem dL_lay_21 : decode cL_lay 21 = .ok (.iconst 1, 1) := by decide +kernel
theorem dL_lay_22 : decode cL_lay 22 = .ok (.ireturn, 1) := by decide +kernel
theorem dL_lay_23 : decode cL_lay 23 = .ok (.iconst 0, 1) := by decide +kernel
theorem dL_lay_24 : decode cL_lay 24 = .ok (.ireturn, 1) := by decide +kernel
theorem dL_size_0 : decode cL_size 0 = .ok (.aload_n 3, 1) := by decide +kernel
theorem dL_size_1 : decode cL_size 1 = .ok (.iconst 0, 1) := by decide +kernel
theorem dL_size_2 : decode cL_size 2 = .ok (.aload_n 0, 1) := by decide +kernel
theorem dL_size_3 : decode cL_size 3 = .ok (.iload_n 1, 1) := by decide +kernel
theorem dL_size_4 : decode cL_size 4 = .ok (.iload_n 2, 1) := by decide +kernel
theorem dL_size_5 : decode cL_size 5 = .ok (.invokevirtual 39, 3) := by decide +kernel
theorem dL_size_8 : decode cL_size 8 = .ok (.i2l, 1) := by decide +kernel
theorem dL_size_9 : decode cL_size 9 = .ok (.lastore, 1) := by decide +kernel
theorem dL_size_10 : decode cL_size 10 = .ok (.goto 11, 3) := by decide +kernel
theorem dL_size_13 : decode cL_size 13 = .ok (.astore 4, 2) := by decide +kernel
theorem dL_size_15 : decode cL_size 15 = .ok (.iconst 1, 1) := by decide +kernel
theorem dL_size_16 : decode cL_size 16 = .ok (.ireturn, 1) := by decide +kernel
theorem dL_size_17 : decode cL_size 17 = .ok (.astore 4, 2) := by decide +kernel
theorem dL_size_19 : decode cL_size 19 = .ok (.iconst 2, 1) := by decide +kernel
theorem dL_size_20 : decode cL_size 20 = .ok (.ireturn, 1) := by decide +kernel
theorem dL_size_21 : decode cL_size 21 = .ok (.iconst 0, 1) := by decide +kernel
theorem dL_size_22 : decode cL_size 22 = .ok (.ireturn, 1) := by decide +kernel
theorem dL_blank_0 : decode cL_blank 0 = .ok (.aload_n 3, 1) := by decide +kernel
theorem dL_blank_1 : decode cL_blank 1 = .ok (.iconst 0, 1) := by decide +kernel
theorem dL_blank_2 : decode cL_blank 2 = .ok (.aload_n 0, 1) := by decide +kernel
theorem dL_blank_3 : decode cL_blank 3 = .ok (.iload_n 1, 1) := by decide +kernel
theorem dL_blank_4 : decode cL_blank 4 = .ok (.iload_n 2, 1) := by decide +kernel
theorem dL_blank_5 : decode cL_blank 5 = .ok (.invokevirtual 43, 3) := by decide +kernel
theorem dL_blank_8 : decode cL_blank 8 = .ok (.ifCond .eq 7, 3) := by decide +kernel
theorem dL_blank_11 : decode cL_blank 11 = .ok (.lconst 1, 1) := by decide +kernel
theorem dL_blank_12 : decode cL_blank 12 = .ok (.goto 4, 3) := by decide +kernel
theorem dL_blank_15 : decode cL_blank 15 = .ok (.lconst 0, 1) := by decide +kernel
theorem dL_blank_16 : decode cL_blank 16 = .ok (.lastore, 1) := by decide +kernel
theorem dL_blank_17 : decode cL_blank 17 = .ok (.goto 7, 3) := by decide +kernel
theorem dL_blank_20 : decode cL_blank 20 = .ok (.astore 4, 2) := by decide +kernel
theorem dL_blank_22 : decode cL_blank 22 = .ok (.iconst 1, 1) := by decide +kernel
theorem dL_blank_23 : decode cL_blank 23 = .ok (.ireturn, 1) := by decide +kernel
theorem dL_blank_24 : decode cL_blank 24 = .ok (.iconst 0, 1) := by decide +kernel
theorem dL_blank_25 : decode cL_blank 25 = .ok (.ireturn, 1) := by decide +kernel
theorem dL_own_0 : decode cL_own 0 = .ok (.aload_n 3, 1) := by decide +kernel
theorem dL_own_1 : decode cL_own 1 = .ok (.iconst 0, 1) := by decide +kernel
theorem dL_own_2 : decode cL_own 2 = .ok (.aload_n 0, 1) := by decide +kernel
theorem dL_own_3 : decode cL_own 3 = .ok (.iload_n 1, 1) := by decide +kernel
theorem dL_own_4 : decode cL_own 4 = .ok (.iload_n 2, 1) := by decide +kernel
theorem dL_own_5 : decode cL_own 5 = .ok (.invokevirtual 47, 3) := by decide +kernel
theorem dL_own_8 : decode cL_own 8 = .ok (.ifCond .eq 7, 3) := by decide +kernel
theorem dL_own_11 : decode cL_own 11 = .ok (.lconst 1, 1) := by decide +kernel
theorem dL_own_12 : decode cL_own 12 = .ok (.goto 4, 3) := by decide +kernel
theorem dL_own_15 : decode cL_own 15 = .ok (.lconst 0, 1) := by decide +kernel
theorem dL_own_16 : decode cL_own 16 = .ok (.lastore, 1) := by decide +kernel
theorem dL_own_17 : decode cL_own 17 = .ok (.goto 11, 3) := by decide +kernel
theorem dL_own_20 : decode cL_own 20 = .ok (.astore 4, 2) := by decide +kernel
theorem dL_own_22 : decode cL_own 22 = .ok (.iconst 1, 1) := by decide +kernel
theorem dL_own_23 : decode cL_own 23 = .ok (.ireturn, 1) := by decide +kernel
theorem dL_own_24 : decode cL_own 24 = .ok (.astore 4, 2) := by decide +kernel
theorem dL_own_26 : decode cL_own 26 = .ok (.iconst 2, 1) := by decide +kernel
theorem dL_own_27 : decode cL_own 27 = .ok (.ireturn, 1) := by decide +kernel
theorem dL_own_28 : decode cL_own 28 = .ok (.iconst 0, 1) := by decide +kernel
theorem dL_own_29 : decode cL_own 29 = .ok (.ireturn, 1) := by decide +kernel
theorem dL_common_0 : decode cL_common 0 = .ok (.aload 5, 2) := by decide +kernel
theorem dL_common_2 : decode cL_common 2 = .ok (.iconst 0, 1) := by decide +kernel
theorem dL_common_3 : decode cL_common 3 = .ok (.aload_n 0, 1) := by decide +kernel
theorem dL_common_4 : decode cL_common 4 = .ok (.iload_n 1, 1) := by decide +kernel
theorem dL_common_5 : decode cL_common 5 = .ok (.iload_n 2, 1) := by decide +kernel
theorem dL_common_6 : decode cL_common 6 = .ok (.iload_n 3, 1) := by decide +kernel
theorem dL_common_7 : decode cL_common 7 = .ok (.iload 4, 2) := by decide +kernel
theorem dL_common_9 : decode cL_common 9 = .ok (.invokevirtual 50, 3) := by decide +kernel
theorem dL_common_12 : decode cL_common 12 = .ok (.ifCond .eq 7, 3) := by decide +kernel
theorem dL_common_15 : decode cL_common 15 = .ok (.lconst 1, 1) := by decide +kernel
theorem dL_common_16 : decode cL_common 16 = .ok (.goto 4, 3) := by decide +kernel
theorem dL_common_19 : decode cL_common 19 = .ok (.lconst 0, 1) := by decide +kernel
theorem dL_common_20 : decode cL_common 20 = .ok (.lastore, 1) := by decide +kernel
theorem dL_common_21 : decode cL_common 21 = .ok (.goto 7, 3) := by decide +kernel
theorem dL_common_24 : decode cL_common 24 = .ok (.astore 6, 2) := by decide +kernel
theorem dL_common_26 : decode cL_common 26 = .ok (.iconst 1, 1) := by decide +kernel
theorem dL_common_27 : decode cL_common 27 = .ok (.ireturn, 1) := by decide +kernel
theorem dL_common_28 : decode cL_common 28 = .ok (.iconst 0, 1) := by decide +kernel
theorem dL_common_29 : decode cL_common 29 = .ok (.ireturn, 1) := by decide +kernel
theorem dL_holders_0 : decode cL_holders 0 = .ok (.aload_n 3, 1) := by decide +kernel
theorem dL_holders_1 : decode cL_holders 1 = .ok (.iconst 0, 1) := by decide +kernel
theorem dL_holders_2 : decode cL_holders 2 = .ok (.aload_n 0, 1) := by decide +kernel
theorem dL_holders_3 : decode cL_holders 3 = .ok (.iload_n 1, 1) := by decide +kernel
theorem dL_holders_4 : decode cL_holders 4 = .ok (.iload_n 2, 1) := by decide +kernel
theorem dL_holders_5 : decode cL_holders 5 = .ok (.invokevirtual 54, 3) := by decide +kernel
theorem dL_holders_8 : decode cL_holders 8 = .ok (.i2l, 1) := by decide +kernel
theorem dL_holders_9 : decode cL_holders 9 = .ok (.lastore, 1) := by decide +kernel
theorem dL_holders_10 : decode cL_holders 10 = .ok (.goto 7, 3) := by decide +kernel
theorem dL_holders_13 : decode cL_holders 13 = .ok (.astore 4, 2) := by decide +kernel
theorem dL_holders_15 : decode cL_holders 15 = .ok (.iconst 1, 1) := by decide +kernel
theorem dL_holders_16 : decode cL_holders 16 = .ok (.ireturn, 1) := by decide +kernel
theorem dL_holders_17 : decode cL_holders 17 = .ok (.iconst 0, 1) := by decide +kernel
theorem dL_holders_18 : decode cL_holders 18 = .ok (.ireturn, 1) := by decide +kernel
theorem dL_about_0 : decode cL_about 0 = .ok (.aload_n 3, 1) := by decide +kernel
theorem dL_about_1 : decode cL_about 1 = .ok (.iconst 0, 1) := by decide +kernel
theorem dL_about_2 : decode cL_about 2 = .ok (.aload_n 0, 1) := by decide +kernel
theorem dL_about_3 : decode cL_about 3 = .ok (.iload_n 1, 1) := by decide +kernel
theorem dL_about_4 : decode cL_about 4 = .ok (.iload_n 2, 1) := by decide +kernel
theorem dL_about_5 : decode cL_about 5 = .ok (.invokevirtual 57, 3) := by decide +kernel
theorem dL_about_8 : decode cL_about 8 = .ok (.i2l, 1) := by decide +kernel
theorem dL_about_9 : decode cL_about 9 = .ok (.lastore, 1) := by decide +kernel
theorem dL_about_10 : decode cL_about 10 = .ok (.goto 11, 3) := by decide +kernel
theorem dL_about_13 : decode cL_about 13 = .ok (.astore 4, 2) := by decide +kernel
theorem dL_about_15 : decode cL_about 15 = .ok (.iconst 1, 1) := by decide +kernel
theorem dL_about_16 : decode cL_about 16 = .ok (.ireturn, 1) := by decide +kernel
theorem dL_about_17 : decode cL_about 17 = .ok (.astore 4, 2) := by decide +kernel
theorem dL_about_19 : decode cL_about 19 = .ok (.iconst 2, 1) := by decide +kernel
theorem dL_about_20 : decode cL_about 20 = .ok (.ireturn, 1) := by decide +kernel
theorem dL_about_21 : decode cL_about 21 = .ok (.iconst 0, 1) := by decide +kernel
theorem dL_about_22 : decode cL_about 22 = .ok (.ireturn, 1) := by decide +kernel
