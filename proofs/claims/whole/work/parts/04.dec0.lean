theorem dX0_init_0 : decode cX0_init 0 = .ok (.aload_n 0, 1) := by decide +kernel
theorem dX0_init_1 : decode cX0_init 1 = .ok (.invokespecial 1, 3) := by decide +kernel
theorem dX0_init_4 : decode cX0_init 4 = .ok (.aload_n 0, 1) := by decide +kernel
theorem dX0_init_5 : decode cX0_init 5 = .ok (.bipush 40, 2) := by decide +kernel
theorem dX0_init_7 : decode cX0_init 7 = .ok (.newarray .int, 2) := by decide +kernel
theorem dX0_init_9 : decode cX0_init 9 = .ok (.putfield 9, 3) := by decide +kernel
theorem dX0_init_12 : decode cX0_init 12 = .ok (.aload_n 0, 1) := by decide +kernel
theorem dX0_init_13 : decode cX0_init 13 = .ok (.getfield 9, 3) := by decide +kernel
theorem dX0_init_16 : decode cX0_init 16 = .ok (.iconst (-1), 1) := by decide +kernel
theorem dX0_init_17 : decode cX0_init 17 = .ok (.invokestatic 13, 3) := by decide +kernel
theorem dX0_init_20 : decode cX0_init 20 = .ok (.aload_n 0, 1) := by decide +kernel
theorem dX0_init_21 : decode cX0_init 21 = .ok (.bipush 40, 2) := by decide +kernel
theorem dX0_init_23 : decode cX0_init 23 = .ok (.bipush 32, 2) := by decide +kernel
theorem dX0_init_25 : decode cX0_init 25 = .ok (.multianewarray 19 2, 4) := by decide +kernel
theorem dX0_init_29 : decode cX0_init 29 = .ok (.putfield 21, 3) := by decide +kernel
theorem dX0_init_32 : decode cX0_init 32 = .ok (.aload_n 0, 1) := by decide +kernel
theorem dX0_init_33 : decode cX0_init 33 = .ok (.sipush 201, 3) := by decide +kernel
theorem dX0_init_36 : decode cX0_init 36 = .ok (.bipush 8, 2) := by decide +kernel
theorem dX0_init_38 : decode cX0_init 38 = .ok (.multianewarray 19 2, 4) := by decide +kernel
theorem dX0_init_42 : decode cX0_init 42 = .ok (.putfield 24, 3) := by decide +kernel
theorem dX0_init_45 : decode cX0_init 45 = .ok (.aload_n 0, 1) := by decide +kernel
theorem dX0_init_46 : decode cX0_init 46 = .ok (.sipush 201, 3) := by decide +kernel
theorem dX0_init_49 : decode cX0_init 49 = .ok (.newarray .int, 2) := by decide +kernel
theorem dX0_init_51 : decode cX0_init 51 = .ok (.putfield 27, 3) := by decide +kernel
theorem dX0_init_54 : decode cX0_init 54 = .ok (.aload_n 0, 1) := by decide +kernel
theorem dX0_init_55 : decode cX0_init 55 = .ok (.bipush 32, 2) := by decide +kernel
theorem dX0_init_57 : decode cX0_init 57 = .ok (.newarray .int, 2) := by decide +kernel
theorem dX0_init_59 : decode cX0_init 59 = .ok (.putfield 30, 3) := by decide +kernel
theorem dX0_init_62 : decode cX0_init 62 = .ok (.aload_n 0, 1) := by decide +kernel
theorem dX0_init_63 : decode cX0_init 63 = .ok (.sipush 201, 3) := by decide +kernel
theorem dX0_init_66 : decode cX0_init 66 = .ok (.newarray .int, 2) := by decide +kernel
theorem dX0_init_68 : decode cX0_init 68 = .ok (.putfield 33, 3) := by decide +kernel
theorem dX0_init_71 : decode cX0_init 71 = .ok (.aload_n 0, 1) := by decide +kernel
theorem dX0_init_72 : decode cX0_init 72 = .ok (.sipush 201, 3) := by decide +kernel
theorem dX0_init_75 : decode cX0_init 75 = .ok (.newarray .int, 2) := by decide +kernel
theorem dX0_init_77 : decode cX0_init 77 = .ok (.putfield 36, 3) := by decide +kernel
theorem dX0_init_80 : decode cX0_init 80 = .ok (.return_, 1) := by decide +kernel
theorem dJ7_fill_0 : decode cJ7_fill 0 = .ok (.iconst 0, 1) := by decide +kernel
theorem dJ7_fill_1 : decode cJ7_fill 1 = .ok (.istore_n 2, 1) := by decide +kernel
theorem dJ7_fill_2 : decode cJ7_fill 2 = .ok (.aload_n 0, 1) := by decide +kernel
theorem dJ7_fill_3 : decode cJ7_fill 3 = .ok (.arraylength, 1) := by decide +kernel
theorem dJ7_fill_4 : decode cJ7_fill 4 = .ok (.istore_n 3, 1) := by decide +kernel
theorem dJ7_fill_5 : decode cJ7_fill 5 = .ok (.iload_n 2, 1) := by decide +kernel
theorem dJ7_fill_6 : decode cJ7_fill 6 = .ok (.iload_n 3, 1) := by decide +kernel
theorem dJ7_fill_7 : decode cJ7_fill 7 = .ok (.if_icmp .ge 13, 3) := by decide +kernel
theorem dJ7_fill_10 : decode cJ7_fill 10 = .ok (.aload_n 0, 1) := by decide +kernel
theorem dJ7_fill_11 : decode cJ7_fill 11 = .ok (.iload_n 2, 1) := by decide +kernel
theorem dJ7_fill_12 : decode cJ7_fill 12 = .ok (.iload_n 1, 1) := by decide +kernel
theorem dJ7_fill_13 : decode cJ7_fill 13 = .ok (.iastore, 1) := by decide +kernel
theorem dJ7_fill_14 : decode cJ7_fill 14 = .ok (.iinc 2 1, 3) := by decide +kernel
theorem dJ7_fill_17 : decode cJ7_fill 17 = .ok (.goto (-12), 3) := by decide +kernel
theorem dJ7_fill_20 : decode cJ7_fill 20 = .ok (.return_, 1) := by decide +kernel
theorem dX0_sweep_0 : decode cX0_sweep 0 = .ok (.iconst 0, 1) := by decide +kernel
theorem dX0_sweep_1 : decode cX0_sweep 1 = .ok (.istore_n 1, 1) := by decide +kernel
theorem dX0_sweep_2 : decode cX0_sweep 2 = .ok (.iconst 0, 1) := by decide +kernel
theorem dX0_sweep_3 : decode cX0_sweep 3 = .ok (.istore_n 2, 1) := by decide +kernel
theorem dX0_sweep_4 : decode cX0_sweep 4 = .ok (.iload_n 2, 1) := by decide +kernel
theorem dX0_sweep_5 : decode cX0_sweep 5 = .ok (.bipush 40, 2) := by decide +kernel
theorem dX0_sweep_7 : decode cX0_sweep 7 = .ok (.if_icmp .ge 53, 3) := by decide +kernel
theorem dX0_sweep_10 : decode cX0_sweep 10 = .ok (.iconst 0, 1) := by decide +kernel
theorem dX0_sweep_11 : decode cX0_sweep 11 = .ok (.istore_n 3, 1) := by decide +kernel
theorem dX0_sweep_12 : decode cX0_sweep 12 = .ok (.iload_n 3, 1) := by decide +kernel
theorem dX0_sweep_13 : decode cX0_sweep 13 = .ok (.aload_n 0, 1) := by decide +kernel
theorem dX0_sweep_14 : decode cX0_sweep 14 = .ok (.getfield 9, 3) := by decide +kernel
theorem dX0_sweep_17 : decode cX0_sweep 17 = .ok (.iload_n 2, 1) := by decide +kernel
theorem dX0_sweep_18 : decode cX0_sweep 18 = .ok (.iaload, 1) := by decide +kernel
theorem dX0_sweep_19 : decode cX0_sweep 19 = .ok (.if_icmp .ge 35, 3) := by decide +kernel
theorem dX0_sweep_22 : decode cX0_sweep 22 = .ok (.aload_n 0, 1) := by decide +kernel
theorem dX0_sweep_23 : decode cX0_sweep 23 = .ok (.aload_n 0, 1) := by decide +kernel
theorem dX0_sweep_24 : decode cX0_sweep 24 = .ok (.getfield 21, 3) := by decide +kernel
theorem dX0_sweep_27 : decode cX0_sweep 27 = .ok (.iload_n 2, 1) := by decide +kernel
theorem dX0_sweep_28 : decode cX0_sweep 28 = .ok (.aaload, 1) := by decide +kernel
theorem dX0_sweep_29 : decode cX0_sweep 29 = .ok (.iload_n 3, 1) := by decide +kernel
theorem dX0_sweep_30 : decode cX0_sweep 30 = .ok (.iaload, 1) := by decide +kernel
theorem dX0_sweep_31 : decode cX0_sweep 31 = .ok (.iconst 0, 1) := by decide +kernel
theorem dX0_sweep_32 : decode cX0_sweep 32 = .ok (.invokevirtual 83, 3) := by decide +kernel
theorem dX0_sweep_35 : decode cX0_sweep 35 = .ok (.ifCond .eq 13, 3) := by decide +kernel
theorem dX0_sweep_38 : decode cX0_sweep 38 = .ok (.iload_n 1, 1) := by decide +kernel
theorem dX0_sweep_39 : decode cX0_sweep 39 = .ok (.aload_n 0, 1) := by decide +kernel
theorem dX0_sweep_40 : decode cX0_sweep 40 = .ok (.iload_n 2, 1) := by decide +kernel
theorem dX0_sweep_41 : decode cX0_sweep 41 = .ok (.iload_n 3, 1) := by decide +kernel
theorem dX0_sweep_42 : decode cX0_sweep 42 = .ok (.iconst 0, 1) := by decide +kernel
theorem dX0_sweep_43 : decode cX0_sweep 43 = .ok (.invokevirtual 51, 3) := by decide +kernel
theorem dX0_sweep_46 : decode cX0_sweep 46 = .ok (.iadd, 1) := by decide +kernel
theorem dX0_sweep_47 : decode cX0_sweep 47 = .ok (.istore_n 1, 1) := by decide +kernel
theorem dX0_sweep_48 : decode cX0_sweep 48 = .ok (.iinc 3 1, 3) := by decide +kernel
theorem dX0_sweep_51 : decode cX0_sweep 51 = .ok (.goto (-39), 3) := by decide +kernel
theorem dX0_sweep_54 : decode cX0_sweep 54 = .ok (.iinc 2 1, 3) := by decide +kernel
theorem dX0_sweep_57 : decode cX0_sweep 57 = .ok (.goto (-53), 3) := by decide +kernel
theorem dX0_sweep_60 : decode cX0_sweep 60 = .ok (.iload_n 1, 1) := by decide +kernel
theorem dX0_sweep_61 : decode cX0_sweep 61 = .ok (.ireturn, 1) := by decide +kernel
theorem dX0_sameCells_0 : decode cX0_sameCells 0 = .ok (.iconst 0, 1) := by decide +kernel
theorem dX0_sameCells_1 : decode cX0_sameCells 1 = .ok (.istore_n 3, 1) := by decide +kernel
theorem dX0_sameCells_2 : decode cX0_sameCells 2 = .ok (.iload_n 3, 1) := by decide +kernel
theorem dX0_sameCells_3 : decode cX0_sameCells 3 = .ok (.bipush 8, 2) := by decide +kernel
theorem dX0_sameCells_5 : decode cX0_sameCells 5 = .ok (.if_icmp .ge 30, 3) := by decide +kernel
theorem dX0_sameCells_8 : decode cX0_sameCells 8 = .ok (.aload_n 0, 1) := by decide +kernel
theorem dX0_sameCells_9 : decode cX0_sameCells 9 = .ok (.getfield 24, 3) := by decide +kernel
theorem dX0_sameCells_12 : decode cX0_sameCells 12 = .ok (.iload_n 1, 1) := by decide +kernel
theorem dX0_sameCells_13 : decode cX0_sameCells 13 = .ok (.aaload, 1) := by decide +kernel
theorem dX0_sameCells_14 : decode cX0_sameCells 14 = .ok (.iload_n 3, 1) := by decide +kernel
theorem dX0_sameCells_15 : decode cX0_sameCells 15 = .ok (.iaload, 1) := by decide +kernel
theorem dX0_sameCells_16 : decode cX0_sameCells 16 = .ok (.aload_n 0, 1) := by decide +kernel
theorem dX0_sameCells_17 : decode cX0_sameCells 17 = .ok (.getfield 24, 3) := by decide +kernel
theorem dX0_sameCells_20 : decode cX0_sameCells 20 = .ok (.iload_n 2, 1) := by decide +kernel
theorem dX0_sameCells_21 : decode cX0_sameCells 21 = .ok (.aaload, 1) := by decide +kernel
theorem dX0_sameCells_22 : decode cX0_sameCells 22 = .ok (.iload_n 3, 1) := by decide +kernel
theorem dX0_sameCells_23 : decode cX0_sameCells 23 = .ok (.iaload, 1) := by decide +kernel
theorem dX0_sameCells_24 : decode cX0_sameCells 24 = .ok (.if_icmp .eq 5, 3) := by decide +kernel
theorem dX0_sameCells_27 : decode cX0_sameCells 27 = .ok (.iconst 0, 1) := by decide +kernel
theorem dX0_sameCells_28 : decode cX0_sameCells 28 = .ok (.ireturn, 1) := by decide +kernel
theorem dX0_sameCells_29 : decode cX0_sameCells 29 = .ok (.iinc 3 1, 3) := by decide +kernel
theorem dX0_sameCells_32 : decode cX0_sameCells 32 = .ok (.goto (-30), 3) := by decide +kernel
theorem dX0_sameCells_35 : decode cX0_sameCells 35 = .ok (.iconst 1, 1) := by decide +kernel
theorem dX0_sameCells_36 : decode cX0_sameCells 36 = .ok (.ireturn, 1) := by decide +kernel
theorem dX0_pointTo_0 : decode cX0_pointTo 0 = .ok (.aload_n 0, 1) := by decide +kernel
theorem dX0_pointTo_1 : decode cX0_pointTo 1 = .ok (.getfield 21, 3) := by decide +kernel
theorem dX0_pointTo_4 : decode cX0_pointTo 4 = .ok (.iload_n 1, 1) := by decide +kernel
theorem dX0_pointTo_5 : decode cX0_pointTo 5 = .ok (.aaload, 1) := by decide +kernel
theorem dX0_pointTo_6 : decode cX0_pointTo 6 = .ok (.iload_n 2, 1) := by decide +kernel
theorem dX0_pointTo_7 : decode cX0_pointTo 7 = .ok (.iaload, 1) := by decide +kernel
theorem dX0_pointTo_8 : decode cX0_pointTo 8 = .ok (.istore 4, 2) := by decide +kernel
theorem dX0_pointTo_10 : decode cX0_pointTo 10 = .ok (.aload_n 0, 1) := by decide +kernel
theorem dX0_pointTo_11 : decode cX0_pointTo 11 = .ok (.iload_n 3, 1) := by decide +kernel
theorem dX0_pointTo_12 : decode cX0_pointTo 12 = .ok (.invokevirtual 76, 3) := by decide +kernel
theorem dX0_pointTo_15 : decode cX0_pointTo 15 = .ok (.aload_n 0, 1) := by decide +kernel
theorem dX0_pointTo_16 : decode cX0_pointTo 16 = .ok (.getfield 21, 3) := by decide +kernel
theorem dX0_pointTo_19 : decode cX0_pointTo 19 = .ok (.iload_n 1, 1) := by decide +kernel
theorem dX0_pointTo_20 : decode cX0_pointTo 20 = .ok (.aaload, 1) := by decide +kernel
theorem dX0_pointTo_21 : decode cX0_pointTo 21 = .ok (.iload_n 2, 1) := by decide +kernel
theorem dX0_pointTo_22 : decode cX0_pointTo 22 = .ok (.iload_n 3, 1) := by decide +kernel
theorem dX0_pointTo_23 : decode cX0_pointTo 23 = .ok (.iastore, 1) := by decide +kernel
theorem dX0_pointTo_24 : decode cX0_pointTo 24 = .ok (.aload_n 0, 1) := by decide +kernel
theorem dX0_pointTo_25 : decode cX0_pointTo 25 = .ok (.iload 4, 2) := by decide +kernel
theorem dX0_pointTo_27 : decode cX0_pointTo 27 = .ok (.invokevirtual 79, 3) := by decide +kernel
theorem dX0_pointTo_30 : decode cX0_pointTo 30 = .ok (.ireturn, 1) := by decide +kernel
theorem dX0_hold_0 : decode cX0_hold 0 = .ok (.iload_n 1, 1) := by decide +kernel
theorem dX0_hold_1 : decode cX0_hold 1 = .ok (.ifCond .eq 13, 3) := by decide +kernel
theorem dX0_hold_4 : decode cX0_hold 4 = .ok (.aload_n 0, 1) := by decide +kernel
theorem dX0_hold_5 : decode cX0_hold 5 = .ok (.getfield 27, 3) := by decide +kernel
theorem dX0_hold_8 : decode cX0_hold 8 = .ok (.iload_n 1, 1) := by decide +kernel
theorem dX0_hold_9 : decode cX0_hold 9 = .ok (.dup2, 1) := by decide +kernel
theorem dX0_hold_10 : decode cX0_hold 10 = .ok (.iaload, 1) := by decide +kernel
theorem dX0_hold_11 : decode cX0_hold 11 = .ok (.iconst 1, 1) := by decide +kernel
theorem dX0_hold_12 : decode cX0_hold 12 = .ok (.iadd, 1) := by decide +kernel
theorem dX0_hold_13 : decode cX0_hold 13 = .ok (.iastore, 1) := by decide +kernel
theorem dX0_hold_14 : decode cX0_hold 14 = .ok (.return_, 1) := by decide +kernel
theorem dX0_letGo_0 : decode cX0_letGo 0 = .ok (.iload_n 1, 1) := by decide +kernel
theorem dX0_letGo_1 : decode cX0_letGo 1 = .ok (.ifCond .ne 5, 3) := by decide +kernel
theorem dX0_letGo_4 : decode cX0_letGo 4 = .ok (.iconst 0, 1) := by decide +kernel
theorem dX0_letGo_5 : decode cX0_letGo 5 = .ok (.ireturn, 1) := by decide +kernel
theorem dX0_letGo_6 : decode cX0_letGo 6 = .ok (.aload_n 0, 1) := by decide +kernel
theorem dX0_letGo_7 : decode cX0_letGo 7 = .ok (.getfield 27, 3) := by decide +kernel
theorem dX0_letGo_10 : decode cX0_letGo 10 = .ok (.iload_n 1, 1) := by decide +kernel
theorem dX0_letGo_11 : decode cX0_letGo 11 = .ok (.dup2, 1) := by decide +kernel
theorem dX0_letGo_12 : decode cX0_letGo 12 = .ok (.iaload, 1) := by decide +kernel
theorem dX0_letGo_13 : decode cX0_letGo 13 = .ok (.iconst 1, 1) := by decide +kernel
theorem dX0_letGo_14 : decode cX0_letGo 14 = .ok (.isub, 1) := by decide +kernel
theorem dX0_letGo_15 : decode cX0_letGo 15 = .ok (.iastore, 1) := by decide +kernel
theorem dX0_letGo_16 : decode cX0_letGo 16 = .ok (.aload_n 0, 1) := by decide +kernel
theorem dX0_letGo_17 : decode cX0_letGo 17 = .ok (.getfield 27, 3) := by decide +kernel
theorem dX0_letGo_20 : decode cX0_letGo 20 = .ok (.iload_n 1, 1) := by decide +kernel
theorem dX0_letGo_21 : decode cX0_letGo 21 = .ok (.iaload, 1) := by decide +kernel
theorem dX0_letGo_22 : decode cX0_letGo 22 = .ok (.ifCond .ne 7, 3) := by decide +kernel
theorem dX0_letGo_25 : decode cX0_letGo 25 = .ok (.iconst 1, 1) := by decide +kernel
theorem dX0_letGo_26 : decode cX0_letGo 26 = .ok (.goto 4, 3) := by decide +kernel
theorem dX0_letGo_29 : decode cX0_letGo 29 = .ok (.iconst 0, 1) := by decide +kernel
theorem dX0_letGo_30 : decode cX0_letGo 30 = .ok (.ireturn, 1) := by decide +kernel
theorem dX0_merge_0 : decode cX0_merge 0 = .ok (.aload_n 0, 1) := by decide +kernel
theorem dX0_merge_1 : decode cX0_merge 1 = .ok (.invokevirtual 86, 3) := by decide +kernel
theorem dX0_merge_4 : decode cX0_merge 4 = .ok (.iconst 0, 1) := by decide +kernel
theorem dX0_merge_5 : decode cX0_merge 5 = .ok (.istore_n 1, 1) := by decide +kernel
theorem dX0_merge_6 : decode cX0_merge 6 = .ok (.iconst 0, 1) := by decide +kernel
theorem dX0_merge_7 : decode cX0_merge 7 = .ok (.istore_n 2, 1) := by decide +kernel
theorem dX0_merge_8 : decode cX0_merge 8 = .ok (.iload_n 2, 1) := by decide +kernel
theorem dX0_merge_9 : decode cX0_merge 9 = .ok (.bipush 40, 2) := by decide +kernel
theorem dX0_merge_11 : decode cX0_merge 11 = .ok (.if_icmp .ge 49, 3) := by decide +kernel
theorem dX0_merge_14 : decode cX0_merge 14 = .ok (.iconst 0, 1) := by decide +kernel
theorem dX0_merge_15 : decode cX0_merge 15 = .ok (.istore_n 3, 1) := by decide +kernel
theorem dX0_merge_16 : decode cX0_merge 16 = .ok (.iload_n 3, 1) := by decide +kernel
theorem dX0_merge_17 : decode cX0_merge 17 = .ok (.aload_n 0, 1) := by decide +kernel
theorem dX0_merge_18 : decode cX0_merge 18 = .ok (.getfield 9, 3) := by decide +kernel
theorem dX0_merge_21 : decode cX0_merge 21 = .ok (.iload_n 2, 1) := by decide +kernel
theorem dX0_merge_22 : decode cX0_merge 22 = .ok (.iaload, 1) := by decide +kernel
theorem dX0_merge_23 : decode cX0_merge 23 = .ok (.if_icmp .ge 31, 3) := by decide +kernel
theorem dX0_merge_26 : decode cX0_merge 26 = .ok (.iload_n 1, 1) := by decide +kernel
theorem dX0_merge_27 : decode cX0_merge 27 = .ok (.aload_n 0, 1) := by decide +kernel
theorem dX0_merge_28 : decode cX0_merge 28 = .ok (.iload_n 2, 1) := by decide +kernel
theorem dX0_merge_29 : decode cX0_merge 29 = .ok (.iload_n 3, 1) := by decide +kernel
theorem dX0_merge_30 : decode cX0_merge 30 = .ok (.aload_n 0, 1) := by decide +kernel
theorem dX0_merge_31 : decode cX0_merge 31 = .ok (.getfield 36, 3) := by decide +kernel
theorem dX0_merge_34 : decode cX0_merge 34 = .ok (.aload_n 0, 1) := by decide +kernel
theorem dX0_merge_35 : decode cX0_merge 35 = .ok (.getfield 21, 3) := by decide +kernel
theorem dX0_merge_38 : decode cX0_merge 38 = .ok (.iload_n 2, 1) := by decide +kernel
theorem dX0_merge_39 : decode cX0_merge 39 = .ok (.aaload, 1) := by decide +kernel
theorem dX0_merge_40 : decode cX0_merge 40 = .ok (.iload_n 3, 1) := by decide +kernel
theorem dX0_merge_41 : decode cX0_merge 41 = .ok (.iaload, 1) := by decide +kernel
theorem dX0_merge_42 : decode cX0_merge 42 = .ok (.iaload, 1) := by decide +kernel
theorem dX0_merge_43 : decode cX0_merge 43 = .ok (.invokevirtual 51, 3) := by decide +kernel
theorem dX0_merge_46 : decode cX0_merge 46 = .ok (.iadd, 1) := by decide +kernel
theorem dX0_merge_47 : decode cX0_merge 47 = .ok (.istore_n 1, 1) := by decide +kernel
theorem dX0_merge_48 : decode cX0_merge 48 = .ok (.iinc 3 1, 3) := by decide +kernel
theorem dX0_merge_51 : decode cX0_merge 51 = .ok (.goto (-35), 3) := by decide +kernel
theorem dX0_merge_54 : decode cX0_merge 54 = .ok (.iinc 2 1, 3) := by decide +kernel
theorem dX0_merge_57 : decode cX0_merge 57 = .ok (.goto (-49), 3) := by decide +kernel
theorem dX0_merge_60 : decode cX0_merge 60 = .ok (.iload_n 1, 1) := by decide +kernel
theorem dX0_merge_61 : decode cX0_merge 61 = .ok (.ireturn, 1) := by decide +kernel
theorem dX0_findKeepers_0 : decode cX0_findKeepers 0 = .ok (.aload_n 0, 1) := by decide +kernel
theorem dX0_findKeepers_1 : decode cX0_findKeepers 1 = .ok (.getfield 36, 3) := by decide +kernel
theorem dX0_findKeepers_4 : decode cX0_findKeepers 4 = .ok (.iconst 0, 1) := by decide +kernel
theorem dX0_findKeepers_5 : decode cX0_findKeepers 5 = .ok (.iconst 0, 1) := by decide +kernel
theorem dX0_findKeepers_6 : decode cX0_findKeepers 6 = .ok (.iastore, 1) := by decide +kernel
theorem dX0_findKeepers_7 : decode cX0_findKeepers 7 = .ok (.iconst 1, 1) := by decide +kernel
theorem dX0_findKeepers_8 : decode cX0_findKeepers 8 = .ok (.istore_n 1, 1) := by decide +kernel
theorem dX0_findKeepers_9 : decode cX0_findKeepers 9 = .ok (.iload_n 1, 1) := by decide +kernel
theorem dX0_findKeepers_10 : decode cX0_findKeepers 10 = .ok (.sipush 200, 3) := by decide +kernel
theorem dX0_findKeepers_13 : decode cX0_findKeepers 13 = .ok (.if_icmp .gt 33, 3) := by decide +kernel
theorem dX0_findKeepers_16 : decode cX0_findKeepers 16 = .ok (.aload_n 0, 1) := by decide +kernel
theorem dX0_findKeepers_17 : decode cX0_findKeepers 17 = .ok (.getfield 36, 3) := by decide +kernel
theorem dX0_findKeepers_20 : decode cX0_findKeepers 20 = .ok (.iload_n 1, 1) := by decide +kernel
theorem dX0_findKeepers_21 : decode cX0_findKeepers 21 = .ok (.aload_n 0, 1) := by decide +kernel
theorem dX0_findKeepers_22 : decode cX0_findKeepers 22 = .ok (.getfield 27, 3) := by decide +kernel
theorem dX0_findKeepers_25 : decode cX0_findKeepers 25 = .ok (.iload_n 1, 1) := by decide +kernel
theorem dX0_findKeepers_26 : decode cX0_findKeepers 26 = .ok (.iaload, 1) := by decide +kernel
theorem dX0_findKeepers_27 : decode cX0_findKeepers 27 = .ok (.ifCond .ne 7, 3) := by decide +kernel
theorem dX0_findKeepers_30 : decode cX0_findKeepers 30 = .ok (.iload_n 1, 1) := by decide +kernel
theorem dX0_findKeepers_31 : decode cX0_findKeepers 31 = .ok (.goto 8, 3) := by decide +kernel
theorem dX0_findKeepers_34 : decode cX0_findKeepers 34 = .ok (.aload_n 0, 1) := by decide +kernel
theorem dX0_findKeepers_35 : decode cX0_findKeepers 35 = .ok (.iload_n 1, 1) := by decide +kernel
theorem dX0_findKeepers_36 : decode cX0_findKeepers 36 = .ok (.invokevirtual 135, 3) := by decide +kernel
theorem dX0_findKeepers_39 : decode cX0_findKeepers 39 = .ok (.iastore, 1) := by decide +kernel
theorem dX0_findKeepers_40 : decode cX0_findKeepers 40 = .ok (.iinc 1 1, 3) := by decide +kernel
theorem dX0_findKeepers_43 : decode cX0_findKeepers 43 = .ok (.goto (-34), 3) := by decide +kernel
theorem dX0_findKeepers_46 : decode cX0_findKeepers 46 = .ok (.return_, 1) := by decide +kernel
theorem dX0_firstWithCellsOf_0 : decode cX0_firstWithCellsOf 0 = .ok (.iconst 1, 1) := by decide +kernel
theorem dX0_firstWithCellsOf_1 : decode cX0_firstWithCellsOf 1 = .ok (.istore_n 2, 1) := by decide +kernel
theorem dX0_firstWithCellsOf_2 : decode cX0_firstWithCellsOf 2 = .ok (.iload_n 2, 1) := by decide +kernel
theorem dX0_firstWithCellsOf_3 : decode cX0_firstWithCellsOf 3 = .ok (.iload_n 1, 1) := by decide +kernel
theorem dX0_firstWithCellsOf_4 : decode cX0_firstWithCellsOf 4 = .ok (.if_icmp .ge 29, 3) := by decide +kernel
theorem dX0_firstWithCellsOf_7 : decode cX0_firstWithCellsOf 7 = .ok (.aload_n 0, 1) := by decide +kernel
theorem dX0_firstWithCellsOf_8 : decode cX0_firstWithCellsOf 8 = .ok (.getfield 27, 3) := by decide +kernel
theorem dX0_firstWithCellsOf_11 : decode cX0_firstWithCellsOf 11 = .ok (.iload_n 2, 1) := by decide +kernel
theorem dX0_firstWithCellsOf_12 : decode cX0_firstWithCellsOf 12 = .ok (.iaload, 1) := by decide +kernel
theorem dX0_firstWithCellsOf_13 : decode cX0_firstWithCellsOf 13 = .ok (.ifCond .le 14, 3) := by decide +kernel
theorem dX0_firstWithCellsOf_16 : decode cX0_firstWithCellsOf 16 = .ok (.aload_n 0, 1) := by decide +kernel
theorem dX0_firstWithCellsOf_17 : decode cX0_firstWithCellsOf 17 = .ok (.iload_n 2, 1) := by decide +kernel
theorem dX0_firstWithCellsOf_18 : decode cX0_firstWithCellsOf 18 = .ok (.iload_n 1, 1) := by decide +kernel
theorem dX0_firstWithCellsOf_19 : decode cX0_firstWithCellsOf 19 = .ok (.invokevirtual 83, 3) := by decide +kernel
theorem dX0_firstWithCellsOf_22 : decode cX0_firstWithCellsOf 22 = .ok (.ifCond .eq 5, 3) := by decide +kernel
theorem dX0_firstWithCellsOf_25 : decode cX0_firstWithCellsOf 25 = .ok (.iload_n 2, 1) := by decide +kernel
theorem dX0_firstWithCellsOf_26 : decode cX0_firstWithCellsOf 26 = .ok (.ireturn, 1) := by decide +kernel
theorem dX0_firstWithCellsOf_27 : decode cX0_firstWithCellsOf 27 = .ok (.iinc 2 1, 3) := by decide +kernel
theorem dX0_firstWithCellsOf_30 : decode cX0_firstWithCellsOf 30 = .ok (.goto (-28), 3) := by decide +kernel
theorem dX0_firstWithCellsOf_33 : decode cX0_firstWithCellsOf 33 = .ok (.iload_n 1, 1) := by decide +kernel
theorem dX0_firstWithCellsOf_34 : decode cX0_firstWithCellsOf 34 = .ok (.ireturn, 1) := by decide +kernel
theorem dX0_count_0 : decode cX0_count 0 = .ok (.iload_n 1, 1) := by decide +kernel
theorem dX0_count_1 : decode cX0_count 1 = .ok (.tableswitch 53 0 3 #[31, 36, 41, 46], 31) := by decide +kernel
theorem dX0_count_32 : decode cX0_count 32 = .ok (.aload_n 0, 1) := by decide +kernel
theorem dX0_count_33 : decode cX0_count 33 = .ok (.invokevirtual 104, 3) := by decide +kernel
theorem dX0_count_36 : decode cX0_count 36 = .ok (.ireturn, 1) := by decide +kernel
theorem dX0_count_37 : decode cX0_count 37 = .ok (.aload_n 0, 1) := by decide +kernel
theorem dX0_count_38 : decode cX0_count 38 = .ok (.invokevirtual 107, 3) := by decide +kernel
theorem dX0_count_41 : decode cX0_count 41 = .ok (.ireturn, 1) := by decide +kernel
theorem dX0_count_42 : decode cX0_count 42 = .ok (.aload_n 0, 1) := by decide +kernel
theorem dX0_count_43 : decode cX0_count 43 = .ok (.invokevirtual 110, 3) := by decide +kernel
theorem dX0_count_46 : decode cX0_count 46 = .ok (.ireturn, 1) := by decide +kernel
theorem dX0_count_47 : decode cX0_count 47 = .ok (.aload_n 0, 1) := by decide +kernel
theorem dX0_count_48 : decode cX0_count 48 = .ok (.bipush (-2), 2) := by decide +kernel
theorem dX0_count_50 : decode cX0_count 50 = .ok (.invokevirtual 95, 3) := by decide +kernel
theorem dX0_count_53 : decode cX0_count 53 = .ok (.ireturn, 1) := by decide +kernel
theorem dX0_count_54 : decode cX0_count 54 = .ok (.iconst (-1), 1) := by decide +kernel
theorem dX0_count_55 : decode cX0_count 55 = .ok (.ireturn, 1) := by decide +kernel
theorem dX0_rowsThere_0 : decode cX0_rowsThere 0 = .ok (.iconst 0, 1) := by decide +kernel
theorem dX0_rowsThere_1 : decode cX0_rowsThere 1 = .ok (.istore_n 1, 1) := by decide +kernel
theorem dX0_rowsThere_2 : decode cX0_rowsThere 2 = .ok (.iconst 0, 1) := by decide +kernel
theorem dX0_rowsThere_3 : decode cX0_rowsThere 3 = .ok (.istore_n 2, 1) := by decide +kernel
theorem dX0_rowsThere_4 : decode cX0_rowsThere 4 = .ok (.iload_n 2, 1) := by decide +kernel
theorem dX0_rowsThere_5 : decode cX0_rowsThere 5 = .ok (.bipush 40, 2) := by decide +kernel
theorem dX0_rowsThere_7 : decode cX0_rowsThere 7 = .ok (.if_icmp .ge 20, 3) := by decide +kernel
theorem dX0_rowsThere_10 : decode cX0_rowsThere 10 = .ok (.aload_n 0, 1) := by decide +kernel
theorem dX0_rowsThere_11 : decode cX0_rowsThere 11 = .ok (.iload_n 2, 1) := by decide +kernel
theorem dX0_rowsThere_12 : decode cX0_rowsThere 12 = .ok (.invokevirtual 113, 3) := by decide +kernel
theorem dX0_rowsThere_15 : decode cX0_rowsThere 15 = .ok (.ifCond .eq 6, 3) := by decide +kernel
theorem dX0_rowsThere_18 : decode cX0_rowsThere 18 = .ok (.iinc 1 1, 3) := by decide +kernel
theorem dX0_rowsThere_21 : decode cX0_rowsThere 21 = .ok (.iinc 2 1, 3) := by decide +kernel
theorem dX0_rowsThere_24 : decode cX0_rowsThere 24 = .ok (.goto (-20), 3) := by decide +kernel
theorem dX0_rowsThere_27 : decode cX0_rowsThere 27 = .ok (.iload_n 1, 1) := by decide +kernel
theorem dX0_rowsThere_28 : decode cX0_rowsThere 28 = .ok (.ireturn, 1) := by decide +kernel
theorem dX0_isRow_0 : decode cX0_isRow 0 = .ok (.iload_n 1, 1) := by decide +kernel
theorem dX0_isRow_1 : decode cX0_isRow 1 = .ok (.ifCond .lt 23, 3) := by decide +kernel
theorem dX0_isRow_4 : decode cX0_isRow 4 = .ok (.iload_n 1, 1) := by decide +kernel
theorem dX0_isRow_5 : decode cX0_isRow 5 = .ok (.bipush 40, 2) := by decide +kernel
theorem dX0_isRow_7 : decode cX0_isRow 7 = .ok (.if_icmp .ge 17, 3) := by decide +kernel
theorem dX0_isRow_10 : decode cX0_isRow 10 = .ok (.aload_n 0, 1) := by decide +kernel
theorem dX0_isRow_11 : decode cX0_isRow 11 = .ok (.getfield 9, 3) := by decide +kernel
theorem dX0_isRow_14 : decode cX0_isRow 14 = .ok (.iload_n 1, 1) := by decide +kernel
theorem dX0_isRow_15 : decode cX0_isRow 15 = .ok (.iaload, 1) := by decide +kernel
theorem dX0_isRow_16 : decode cX0_isRow 16 = .ok (.iconst (-1), 1) := by decide +kernel
theorem dX0_isRow_17 : decode cX0_isRow 17 = .ok (.if_icmp .eq 7, 3) := by decide +kernel
theorem dX0_isRow_20 : decode cX0_isRow 20 = .ok (.iconst 1, 1) := by decide +kernel
theorem dX0_isRow_21 : decode cX0_isRow 21 = .ok (.goto 4, 3) := by decide +kernel
theorem dX0_isRow_24 : decode cX0_isRow 24 = .ok (.iconst 0, 1) := by decide +kernel
theorem dX0_isRow_25 : decode cX0_isRow 25 = .ok (.ireturn, 1) := by decide +kernel
theorem dX0_pagesThere_0 : decode cX0_pagesThere 0 = .ok (.iconst 0, 1) := by decide +kernel
theorem dX0_pagesThere_1 : decode cX0_pagesThere 1 = .ok (.istore_n 1, 1) := by decide +kernel
theorem dX0_pagesThere_2 : decode cX0_pagesThere 2 = .ok (.iconst 0, 1) := by decide +kernel
theorem dX0_pagesThere_3 : decode cX0_pagesThere 3 = .ok (.istore_n 2, 1) := by decide +kernel
theorem dX0_pagesThere_4 : decode cX0_pagesThere 4 = .ok (.iload_n 2, 1) := by decide +kernel
theorem dX0_pagesThere_5 : decode cX0_pagesThere 5 = .ok (.bipush 40, 2) := by decide +kernel
theorem dX0_pagesThere_7 : decode cX0_pagesThere 7 = .ok (.if_icmp .ge 26, 3) := by decide +kernel
theorem dX0_pagesThere_10 : decode cX0_pagesThere 10 = .ok (.aload_n 0, 1) := by decide +kernel
theorem dX0_pagesThere_11 : decode cX0_pagesThere 11 = .ok (.iload_n 2, 1) := by decide +kernel
theorem dX0_pagesThere_12 : decode cX0_pagesThere 12 = .ok (.invokevirtual 113, 3) := by decide +kernel
theorem dX0_pagesThere_15 : decode cX0_pagesThere 15 = .ok (.ifCond .eq 12, 3) := by decide +kernel
theorem dX0_pagesThere_18 : decode cX0_pagesThere 18 = .ok (.iload_n 1, 1) := by decide +kernel
theorem dX0_pagesThere_19 : decode cX0_pagesThere 19 = .ok (.aload_n 0, 1) := by decide +kernel
theorem dX0_pagesThere_20 : decode cX0_pagesThere 20 = .ok (.getfield 9, 3) := by decide +kernel
theorem dX0_pagesThere_23 : decode cX0_pagesThere 23 = .ok (.iload_n 2, 1) := by decide +kernel
theorem dX0_pagesThere_24 : decode cX0_pagesThere 24 = .ok (.iaload, 1) := by decide +kernel
theorem dX0_pagesThere_25 : decode cX0_pagesThere 25 = .ok (.iadd, 1) := by decide +kernel
theorem dX0_pagesThere_26 : decode cX0_pagesThere 26 = .ok (.istore_n 1, 1) := by decide +kernel
theorem dX0_pagesThere_27 : decode cX0_pagesThere 27 = .ok (.iinc 2 1, 3) := by decide +kernel
theorem dX0_pagesThere_30 : decode cX0_pagesThere 30 = .ok (.goto (-26), 3) := by decide +kernel
theorem dX0_pagesThere_33 : decode cX0_pagesThere 33 = .ok (.iload_n 1, 1) := by decide +kernel
theorem dX0_pagesThere_34 : decode cX0_pagesThere 34 = .ok (.ireturn, 1) := by decide +kernel
theorem dX0_framesThere_0 : decode cX0_framesThere 0 = .ok (.iconst 0, 1) := by decide +kernel
theorem dX0_framesThere_1 : decode cX0_framesThere 1 = .ok (.istore_n 1, 1) := by decide +kernel
theorem dX0_framesThere_2 : decode cX0_framesThere 2 = .ok (.iconst 1, 1) := by decide +kernel
theorem dX0_framesThere_3 : decode cX0_framesThere 3 = .ok (.istore_n 2, 1) := by decide +kernel
theorem dX0_framesThere_4 : decode cX0_framesThere 4 = .ok (.iload_n 2, 1) := by decide +kernel
theorem dX0_framesThere_5 : decode cX0_framesThere 5 = .ok (.sipush 200, 3) := by decide +kernel
theorem dX0_framesThere_8 : decode cX0_framesThere 8 = .ok (.if_icmp .gt 21, 3) := by decide +kernel
theorem dX0_framesThere_11 : decode cX0_framesThere 11 = .ok (.aload_n 0, 1) := by decide +kernel
theorem dX0_framesThere_12 : decode cX0_framesThere 12 = .ok (.getfield 27, 3) := by decide +kernel
theorem dX0_framesThere_15 : decode cX0_framesThere 15 = .ok (.iload_n 2, 1) := by decide +kernel
theorem dX0_framesThere_16 : decode cX0_framesThere 16 = .ok (.iaload, 1) := by decide +kernel
theorem dX0_framesThere_17 : decode cX0_framesThere 17 = .ok (.ifCond .le 6, 3) := by decide +kernel
theorem dX0_framesThere_20 : decode cX0_framesThere 20 = .ok (.iinc 1 1, 3) := by decide +kernel
theorem dX0_framesThere_23 : decode cX0_framesThere 23 = .ok (.iinc 2 1, 3) := by decide +kernel
theorem dX0_framesThere_26 : decode cX0_framesThere 26 = .ok (.goto (-22), 3) := by decide +kernel
theorem dX0_framesThere_29 : decode cX0_framesThere 29 = .ok (.iload_n 1, 1) := by decide +kernel
theorem dX0_framesThere_30 : decode cX0_framesThere 30 = .ok (.ireturn, 1) := by decide +kernel
theorem dX0_framesOwnedBy_0 : decode cX0_framesOwnedBy 0 = .ok (.aload_n 0, 1) := by decide +kernel
theorem dX0_framesOwnedBy_1 : decode cX0_framesOwnedBy 1 = .ok (.invokevirtual 141, 3) := by decide +kernel
theorem dX0_framesOwnedBy_4 : decode cX0_framesOwnedBy 4 = .ok (.iconst 0, 1) := by decide +kernel
theorem dX0_framesOwnedBy_5 : decode cX0_framesOwnedBy 5 = .ok (.istore_n 2, 1) := by decide +kernel
theorem dX0_framesOwnedBy_6 : decode cX0_framesOwnedBy 6 = .ok (.iconst 1, 1) := by decide +kernel
theorem dX0_framesOwnedBy_7 : decode cX0_framesOwnedBy 7 = .ok (.istore_n 3, 1) := by decide +kernel
theorem dX0_framesOwnedBy_8 : decode cX0_framesOwnedBy 8 = .ok (.iload_n 3, 1) := by decide +kernel
theorem dX0_framesOwnedBy_9 : decode cX0_framesOwnedBy 9 = .ok (.sipush 200, 3) := by decide +kernel
theorem dX0_framesOwnedBy_12 : decode cX0_framesOwnedBy 12 = .ok (.if_icmp .gt 22, 3) := by decide +kernel
theorem dX0_framesOwnedBy_15 : decode cX0_framesOwnedBy 15 = .ok (.aload_n 0, 1) := by decide +kernel
theorem dX0_framesOwnedBy_16 : decode cX0_framesOwnedBy 16 = .ok (.getfield 33, 3) := by decide +kernel
theorem dX0_framesOwnedBy_19 : decode cX0_framesOwnedBy 19 = .ok (.iload_n 3, 1) := by decide +kernel
theorem dX0_framesOwnedBy_20 : decode cX0_framesOwnedBy 20 = .ok (.iaload, 1) := by decide +kernel
theorem dX0_framesOwnedBy_21 : decode cX0_framesOwnedBy 21 = .ok (.iload_n 1, 1) := by decide +kernel
theorem dX0_framesOwnedBy_22 : decode cX0_framesOwnedBy 22 = .ok (.if_icmp .ne 6, 3) := by decide +kernel
theorem dX0_framesOwnedBy_25 : decode cX0_framesOwnedBy 25 = .ok (.iinc 2 1, 3) := by decide +kernel
theorem dX0_framesOwnedBy_28 : decode cX0_framesOwnedBy 28 = .ok (.iinc 3 1, 3) := by decide +kernel
theorem dX0_framesOwnedBy_31 : decode cX0_framesOwnedBy 31 = .ok (.goto (-23), 3) := by decide +kernel
theorem dX0_framesOwnedBy_34 : decode cX0_framesOwnedBy 34 = .ok (.iload_n 2, 1) := by decide +kernel
theorem dX0_framesOwnedBy_35 : decode cX0_framesOwnedBy 35 = .ok (.ireturn, 1) := by decide +kernel
theorem dX0_findOwners_0 : decode cX0_findOwners 0 = .ok (.aload_n 0, 1) := by decide +kernel
theorem dX0_findOwners_1 : decode cX0_findOwners 1 = .ok (.getfield 33, 3) := by decide +kernel
theorem dX0_findOwners_4 : decode cX0_findOwners 4 = .ok (.iconst (-1), 1) := by decide +kernel
theorem dX0_findOwners_5 : decode cX0_findOwners 5 = .ok (.invokestatic 13, 3) := by decide +kernel
theorem dX0_findOwners_8 : decode cX0_findOwners 8 = .ok (.iconst 0, 1) := by decide +kernel
theorem dX0_findOwners_9 : decode cX0_findOwners 9 = .ok (.istore_n 1, 1) := by decide +kernel
theorem dX0_findOwners_10 : decode cX0_findOwners 10 = .ok (.iload_n 1, 1) := by decide +kernel
theorem dX0_findOwners_11 : decode cX0_findOwners 11 = .ok (.bipush 40, 2) := by decide +kernel
theorem dX0_findOwners_13 : decode cX0_findOwners 13 = .ok (.if_icmp .ge 80, 3) := by decide +kernel
theorem dX0_findOwners_16 : decode cX0_findOwners 16 = .ok (.iconst 0, 1) := by decide +kernel
theorem dX0_findOwners_17 : decode cX0_findOwners 17 = .ok (.istore_n 2, 1) := by decide +kernel
theorem dX0_findOwners_18 : decode cX0_findOwners 18 = .ok (.iload_n 2, 1) := by decide +kernel
theorem dX0_findOwners_19 : decode cX0_findOwners 19 = .ok (.aload_n 0, 1) := by decide +kernel
theorem dX0_findOwners_20 : decode cX0_findOwners 20 = .ok (.getfield 9, 3) := by decide +kernel
theorem dX0_findOwners_23 : decode cX0_findOwners 23 = .ok (.iload_n 1, 1) := by decide +kernel
theorem dX0_findOwners_24 : decode cX0_findOwners 24 = .ok (.iaload, 1) := by decide +kernel
theorem dX0_findOwners_25 : decode cX0_findOwners 25 = .ok (.if_icmp .ge 62, 3) := by decide +kernel
theorem dX0_findOwners_28 : decode cX0_findOwners 28 = .ok (.aload_n 0, 1) := by decide +kernel
theorem dX0_findOwners_29 : decode cX0_findOwners 29 = .ok (.getfield 21, 3) := by decide +kernel
theorem dX0_findOwners_32 : decode cX0_findOwners 32 = .ok (.iload_n 1, 1) := by decide +kernel
theorem dX0_findOwners_33 : decode cX0_findOwners 33 = .ok (.aaload, 1) := by decide +kernel
theorem dX0_findOwners_34 : decode cX0_findOwners 34 = .ok (.iload_n 2, 1) := by decide +kernel
theorem dX0_findOwners_35 : decode cX0_findOwners 35 = .ok (.iaload, 1) := by decide +kernel
theorem dX0_findOwners_36 : decode cX0_findOwners 36 = .ok (.istore_n 3, 1) := by decide +kernel
theorem dX0_findOwners_37 : decode cX0_findOwners 37 = .ok (.aload_n 0, 1) := by decide +kernel
theorem dX0_findOwners_38 : decode cX0_findOwners 38 = .ok (.getfield 33, 3) := by decide +kernel
theorem dX0_findOwners_41 : decode cX0_findOwners 41 = .ok (.iload_n 3, 1) := by decide +kernel
theorem dX0_findOwners_42 : decode cX0_findOwners 42 = .ok (.iaload, 1) := by decide +kernel
theorem dX0_findOwners_43 : decode cX0_findOwners 43 = .ok (.iconst (-1), 1) := by decide +kernel
theorem dX0_findOwners_44 : decode cX0_findOwners 44 = .ok (.if_icmp .eq 13, 3) := by decide +kernel
theorem dX0_findOwners_47 : decode cX0_findOwners 47 = .ok (.aload_n 0, 1) := by decide +kernel
theorem dX0_findOwners_48 : decode cX0_findOwners 48 = .ok (.getfield 33, 3) := by decide +kernel
theorem dX0_findOwners_51 : decode cX0_findOwners 51 = .ok (.iload_n 3, 1) := by decide +kernel
theorem dX0_findOwners_52 : decode cX0_findOwners 52 = .ok (.iaload, 1) := by decide +kernel
theorem dX0_findOwners_53 : decode cX0_findOwners 53 = .ok (.iload_n 1, 1) := by decide +kernel
theorem dX0_findOwners_54 : decode cX0_findOwners 54 = .ok (.if_icmp .ne 7, 3) := by decide +kernel
theorem dX0_findOwners_57 : decode cX0_findOwners 57 = .ok (.iconst 1, 1) := by decide +kernel
theorem dX0_findOwners_58 : decode cX0_findOwners 58 = .ok (.goto 4, 3) := by decide +kernel
theorem dX0_findOwners_61 : decode cX0_findOwners 61 = .ok (.iconst 0, 1) := by decide +kernel
theorem dX0_findOwners_62 : decode cX0_findOwners 62 = .ok (.istore 4, 2) := by decide +kernel
theorem dX0_findOwners_64 : decode cX0_findOwners 64 = .ok (.aload_n 0, 1) := by decide +kernel
theorem dX0_findOwners_65 : decode cX0_findOwners 65 = .ok (.getfield 33, 3) := by decide +kernel
theorem dX0_findOwners_68 : decode cX0_findOwners 68 = .ok (.iload_n 3, 1) := by decide +kernel
theorem dX0_findOwners_69 : decode cX0_findOwners 69 = .ok (.iload 4, 2) := by decide +kernel
theorem dX0_findOwners_71 : decode cX0_findOwners 71 = .ok (.ifCond .eq 7, 3) := by decide +kernel
theorem dX0_findOwners_74 : decode cX0_findOwners 74 = .ok (.iload_n 1, 1) := by decide +kernel
theorem dX0_findOwners_75 : decode cX0_findOwners 75 = .ok (.goto 5, 3) := by decide +kernel
theorem dX0_findOwners_78 : decode cX0_findOwners 78 = .ok (.bipush (-2), 2) := by decide +kernel
theorem dX0_findOwners_80 : decode cX0_findOwners 80 = .ok (.iastore, 1) := by decide +kernel
theorem dX0_findOwners_81 : decode cX0_findOwners 81 = .ok (.iinc 2 1, 3) := by decide +kernel
theorem dX0_findOwners_84 : decode cX0_findOwners 84 = .ok (.goto (-66), 3) := by decide +kernel
theorem dX0_findOwners_87 : decode cX0_findOwners 87 = .ok (.iinc 1 1, 3) := by decide +kernel
theorem dX0_findOwners_90 : decode cX0_findOwners 90 = .ok (.goto (-80), 3) := by decide +kernel
theorem dX0_findOwners_93 : decode cX0_findOwners 93 = .ok (.return_, 1) := by decide +kernel
theorem dX0_make_0 : decode cX0_make 0 = .ok (.aload_n 0, 1) := by decide +kernel
theorem dX0_make_1 : decode cX0_make 1 = .ok (.iload_n 1, 1) := by decide +kernel
theorem dX0_make_2 : decode cX0_make 2 = .ok (.invokevirtual 39, 3) := by decide +kernel
theorem dX0_make_5 : decode cX0_make 5 = .ok (.aload_n 0, 1) := by decide +kernel
theorem dX0_make_6 : decode cX0_make 6 = .ok (.invokevirtual 43, 3) := by decide +kernel
theorem dX0_make_9 : decode cX0_make 9 = .ok (.istore_n 2, 1) := by decide +kernel
theorem dX0_make_10 : decode cX0_make 10 = .ok (.aload_n 0, 1) := by decide +kernel
theorem dX0_make_11 : decode cX0_make 11 = .ok (.getfield 9, 3) := by decide +kernel
theorem dX0_make_14 : decode cX0_make 14 = .ok (.iload_n 2, 1) := by decide +kernel
theorem dX0_make_15 : decode cX0_make 15 = .ok (.iload_n 1, 1) := by decide +kernel
theorem dX0_make_16 : decode cX0_make 16 = .ok (.iastore, 1) := by decide +kernel
theorem dX0_make_17 : decode cX0_make 17 = .ok (.iload_n 2, 1) := by decide +kernel
theorem dX0_make_18 : decode cX0_make 18 = .ok (.ireturn, 1) := by decide +kernel
theorem dX0_requirePageCount_0 : decode cX0_requirePageCount 0 = .ok (.iload_n 1, 1) := by decide +kernel
theorem dX0_requirePageCount_1 : decode cX0_requirePageCount 1 = .ok (.ifCond .lt 9, 3) := by decide +kernel
theorem dX0_requirePageCount_4 : decode cX0_requirePageCount 4 = .ok (.iload_n 1, 1) := by decide +kernel
theorem dX0_requirePageCount_5 : decode cX0_requirePageCount 5 = .ok (.bipush 32, 2) := by decide +kernel
theorem dX0_requirePageCount_7 : decode cX0_requirePageCount 7 = .ok (.if_icmp .le 11, 3) := by decide +kernel
theorem dX0_requirePageCount_10 : decode cX0_requirePageCount 10 = .ok (.new 101, 3) := by decide +kernel
theorem dX0_requirePageCount_13 : decode cX0_requirePageCount 13 = .ok (.dup, 1) := by decide +kernel
theorem dX0_requirePageCount_14 : decode cX0_requirePageCount 14 = .ok (.invokespecial 103, 3) := by decide +kernel
theorem dX0_requirePageCount_17 : decode cX0_requirePageCount 17 = .ok (.athrow, 1) := by decide +kernel
theorem dX0_requirePageCount_18 : decode cX0_requirePageCount 18 = .ok (.return_, 1) := by decide +kernel
theorem dX0_requireFreeRow_0 : decode cX0_requireFreeRow 0 = .ok (.iconst 0, 1) := by decide +kernel
theorem dX0_requireFreeRow_1 : decode cX0_requireFreeRow 1 = .ok (.istore_n 1, 1) := by decide +kernel
theorem dX0_requireFreeRow_2 : decode cX0_requireFreeRow 2 = .ok (.iload_n 1, 1) := by decide +kernel
theorem dX0_requireFreeRow_3 : decode cX0_requireFreeRow 3 = .ok (.bipush 40, 2) := by decide +kernel
theorem dX0_requireFreeRow_5 : decode cX0_requireFreeRow 5 = .ok (.if_icmp .ge 21, 3) := by decide +kernel
theorem dX0_requireFreeRow_8 : decode cX0_requireFreeRow 8 = .ok (.aload_n 0, 1) := by decide +kernel
theorem dX0_requireFreeRow_9 : decode cX0_requireFreeRow 9 = .ok (.getfield 9, 3) := by decide +kernel
theorem dX0_requireFreeRow_12 : decode cX0_requireFreeRow 12 = .ok (.iload_n 1, 1) := by decide +kernel
theorem dX0_requireFreeRow_13 : decode cX0_requireFreeRow 13 = .ok (.iaload, 1) := by decide +kernel
theorem dX0_requireFreeRow_14 : decode cX0_requireFreeRow 14 = .ok (.iconst (-1), 1) := by decide +kernel
theorem dX0_requireFreeRow_15 : decode cX0_requireFreeRow 15 = .ok (.if_icmp .ne 5, 3) := by decide +kernel
theorem dX0_requireFreeRow_18 : decode cX0_requireFreeRow 18 = .ok (.iload_n 1, 1) := by decide +kernel
theorem dX0_requireFreeRow_19 : decode cX0_requireFreeRow 19 = .ok (.ireturn, 1) := by decide +kernel
theorem dX0_requireFreeRow_20 : decode cX0_requireFreeRow 20 = .ok (.iinc 1 1, 3) := by decide +kernel
theorem dX0_requireFreeRow_23 : decode cX0_requireFreeRow 23 = .ok (.goto (-21), 3) := by decide +kernel
theorem dX0_requireFreeRow_26 : decode cX0_requireFreeRow 26 = .ok (.new 120, 3) := by decide +kernel
theorem dX0_requireFreeRow_29 : decode cX0_requireFreeRow 29 = .ok (.dup, 1) := by decide +kernel
theorem dX0_requireFreeRow_30 : decode cX0_requireFreeRow 30 = .ok (.invokespecial 122, 3) := by decide +kernel
theorem dX0_requireFreeRow_33 : decode cX0_requireFreeRow 33 = .ok (.athrow, 1) := by decide +kernel
theorem dX0_share_0 : decode cX0_share 0 = .ok (.aload_n 0, 1) := by decide +kernel
theorem dX0_share_1 : decode cX0_share 1 = .ok (.iload_n 1, 1) := by decide +kernel
theorem dX0_share_2 : decode cX0_share 2 = .ok (.iload_n 2, 1) := by decide +kernel
theorem dX0_share_3 : decode cX0_share 3 = .ok (.iload_n 3, 1) := by decide +kernel
theorem dX0_share_4 : decode cX0_share 4 = .ok (.invokevirtual 47, 3) := by decide +kernel
theorem dX0_share_7 : decode cX0_share 7 = .ok (.aload_n 0, 1) := by decide +kernel
theorem dX0_share_8 : decode cX0_share 8 = .ok (.invokevirtual 43, 3) := by decide +kernel
theorem dX0_share_11 : decode cX0_share 11 = .ok (.istore 4, 2) := by decide +kernel
theorem dX0_share_13 : decode cX0_share 13 = .ok (.aload_n 0, 1) := by decide +kernel
theorem dX0_share_14 : decode cX0_share 14 = .ok (.getfield 9, 3) := by decide +kernel
theorem dX0_share_17 : decode cX0_share 17 = .ok (.iload 4, 2) := by decide +kernel
theorem dX0_share_19 : decode cX0_share 19 = .ok (.iload_n 3, 1) := by decide +kernel
theorem dX0_share_20 : decode cX0_share 20 = .ok (.iastore, 1) := by decide +kernel
theorem dX0_share_21 : decode cX0_share 21 = .ok (.iconst 0, 1) := by decide +kernel
theorem dX0_share_22 : decode cX0_share 22 = .ok (.istore 5, 2) := by decide +kernel
theorem dX0_share_24 : decode cX0_share 24 = .ok (.iload 5, 2) := by decide +kernel
theorem dX0_share_26 : decode cX0_share 26 = .ok (.iload_n 3, 1) := by decide +kernel
theorem dX0_share_27 : decode cX0_share 27 = .ok (.if_icmp .ge 29, 3) := by decide +kernel
theorem dX0_share_30 : decode cX0_share 30 = .ok (.aload_n 0, 1) := by decide +kernel
theorem dX0_share_31 : decode cX0_share 31 = .ok (.iload 4, 2) := by decide +kernel
theorem dX0_share_33 : decode cX0_share 33 = .ok (.iload 5, 2) := by decide +kernel
theorem dX0_share_35 : decode cX0_share 35 = .ok (.aload_n 0, 1) := by decide +kernel
theorem dX0_share_36 : decode cX0_share 36 = .ok (.getfield 21, 3) := by decide +kernel
theorem dX0_share_39 : decode cX0_share 39 = .ok (.iload_n 1, 1) := by decide +kernel
theorem dX0_share_40 : decode cX0_share 40 = .ok (.aaload, 1) := by decide +kernel
theorem dX0_share_41 : decode cX0_share 41 = .ok (.iload_n 2, 1) := by decide +kernel
theorem dX0_share_42 : decode cX0_share 42 = .ok (.iload 5, 2) := by decide +kernel
theorem dX0_share_44 : decode cX0_share 44 = .ok (.iadd, 1) := by decide +kernel
theorem dX0_share_45 : decode cX0_share 45 = .ok (.iaload, 1) := by decide +kernel
theorem dX0_share_46 : decode cX0_share 46 = .ok (.invokevirtual 51, 3) := by decide +kernel
theorem dX0_share_49 : decode cX0_share 49 = .ok (.pop, 1) := by decide +kernel
theorem dX0_share_50 : decode cX0_share 50 = .ok (.iinc 5 1, 3) := by decide +kernel
theorem dX0_share_53 : decode cX0_share 53 = .ok (.goto (-29), 3) := by decide +kernel
theorem dX0_share_56 : decode cX0_share 56 = .ok (.iload 4, 2) := by decide +kernel
theorem dX0_share_58 : decode cX0_share 58 = .ok (.ireturn, 1) := by decide +kernel
theorem dX0_requirePages_0 : decode cX0_requirePages 0 = .ok (.aload_n 0, 1) := by decide +kernel
theorem dX0_requirePages_1 : decode cX0_requirePages 1 = .ok (.iload_n 1, 1) := by decide +kernel
theorem dX0_requirePages_2 : decode cX0_requirePages 2 = .ok (.invokevirtual 113, 3) := by decide +kernel
theorem dX0_requirePages_5 : decode cX0_requirePages 5 = .ok (.ifCond .eq 23, 3) := by decide +kernel
theorem dX0_requirePages_8 : decode cX0_requirePages 8 = .ok (.iload_n 2, 1) := by decide +kernel
theorem dX0_requirePages_9 : decode cX0_requirePages 9 = .ok (.ifCond .lt 19, 3) := by decide +kernel
theorem dX0_requirePages_12 : decode cX0_requirePages 12 = .ok (.iload_n 3, 1) := by decide +kernel
theorem dX0_requirePages_13 : decode cX0_requirePages 13 = .ok (.ifCond .lt 15, 3) := by decide +kernel
theorem dX0_requirePages_16 : decode cX0_requirePages 16 = .ok (.iload_n 2, 1) := by decide +kernel
theorem dX0_requirePages_17 : decode cX0_requirePages 17 = .ok (.aload_n 0, 1) := by decide +kernel
theorem dX0_requirePages_18 : decode cX0_requirePages 18 = .ok (.getfield 9, 3) := by decide +kernel
theorem dX0_requirePages_21 : decode cX0_requirePages 21 = .ok (.iload_n 1, 1) := by decide +kernel
theorem dX0_requirePages_22 : decode cX0_requirePages 22 = .ok (.iaload, 1) := by decide +kernel
theorem dX0_requirePages_23 : decode cX0_requirePages 23 = .ok (.iload_n 3, 1) := by decide +kernel
theorem dX0_requirePages_24 : decode cX0_requirePages 24 = .ok (.isub, 1) := by decide +kernel
theorem dX0_requirePages_25 : decode cX0_requirePages 25 = .ok (.if_icmp .le 11, 3) := by decide +kernel
theorem dX0_requirePages_28 : decode cX0_requirePages 28 = .ok (.new 117, 3) := by decide +kernel
theorem dX0_requirePages_31 : decode cX0_requirePages 31 = .ok (.dup, 1) := by decide +kernel
theorem dX0_requirePages_32 : decode cX0_requirePages 32 = .ok (.invokespecial 119, 3) := by decide +kernel
theorem dX0_requirePages_35 : decode cX0_requirePages 35 = .ok (.athrow, 1) := by decide +kernel
theorem dX0_requirePages_36 : decode cX0_requirePages 36 = .ok (.return_, 1) := by decide +kernel
theorem dX0_drop_0 : decode cX0_drop 0 = .ok (.aload_n 0, 1) := by decide +kernel
theorem dX0_drop_1 : decode cX0_drop 1 = .ok (.iload_n 1, 1) := by decide +kernel
theorem dX0_drop_2 : decode cX0_drop 2 = .ok (.invokevirtual 55, 3) := by decide +kernel
theorem dX0_drop_5 : decode cX0_drop 5 = .ok (.aload_n 0, 1) := by decide +kernel
theorem dX0_drop_6 : decode cX0_drop 6 = .ok (.iload_n 1, 1) := by decide +kernel
theorem dX0_drop_7 : decode cX0_drop 7 = .ok (.iconst 0, 1) := by decide +kernel
theorem dX0_drop_8 : decode cX0_drop 8 = .ok (.invokevirtual 58, 3) := by decide +kernel
theorem dX0_drop_11 : decode cX0_drop 11 = .ok (.istore_n 2, 1) := by decide +kernel
theorem dX0_drop_12 : decode cX0_drop 12 = .ok (.aload_n 0, 1) := by decide +kernel
theorem dX0_drop_13 : decode cX0_drop 13 = .ok (.getfield 9, 3) := by decide +kernel
theorem dX0_drop_16 : decode cX0_drop 16 = .ok (.iload_n 1, 1) := by decide +kernel
theorem dX0_drop_17 : decode cX0_drop 17 = .ok (.iconst (-1), 1) := by decide +kernel
theorem dX0_drop_18 : decode cX0_drop 18 = .ok (.iastore, 1) := by decide +kernel
theorem dX0_drop_19 : decode cX0_drop 19 = .ok (.iload_n 2, 1) := by decide +kernel
theorem dX0_drop_20 : decode cX0_drop 20 = .ok (.ireturn, 1) := by decide +kernel
theorem dX0_requireRow_0 : decode cX0_requireRow 0 = .ok (.aload_n 0, 1) := by decide +kernel
theorem dX0_requireRow_1 : decode cX0_requireRow 1 = .ok (.iload_n 1, 1) := by decide +kernel
theorem dX0_requireRow_2 : decode cX0_requireRow 2 = .ok (.invokevirtual 113, 3) := by decide +kernel
theorem dX0_requireRow_5 : decode cX0_requireRow 5 = .ok (.ifCond .ne 11, 3) := by decide +kernel
theorem dX0_requireRow_8 : decode cX0_requireRow 8 = .ok (.new 117, 3) := by decide +kernel
theorem dX0_requireRow_11 : decode cX0_requireRow 11 = .ok (.dup, 1) := by decide +kernel
theorem dX0_requireRow_12 : decode cX0_requireRow 12 = .ok (.invokespecial 119, 3) := by decide +kernel
theorem dX0_requireRow_15 : decode cX0_requireRow 15 = .ok (.athrow, 1) := by decide +kernel
theorem dX0_requireRow_16 : decode cX0_requireRow 16 = .ok (.return_, 1) := by decide +kernel
theorem dX0_blankFrom_0 : decode cX0_blankFrom 0 = .ok (.iconst 0, 1) := by decide +kernel
theorem dX0_blankFrom_1 : decode cX0_blankFrom 1 = .ok (.istore_n 3, 1) := by decide +kernel
theorem dX0_blankFrom_2 : decode cX0_blankFrom 2 = .ok (.iload_n 2, 1) := by decide +kernel
theorem dX0_blankFrom_3 : decode cX0_blankFrom 3 = .ok (.istore 4, 2) := by decide +kernel
theorem dX0_blankFrom_5 : decode cX0_blankFrom 5 = .ok (.iload 4, 2) := by decide +kernel
theorem dX0_blankFrom_7 : decode cX0_blankFrom 7 = .ok (.aload_n 0, 1) := by decide +kernel
theorem dX0_blankFrom_8 : decode cX0_blankFrom 8 = .ok (.getfield 9, 3) := by decide +kernel
theorem dX0_blankFrom_11 : decode cX0_blankFrom 11 = .ok (.iload_n 1, 1) := by decide +kernel
theorem dX0_blankFrom_12 : decode cX0_blankFrom 12 = .ok (.iaload, 1) := by decide +kernel
theorem dX0_blankFrom_13 : decode cX0_blankFrom 13 = .ok (.if_icmp .ge 20, 3) := by decide +kernel
theorem dX0_blankFrom_16 : decode cX0_blankFrom 16 = .ok (.iload_n 3, 1) := by decide +kernel
theorem dX0_blankFrom_17 : decode cX0_blankFrom 17 = .ok (.aload_n 0, 1) := by decide +kernel
theorem dX0_blankFrom_18 : decode cX0_blankFrom 18 = .ok (.iload_n 1, 1) := by decide +kernel
theorem dX0_blankFrom_19 : decode cX0_blankFrom 19 = .ok (.iload 4, 2) := by decide +kernel
theorem dX0_blankFrom_21 : decode cX0_blankFrom 21 = .ok (.iconst 0, 1) := by decide +kernel
theorem dX0_blankFrom_22 : decode cX0_blankFrom 22 = .ok (.invokevirtual 51, 3) := by decide +kernel
theorem dX0_blankFrom_25 : decode cX0_blankFrom 25 = .ok (.iadd, 1) := by decide +kernel
theorem dX0_blankFrom_26 : decode cX0_blankFrom 26 = .ok (.istore_n 3, 1) := by decide +kernel
theorem dX0_blankFrom_27 : decode cX0_blankFrom 27 = .ok (.iinc 4 1, 3) := by decide +kernel
theorem dX0_blankFrom_30 : decode cX0_blankFrom 30 = .ok (.goto (-25), 3) := by decide +kernel
theorem dX0_blankFrom_33 : decode cX0_blankFrom 33 = .ok (.iload_n 3, 1) := by decide +kernel
theorem dX0_blankFrom_34 : decode cX0_blankFrom 34 = .ok (.ireturn, 1) := by decide +kernel
theorem dX0_write_0 : decode cX0_write 0 = .ok (.aload_n 0, 1) := by decide +kernel
theorem dX0_write_1 : decode cX0_write 1 = .ok (.iload_n 1, 1) := by decide +kernel
theorem dX0_write_2 : decode cX0_write 2 = .ok (.iload_n 2, 1) := by decide +kernel
theorem dX0_write_3 : decode cX0_write 3 = .ok (.invokevirtual 62, 3) := by decide +kernel
theorem dX0_write_6 : decode cX0_write 6 = .ok (.aload_n 0, 1) := by decide +kernel
theorem dX0_write_7 : decode cX0_write 7 = .ok (.iload_n 3, 1) := by decide +kernel
theorem dX0_write_8 : decode cX0_write 8 = .ok (.invokevirtual 66, 3) := by decide +kernel
theorem dX0_write_11 : decode cX0_write 11 = .ok (.aload_n 0, 1) := by decide +kernel
theorem dX0_write_12 : decode cX0_write 12 = .ok (.getfield 24, 3) := by decide +kernel
theorem dX0_write_15 : decode cX0_write 15 = .ok (.aload_n 0, 1) := by decide +kernel
theorem dX0_write_16 : decode cX0_write 16 = .ok (.getfield 21, 3) := by decide +kernel
theorem dX0_write_19 : decode cX0_write 19 = .ok (.iload_n 1, 1) := by decide +kernel
theorem dX0_write_20 : decode cX0_write 20 = .ok (.aaload, 1) := by decide +kernel
theorem dX0_write_21 : decode cX0_write 21 = .ok (.iload_n 2, 1) := by decide +kernel
theorem dX0_write_22 : decode cX0_write 22 = .ok (.iaload, 1) := by decide +kernel
theorem dX0_write_23 : decode cX0_write 23 = .ok (.aaload, 1) := by decide +kernel
theorem dX0_write_24 : decode cX0_write 24 = .ok (.iload_n 3, 1) := by decide +kernel
theorem dX0_write_25 : decode cX0_write 25 = .ok (.iaload, 1) := by decide +kernel
theorem dX0_write_26 : decode cX0_write 26 = .ok (.istore 5, 2) := by decide +kernel
theorem dX0_write_28 : decode cX0_write 28 = .ok (.aload_n 0, 1) := by decide +kernel
theorem dX0_write_29 : decode cX0_write 29 = .ok (.getfield 21, 3) := by decide +kernel
theorem dX0_write_32 : decode cX0_write 32 = .ok (.iload_n 1, 1) := by decide +kernel
theorem dX0_write_33 : decode cX0_write 33 = .ok (.aaload, 1) := by decide +kernel
theorem dX0_write_34 : decode cX0_write 34 = .ok (.iload_n 2, 1) := by decide +kernel
theorem dX0_write_35 : decode cX0_write 35 = .ok (.iaload, 1) := by decide +kernel
theorem dX0_write_36 : decode cX0_write 36 = .ok (.ifCond .ne 11, 3) := by decide +kernel
theorem dX0_write_39 : decode cX0_write 39 = .ok (.iload 4, 2) := by decide +kernel
theorem dX0_write_41 : decode cX0_write 41 = .ok (.ifCond .ne 6, 3) := by decide +kernel
theorem dX0_write_44 : decode cX0_write 44 = .ok (.iload 5, 2) := by decide +kernel
theorem dX0_write_46 : decode cX0_write 46 = .ok (.ireturn, 1) := by decide +kernel
theorem dX0_write_47 : decode cX0_write 47 = .ok (.aload_n 0, 1) := by decide +kernel
theorem dX0_write_48 : decode cX0_write 48 = .ok (.iload_n 1, 1) := by decide +kernel
theorem dX0_write_49 : decode cX0_write 49 = .ok (.iload_n 2, 1) := by decide +kernel
theorem dX0_write_50 : decode cX0_write 50 = .ok (.invokevirtual 69, 3) := by decide +kernel
theorem dX0_write_53 : decode cX0_write 53 = .ok (.ifCond .ne 9, 3) := by decide +kernel
theorem dX0_write_56 : decode cX0_write 56 = .ok (.aload_n 0, 1) := by decide +kernel
theorem dX0_write_57 : decode cX0_write 57 = .ok (.iload_n 1, 1) := by decide +kernel
theorem dX0_write_58 : decode cX0_write 58 = .ok (.iload_n 2, 1) := by decide +kernel
theorem dX0_write_59 : decode cX0_write 59 = .ok (.invokevirtual 73, 3) := by decide +kernel
theorem dX0_write_62 : decode cX0_write 62 = .ok (.aload_n 0, 1) := by decide +kernel
theorem dX0_write_63 : decode cX0_write 63 = .ok (.getfield 24, 3) := by decide +kernel
theorem dX0_write_66 : decode cX0_write 66 = .ok (.aload_n 0, 1) := by decide +kernel
theorem dX0_write_67 : decode cX0_write 67 = .ok (.getfield 21, 3) := by decide +kernel
theorem dX0_write_70 : decode cX0_write 70 = .ok (.iload_n 1, 1) := by decide +kernel
theorem dX0_write_71 : decode cX0_write 71 = .ok (.aaload, 1) := by decide +kernel
theorem dX0_write_72 : decode cX0_write 72 = .ok (.iload_n 2, 1) := by decide +kernel
theorem dX0_write_73 : decode cX0_write 73 = .ok (.iaload, 1) := by decide +kernel
theorem dX0_write_74 : decode cX0_write 74 = .ok (.aaload, 1) := by decide +kernel
theorem dX0_write_75 : decode cX0_write 75 = .ok (.iload_n 3, 1) := by decide +kernel
theorem dX0_write_76 : decode cX0_write 76 = .ok (.iload 4, 2) := by decide +kernel
theorem dX0_write_78 : decode cX0_write 78 = .ok (.iastore, 1) := by decide +kernel
theorem dX0_write_79 : decode cX0_write 79 = .ok (.iload 5, 2) := by decide +kernel
theorem dX0_write_81 : decode cX0_write 81 = .ok (.ireturn, 1) := by decide +kernel
theorem dX0_requirePage_0 : decode cX0_requirePage 0 = .ok (.aload_n 0, 1) := by decide +kernel
theorem dX0_requirePage_1 : decode cX0_requirePage 1 = .ok (.iload_n 1, 1) := by decide +kernel
theorem dX0_requirePage_2 : decode cX0_requirePage 2 = .ok (.invokevirtual 113, 3) := by decide +kernel
theorem dX0_requirePage_5 : decode cX0_requirePage 5 = .ok (.ifCond .eq 17, 3) := by decide +kernel
theorem dX0_requirePage_8 : decode cX0_requirePage 8 = .ok (.iload_n 2, 1) := by decide +kernel
theorem dX0_requirePage_9 : decode cX0_requirePage 9 = .ok (.ifCond .lt 13, 3) := by decide +kernel
theorem dX0_requirePage_12 : decode cX0_requirePage 12 = .ok (.iload_n 2, 1) := by decide +kernel
theorem dX0_requirePage_13 : decode cX0_requirePage 13 = .ok (.aload_n 0, 1) := by decide +kernel
theorem dX0_requirePage_14 : decode cX0_requirePage 14 = .ok (.getfield 9, 3) := by decide +kernel
theorem dX0_requirePage_17 : decode cX0_requirePage 17 = .ok (.iload_n 1, 1) := by decide +kernel
theorem dX0_requirePage_18 : decode cX0_requirePage 18 = .ok (.iaload, 1) := by decide +kernel
theorem dX0_requirePage_19 : decode cX0_requirePage 19 = .ok (.if_icmp .lt 11, 3) := by decide +kernel
theorem dX0_requirePage_22 : decode cX0_requirePage 22 = .ok (.new 117, 3) := by decide +kernel
theorem dX0_requirePage_25 : decode cX0_requirePage 25 = .ok (.dup, 1) := by decide +kernel
theorem dX0_requirePage_26 : decode cX0_requirePage 26 = .ok (.invokespecial 119, 3) := by decide +kernel
theorem dX0_requirePage_29 : decode cX0_requirePage 29 = .ok (.athrow, 1) := by decide +kernel
theorem dX0_requirePage_30 : decode cX0_requirePage 30 = .ok (.return_, 1) := by decide +kernel
theorem dX0_requireCell_0 : decode cX0_requireCell 0 = .ok (.iload_n 1, 1) := by decide +kernel
theorem dX0_requireCell_1 : decode cX0_requireCell 1 = .ok (.ifCond .lt 9, 3) := by decide +kernel
theorem dX0_requireCell_4 : decode cX0_requireCell 4 = .ok (.iload_n 1, 1) := by decide +kernel
theorem dX0_requireCell_5 : decode cX0_requireCell 5 = .ok (.bipush 8, 2) := by decide +kernel
theorem dX0_requireCell_7 : decode cX0_requireCell 7 = .ok (.if_icmp .lt 11, 3) := by decide +kernel
theorem dX0_requireCell_10 : decode cX0_requireCell 10 = .ok (.new 117, 3) := by decide +kernel
theorem dX0_requireCell_13 : decode cX0_requireCell 13 = .ok (.dup, 1) := by decide +kernel
theorem dX0_requireCell_14 : decode cX0_requireCell 14 = .ok (.invokespecial 119, 3) := by decide +kernel
theorem dX0_requireCell_17 : decode cX0_requireCell 17 = .ok (.athrow, 1) := by decide +kernel
theorem dX0_requireCell_18 : decode cX0_requireCell 18 = .ok (.return_, 1) := by decide +kernel
theorem dX0_hasFrameAlone_0 : decode cX0_hasFrameAlone 0 = .ok (.aload_n 0, 1) := by decide +kernel
theorem dX0_hasFrameAlone_1 : decode cX0_hasFrameAlone 1 = .ok (.getfield 27, 3) := by decide +kernel
theorem dX0_hasFrameAlone_4 : decode cX0_hasFrameAlone 4 = .ok (.aload_n 0, 1) := by decide +kernel
theorem dX0_hasFrameAlone_5 : decode cX0_hasFrameAlone 5 = .ok (.getfield 21, 3) := by decide +kernel
theorem dX0_hasFrameAlone_8 : decode cX0_hasFrameAlone 8 = .ok (.iload_n 1, 1) := by decide +kernel
theorem dX0_hasFrameAlone_9 : decode cX0_hasFrameAlone 9 = .ok (.aaload, 1) := by decide +kernel
theorem dX0_hasFrameAlone_10 : decode cX0_hasFrameAlone 10 = .ok (.iload_n 2, 1) := by decide +kernel
theorem dX0_hasFrameAlone_11 : decode cX0_hasFrameAlone 11 = .ok (.iaload, 1) := by decide +kernel
theorem dX0_hasFrameAlone_12 : decode cX0_hasFrameAlone 12 = .ok (.iaload, 1) := by decide +kernel
theorem dX0_hasFrameAlone_13 : decode cX0_hasFrameAlone 13 = .ok (.iconst 1, 1) := by decide +kernel
theorem dX0_hasFrameAlone_14 : decode cX0_hasFrameAlone 14 = .ok (.if_icmp .ne 7, 3) := by decide +kernel
theorem dX0_hasFrameAlone_17 : decode cX0_hasFrameAlone 17 = .ok (.iconst 1, 1) := by decide +kernel
theorem dX0_hasFrameAlone_18 : decode cX0_hasFrameAlone 18 = .ok (.goto 4, 3) := by decide +kernel
theorem dX0_hasFrameAlone_21 : decode cX0_hasFrameAlone 21 = .ok (.iconst 0, 1) := by decide +kernel
theorem dX0_hasFrameAlone_22 : decode cX0_hasFrameAlone 22 = .ok (.ireturn, 1) := by decide +kernel
theorem dX0_giveNewFrame_0 : decode cX0_giveNewFrame 0 = .ok (.aload_n 0, 1) := by decide +kernel
theorem dX0_giveNewFrame_1 : decode cX0_giveNewFrame 1 = .ok (.invokevirtual 126, 3) := by decide +kernel
theorem dX0_giveNewFrame_4 : decode cX0_giveNewFrame 4 = .ok (.istore_n 3, 1) := by decide +kernel
theorem dX0_giveNewFrame_5 : decode cX0_giveNewFrame 5 = .ok (.aload_n 0, 1) := by decide +kernel
theorem dX0_giveNewFrame_6 : decode cX0_giveNewFrame 6 = .ok (.getfield 24, 3) := by decide +kernel
theorem dX0_giveNewFrame_9 : decode cX0_giveNewFrame 9 = .ok (.aload_n 0, 1) := by decide +kernel
theorem dX0_giveNewFrame_10 : decode cX0_giveNewFrame 10 = .ok (.getfield 21, 3) := by decide +kernel
theorem dX0_giveNewFrame_13 : decode cX0_giveNewFrame 13 = .ok (.iload_n 1, 1) := by decide +kernel
theorem dX0_giveNewFrame_14 : decode cX0_giveNewFrame 14 = .ok (.aaload, 1) := by decide +kernel
theorem dX0_giveNewFrame_15 : decode cX0_giveNewFrame 15 = .ok (.iload_n 2, 1) := by decide +kernel
theorem dX0_giveNewFrame_16 : decode cX0_giveNewFrame 16 = .ok (.iaload, 1) := by decide +kernel
theorem dX0_giveNewFrame_17 : decode cX0_giveNewFrame 17 = .ok (.aaload, 1) := by decide +kernel
theorem dX0_giveNewFrame_18 : decode cX0_giveNewFrame 18 = .ok (.iconst 0, 1) := by decide +kernel
theorem dX0_giveNewFrame_19 : decode cX0_giveNewFrame 19 = .ok (.aload_n 0, 1) := by decide +kernel
theorem dX0_giveNewFrame_20 : decode cX0_giveNewFrame 20 = .ok (.getfield 24, 3) := by decide +kernel
theorem dX0_giveNewFrame_23 : decode cX0_giveNewFrame 23 = .ok (.iload_n 3, 1) := by decide +kernel
theorem dX0_giveNewFrame_24 : decode cX0_giveNewFrame 24 = .ok (.aaload, 1) := by decide +kernel
theorem dX0_giveNewFrame_25 : decode cX0_giveNewFrame 25 = .ok (.iconst 0, 1) := by decide +kernel
theorem dX0_giveNewFrame_26 : decode cX0_giveNewFrame 26 = .ok (.bipush 8, 2) := by decide +kernel
theorem dX0_giveNewFrame_28 : decode cX0_giveNewFrame 28 = .ok (.invokestatic 129, 3) := by decide +kernel
theorem dX0_giveNewFrame_31 : decode cX0_giveNewFrame 31 = .ok (.aload_n 0, 1) := by decide +kernel
theorem dX0_giveNewFrame_32 : decode cX0_giveNewFrame 32 = .ok (.iload_n 1, 1) := by decide +kernel
theorem dX0_giveNewFrame_33 : decode cX0_giveNewFrame 33 = .ok (.iload_n 2, 1) := by decide +kernel
theorem dX0_giveNewFrame_34 : decode cX0_giveNewFrame 34 = .ok (.iload_n 3, 1) := by decide +kernel
theorem dX0_giveNewFrame_35 : decode cX0_giveNewFrame 35 = .ok (.invokevirtual 51, 3) := by decide +kernel
theorem dX0_giveNewFrame_38 : decode cX0_giveNewFrame 38 = .ok (.pop, 1) := by decide +kernel
theorem dX0_giveNewFrame_39 : decode cX0_giveNewFrame 39 = .ok (.return_, 1) := by decide +kernel
theorem dX0_requireFreeFrame_0 : decode cX0_requireFreeFrame 0 = .ok (.iconst 1, 1) := by decide +kernel
theorem dX0_requireFreeFrame_1 : decode cX0_requireFreeFrame 1 = .ok (.istore_n 1, 1) := by decide +kernel
theorem dX0_requireFreeFrame_2 : decode cX0_requireFreeFrame 2 = .ok (.iload_n 1, 1) := by decide +kernel
theorem dX0_requireFreeFrame_3 : decode cX0_requireFreeFrame 3 = .ok (.sipush 200, 3) := by decide +kernel
theorem dX0_requireFreeFrame_6 : decode cX0_requireFreeFrame 6 = .ok (.if_icmp .gt 20, 3) := by decide +kernel
theorem dX0_requireFreeFrame_9 : decode cX0_requireFreeFrame 9 = .ok (.aload_n 0, 1) := by decide +kernel
theorem dX0_requireFreeFrame_10 : decode cX0_requireFreeFrame 10 = .ok (.getfield 27, 3) := by decide +kernel
theorem dX0_requireFreeFrame_13 : decode cX0_requireFreeFrame 13 = .ok (.iload_n 1, 1) := by decide +kernel
theorem dX0_requireFreeFrame_14 : decode cX0_requireFreeFrame 14 = .ok (.iaload, 1) := by decide +kernel
theorem dX0_requireFreeFrame_15 : decode cX0_requireFreeFrame 15 = .ok (.ifCond .ne 5, 3) := by decide +kernel
theorem dX0_requireFreeFrame_18 : decode cX0_requireFreeFrame 18 = .ok (.iload_n 1, 1) := by decide +kernel
theorem dX0_requireFreeFrame_19 : decode cX0_requireFreeFrame 19 = .ok (.ireturn, 1) := by decide +kernel
theorem dX0_requireFreeFrame_20 : decode cX0_requireFreeFrame 20 = .ok (.iinc 1 1, 3) := by decide +kernel
theorem dX0_requireFreeFrame_23 : decode cX0_requireFreeFrame 23 = .ok (.goto (-21), 3) := by decide +kernel
theorem dX0_requireFreeFrame_26 : decode cX0_requireFreeFrame 26 = .ok (.new 123, 3) := by decide +kernel
theorem dX0_requireFreeFrame_29 : decode cX0_requireFreeFrame 29 = .ok (.dup, 1) := by decide +kernel
theorem dX0_requireFreeFrame_30 : decode cX0_requireFreeFrame 30 = .ok (.invokespecial 125, 3) := by decide +kernel
theorem dX0_requireFreeFrame_33 : decode cX0_requireFreeFrame 33 = .ok (.athrow, 1) := by decide +kernel
theorem dX0_read_0 : decode cX0_read 0 = .ok (.aload_n 0, 1) := by decide +kernel
theorem dX0_read_1 : decode cX0_read 1 = .ok (.iload_n 1, 1) := by decide +kernel
theorem dX0_read_2 : decode cX0_read 2 = .ok (.iload_n 2, 1) := by decide +kernel
theorem dX0_read_3 : decode cX0_read 3 = .ok (.invokevirtual 62, 3) := by decide +kernel
theorem dX0_read_6 : decode cX0_read 6 = .ok (.aload_n 0, 1) := by decide +kernel
theorem dX0_read_7 : decode cX0_read 7 = .ok (.iload_n 3, 1) := by decide +kernel
theorem dX0_read_8 : decode cX0_read 8 = .ok (.invokevirtual 66, 3) := by decide +kernel
theorem dX0_read_11 : decode cX0_read 11 = .ok (.aload_n 0, 1) := by decide +kernel
theorem dX0_read_12 : decode cX0_read 12 = .ok (.getfield 24, 3) := by decide +kernel
theorem dX0_read_15 : decode cX0_read 15 = .ok (.aload_n 0, 1) := by decide +kernel
theorem dX0_read_16 : decode cX0_read 16 = .ok (.getfield 21, 3) := by decide +kernel
theorem dX0_read_19 : decode cX0_read 19 = .ok (.iload_n 1, 1) := by decide +kernel
theorem dX0_read_20 : decode cX0_read 20 = .ok (.aaload, 1) := by decide +kernel
theorem dX0_read_21 : decode cX0_read 21 = .ok (.iload_n 2, 1) := by decide +kernel
theorem dX0_read_22 : decode cX0_read 22 = .ok (.iaload, 1) := by decide +kernel
theorem dX0_read_23 : decode cX0_read 23 = .ok (.aaload, 1) := by decide +kernel
theorem dX0_read_24 : decode cX0_read 24 = .ok (.iload_n 3, 1) := by decide +kernel
theorem dX0_read_25 : decode cX0_read 25 = .ok (.iaload, 1) := by decide +kernel
theorem dX0_read_26 : decode cX0_read 26 = .ok (.ireturn, 1) := by decide +kernel
theorem dX0_lay_0 : decode cX0_lay 0 = .ok (.aload_n 0, 1) := by decide +kernel
theorem dX0_lay_1 : decode cX0_lay 1 = .ok (.iload_n 1, 1) := by decide +kernel
theorem dX0_lay_2 : decode cX0_lay 2 = .ok (.iload_n 2, 1) := by decide +kernel
theorem dX0_lay_3 : decode cX0_lay 3 = .ok (.iload 5, 2) := by decide +kernel
theorem dX0_lay_5 : decode cX0_lay 5 = .ok (.invokevirtual 47, 3) := by decide +kernel
theorem dX0_lay_8 : decode cX0_lay 8 = .ok (.aload_n 0, 1) := by decide +kernel
theorem dX0_lay_9 : decode cX0_lay 9 = .ok (.iload_n 3, 1) := by decide +kernel
theorem dX0_lay_10 : decode cX0_lay 10 = .ok (.iload 4, 2) := by decide +kernel
theorem dX0_lay_12 : decode cX0_lay 12 = .ok (.iload 5, 2) := by decide +kernel
theorem dX0_lay_14 : decode cX0_lay 14 = .ok (.invokevirtual 47, 3) := by decide +kernel
theorem dX0_lay_17 : decode cX0_lay 17 = .ok (.iconst 0, 1) := by decide +kernel
theorem dX0_lay_18 : decode cX0_lay 18 = .ok (.istore 6, 2) := by decide +kernel
theorem dX0_lay_20 : decode cX0_lay 20 = .ok (.iload 6, 2) := by decide +kernel
theorem dX0_lay_22 : decode cX0_lay 22 = .ok (.iload 5, 2) := by decide +kernel
theorem dX0_lay_24 : decode cX0_lay 24 = .ok (.if_icmp .ge 39, 3) := by decide +kernel
theorem dX0_lay_27 : decode cX0_lay 27 = .ok (.aload_n 0, 1) := by decide +kernel
theorem dX0_lay_28 : decode cX0_lay 28 = .ok (.getfield 30, 3) := by decide +kernel
theorem dX0_lay_31 : decode cX0_lay 31 = .ok (.iload 6, 2) := by decide +kernel
theorem dX0_lay_33 : decode cX0_lay 33 = .ok (.aload_n 0, 1) := by decide +kernel
theorem dX0_lay_34 : decode cX0_lay 34 = .ok (.getfield 21, 3) := by decide +kernel
theorem dX0_lay_37 : decode cX0_lay 37 = .ok (.iload_n 3, 1) := by decide +kernel
theorem dX0_lay_38 : decode cX0_lay 38 = .ok (.aaload, 1) := by decide +kernel
theorem dX0_lay_39 : decode cX0_lay 39 = .ok (.iload 4, 2) := by decide +kernel
theorem dX0_lay_41 : decode cX0_lay 41 = .ok (.iload 6, 2) := by decide +kernel
theorem dX0_lay_43 : decode cX0_lay 43 = .ok (.iadd, 1) := by decide +kernel
theorem dX0_lay_44 : decode cX0_lay 44 = .ok (.iaload, 1) := by decide +kernel
theorem dX0_lay_45 : decode cX0_lay 45 = .ok (.iastore, 1) := by decide +kernel
theorem dX0_lay_46 : decode cX0_lay 46 = .ok (.aload_n 0, 1) := by decide +kernel
theorem dX0_lay_47 : decode cX0_lay 47 = .ok (.aload_n 0, 1) := by decide +kernel
theorem dX0_lay_48 : decode cX0_lay 48 = .ok (.getfield 30, 3) := by decide +kernel
theorem dX0_lay_51 : decode cX0_lay 51 = .ok (.iload 6, 2) := by decide +kernel
theorem dX0_lay_53 : decode cX0_lay 53 = .ok (.iaload, 1) := by decide +kernel
theorem dX0_lay_54 : decode cX0_lay 54 = .ok (.invokevirtual 76, 3) := by decide +kernel
theorem dX0_lay_57 : decode cX0_lay 57 = .ok (.iinc 6 1, 3) := by decide +kernel
theorem dX0_lay_60 : decode cX0_lay 60 = .ok (.goto (-40), 3) := by decide +kernel
theorem dX0_lay_63 : decode cX0_lay 63 = .ok (.iconst 0, 1) := by decide +kernel
theorem dX0_lay_64 : decode cX0_lay 64 = .ok (.istore 6, 2) := by decide +kernel
theorem dX0_lay_66 : decode cX0_lay 66 = .ok (.iconst 0, 1) := by decide +kernel
theorem dX0_lay_67 : decode cX0_lay 67 = .ok (.istore 7, 2) := by decide +kernel
theorem dX0_lay_69 : decode cX0_lay 69 = .ok (.iload 7, 2) := by decide +kernel
theorem dX0_lay_71 : decode cX0_lay 71 = .ok (.iload 5, 2) := by decide +kernel
theorem dX0_lay_73 : decode cX0_lay 73 = .ok (.if_icmp .ge 51, 3) := by decide +kernel
theorem dX0_lay_76 : decode cX0_lay 76 = .ok (.aload_n 0, 1) := by decide +kernel
theorem dX0_lay_77 : decode cX0_lay 77 = .ok (.getfield 21, 3) := by decide +kernel
theorem dX0_lay_80 : decode cX0_lay 80 = .ok (.iload_n 1, 1) := by decide +kernel
theorem dX0_lay_81 : decode cX0_lay 81 = .ok (.aaload, 1) := by decide +kernel
theorem dX0_lay_82 : decode cX0_lay 82 = .ok (.iload_n 2, 1) := by decide +kernel
theorem dX0_lay_83 : decode cX0_lay 83 = .ok (.iload 7, 2) := by decide +kernel
theorem dX0_lay_85 : decode cX0_lay 85 = .ok (.iadd, 1) := by decide +kernel
theorem dX0_lay_86 : decode cX0_lay 86 = .ok (.iaload, 1) := by decide +kernel
theorem dX0_lay_87 : decode cX0_lay 87 = .ok (.istore 8, 2) := by decide +kernel
theorem dX0_lay_89 : decode cX0_lay 89 = .ok (.aload_n 0, 1) := by decide +kernel
theorem dX0_lay_90 : decode cX0_lay 90 = .ok (.getfield 21, 3) := by decide +kernel
theorem dX0_lay_93 : decode cX0_lay 93 = .ok (.iload_n 1, 1) := by decide +kernel
theorem dX0_lay_94 : decode cX0_lay 94 = .ok (.aaload, 1) := by decide +kernel
theorem dX0_lay_95 : decode cX0_lay 95 = .ok (.iload_n 2, 1) := by decide +kernel
theorem dX0_lay_96 : decode cX0_lay 96 = .ok (.iload 7, 2) := by decide +kernel
theorem dX0_lay_98 : decode cX0_lay 98 = .ok (.iadd, 1) := by decide +kernel
theorem dX0_lay_99 : decode cX0_lay 99 = .ok (.aload_n 0, 1) := by decide +kernel
theorem dX0_lay_100 : decode cX0_lay 100 = .ok (.getfield 30, 3) := by decide +kernel
theorem dX0_lay_103 : decode cX0_lay 103 = .ok (.iload 7, 2) := by decide +kernel
theorem dX0_lay_105 : decode cX0_lay 105 = .ok (.iaload, 1) := by decide +kernel
theorem dX0_lay_106 : decode cX0_lay 106 = .ok (.iastore, 1) := by decide +kernel
theorem dX0_lay_107 : decode cX0_lay 107 = .ok (.iload 6, 2) := by decide +kernel
theorem dX0_lay_109 : decode cX0_lay 109 = .ok (.aload_n 0, 1) := by decide +kernel
theorem dX0_lay_110 : decode cX0_lay 110 = .ok (.iload 8, 2) := by decide +kernel
theorem dX0_lay_112 : decode cX0_lay 112 = .ok (.invokevirtual 79, 3) := by decide +kernel
theorem dX0_lay_115 : decode cX0_lay 115 = .ok (.iadd, 1) := by decide +kernel
theorem dX0_lay_116 : decode cX0_lay 116 = .ok (.istore 6, 2) := by decide +kernel
theorem dX0_lay_118 : decode cX0_lay 118 = .ok (.iinc 7 1, 3) := by decide +kernel
theorem dX0_lay_121 : decode cX0_lay 121 = .ok (.goto (-52), 3) := by decide +kernel
theorem dX0_lay_124 : decode cX0_lay 124 = .ok (.iload 6, 2) := by decide +kernel
theorem dX0_lay_126 : decode cX0_lay 126 = .ok (.ireturn, 1) := by decide +kernel
theorem dX0_size_0 : decode cX0_size 0 = .ok (.aload_n 0, 1) := by decide +kernel
theorem dX0_size_1 : decode cX0_size 1 = .ok (.iload_n 1, 1) := by decide +kernel
theorem dX0_size_2 : decode cX0_size 2 = .ok (.invokevirtual 55, 3) := by decide +kernel
theorem dX0_size_5 : decode cX0_size 5 = .ok (.aload_n 0, 1) := by decide +kernel
theorem dX0_size_6 : decode cX0_size 6 = .ok (.iload_n 2, 1) := by decide +kernel
theorem dX0_size_7 : decode cX0_size 7 = .ok (.invokevirtual 39, 3) := by decide +kernel
theorem dX0_size_10 : decode cX0_size 10 = .ok (.aload_n 0, 1) := by decide +kernel
theorem dX0_size_11 : decode cX0_size 11 = .ok (.getfield 9, 3) := by decide +kernel
theorem dX0_size_14 : decode cX0_size 14 = .ok (.iload_n 1, 1) := by decide +kernel
theorem dX0_size_15 : decode cX0_size 15 = .ok (.iaload, 1) := by decide +kernel
theorem dX0_size_16 : decode cX0_size 16 = .ok (.istore_n 3, 1) := by decide +kernel
theorem dX0_size_17 : decode cX0_size 17 = .ok (.aload_n 0, 1) := by decide +kernel
theorem dX0_size_18 : decode cX0_size 18 = .ok (.iload_n 1, 1) := by decide +kernel
theorem dX0_size_19 : decode cX0_size 19 = .ok (.iload_n 2, 1) := by decide +kernel
theorem dX0_size_20 : decode cX0_size 20 = .ok (.invokevirtual 58, 3) := by decide +kernel
theorem dX0_size_23 : decode cX0_size 23 = .ok (.pop, 1) := by decide +kernel
theorem dX0_size_24 : decode cX0_size 24 = .ok (.aload_n 0, 1) := by decide +kernel
theorem dX0_size_25 : decode cX0_size 25 = .ok (.getfield 9, 3) := by decide +kernel
theorem dX0_size_28 : decode cX0_size 28 = .ok (.iload_n 1, 1) := by decide +kernel
theorem dX0_size_29 : decode cX0_size 29 = .ok (.iload_n 2, 1) := by decide +kernel
theorem dX0_size_30 : decode cX0_size 30 = .ok (.iastore, 1) := by decide +kernel
theorem dX0_size_31 : decode cX0_size 31 = .ok (.iload_n 3, 1) := by decide +kernel
theorem dX0_size_32 : decode cX0_size 32 = .ok (.ireturn, 1) := by decide +kernel
theorem dX0_blank_0 : decode cX0_blank 0 = .ok (.aload_n 0, 1) := by decide +kernel
theorem dX0_blank_1 : decode cX0_blank 1 = .ok (.iload_n 1, 1) := by decide +kernel
theorem dX0_blank_2 : decode cX0_blank 2 = .ok (.iload_n 2, 1) := by decide +kernel
theorem dX0_blank_3 : decode cX0_blank 3 = .ok (.invokevirtual 62, 3) := by decide +kernel
theorem dX0_blank_6 : decode cX0_blank 6 = .ok (.aload_n 0, 1) := by decide +kernel
theorem dX0_blank_7 : decode cX0_blank 7 = .ok (.getfield 21, 3) := by decide +kernel
theorem dX0_blank_10 : decode cX0_blank 10 = .ok (.iload_n 1, 1) := by decide +kernel
theorem dX0_blank_11 : decode cX0_blank 11 = .ok (.aaload, 1) := by decide +kernel
theorem dX0_blank_12 : decode cX0_blank 12 = .ok (.iload_n 2, 1) := by decide +kernel
theorem dX0_blank_13 : decode cX0_blank 13 = .ok (.iaload, 1) := by decide +kernel
theorem dX0_blank_14 : decode cX0_blank 14 = .ok (.ifCond .eq 7, 3) := by decide +kernel
theorem dX0_blank_17 : decode cX0_blank 17 = .ok (.iconst 1, 1) := by decide +kernel
theorem dX0_blank_18 : decode cX0_blank 18 = .ok (.goto 4, 3) := by decide +kernel
theorem dX0_blank_21 : decode cX0_blank 21 = .ok (.iconst 0, 1) := by decide +kernel
theorem dX0_blank_22 : decode cX0_blank 22 = .ok (.istore_n 3, 1) := by decide +kernel
theorem dX0_blank_23 : decode cX0_blank 23 = .ok (.aload_n 0, 1) := by decide +kernel
theorem dX0_blank_24 : decode cX0_blank 24 = .ok (.iload_n 1, 1) := by decide +kernel
theorem dX0_blank_25 : decode cX0_blank 25 = .ok (.iload_n 2, 1) := by decide +kernel
theorem dX0_blank_26 : decode cX0_blank 26 = .ok (.iconst 0, 1) := by decide +kernel
theorem dX0_blank_27 : decode cX0_blank 27 = .ok (.invokevirtual 51, 3) := by decide +kernel
theorem dX0_blank_30 : decode cX0_blank 30 = .ok (.pop, 1) := by decide +kernel
theorem dX0_blank_31 : decode cX0_blank 31 = .ok (.iload_n 3, 1) := by decide +kernel
theorem dX0_blank_32 : decode cX0_blank 32 = .ok (.ireturn, 1) := by decide +kernel
theorem dX0_own_0 : decode cX0_own 0 = .ok (.aload_n 0, 1) := by decide +kernel
theorem dX0_own_1 : decode cX0_own 1 = .ok (.iload_n 1, 1) := by decide +kernel
theorem dX0_own_2 : decode cX0_own 2 = .ok (.iload_n 2, 1) := by decide +kernel
theorem dX0_own_3 : decode cX0_own 3 = .ok (.invokevirtual 62, 3) := by decide +kernel
theorem dX0_own_6 : decode cX0_own 6 = .ok (.aload_n 0, 1) := by decide +kernel
theorem dX0_own_7 : decode cX0_own 7 = .ok (.iload_n 1, 1) := by decide +kernel
theorem dX0_own_8 : decode cX0_own 8 = .ok (.iload_n 2, 1) := by decide +kernel
theorem dX0_own_9 : decode cX0_own 9 = .ok (.invokevirtual 69, 3) := by decide +kernel
theorem dX0_own_12 : decode cX0_own 12 = .ok (.ifCond .eq 5, 3) := by decide +kernel
theorem dX0_own_15 : decode cX0_own 15 = .ok (.iconst 0, 1) := by decide +kernel
theorem dX0_own_16 : decode cX0_own 16 = .ok (.ireturn, 1) := by decide +kernel
theorem dX0_own_17 : decode cX0_own 17 = .ok (.aload_n 0, 1) := by decide +kernel
theorem dX0_own_18 : decode cX0_own 18 = .ok (.iload_n 1, 1) := by decide +kernel
theorem dX0_own_19 : decode cX0_own 19 = .ok (.iload_n 2, 1) := by decide +kernel
theorem dX0_own_20 : decode cX0_own 20 = .ok (.invokevirtual 73, 3) := by decide +kernel
theorem dX0_own_23 : decode cX0_own 23 = .ok (.iconst 1, 1) := by decide +kernel
theorem dX0_own_24 : decode cX0_own 24 = .ok (.ireturn, 1) := by decide +kernel
theorem dX0_common_0 : decode cX0_common 0 = .ok (.aload_n 0, 1) := by decide +kernel
theorem dX0_common_1 : decode cX0_common 1 = .ok (.iload_n 1, 1) := by decide +kernel
theorem dX0_common_2 : decode cX0_common 2 = .ok (.iload_n 2, 1) := by decide +kernel
theorem dX0_common_3 : decode cX0_common 3 = .ok (.invokevirtual 62, 3) := by decide +kernel
theorem dX0_common_6 : decode cX0_common 6 = .ok (.aload_n 0, 1) := by decide +kernel
theorem dX0_common_7 : decode cX0_common 7 = .ok (.iload_n 3, 1) := by decide +kernel
theorem dX0_common_8 : decode cX0_common 8 = .ok (.iload 4, 2) := by decide +kernel
theorem dX0_common_10 : decode cX0_common 10 = .ok (.invokevirtual 62, 3) := by decide +kernel
theorem dX0_common_13 : decode cX0_common 13 = .ok (.aload_n 0, 1) := by decide +kernel
theorem dX0_common_14 : decode cX0_common 14 = .ok (.getfield 21, 3) := by decide +kernel
theorem dX0_common_17 : decode cX0_common 17 = .ok (.iload_n 1, 1) := by decide +kernel
theorem dX0_common_18 : decode cX0_common 18 = .ok (.aaload, 1) := by decide +kernel
theorem dX0_common_19 : decode cX0_common 19 = .ok (.iload_n 2, 1) := by decide +kernel
theorem dX0_common_20 : decode cX0_common 20 = .ok (.iaload, 1) := by decide +kernel
theorem dX0_common_21 : decode cX0_common 21 = .ok (.ifCond .eq 27, 3) := by decide +kernel
theorem dX0_common_24 : decode cX0_common 24 = .ok (.aload_n 0, 1) := by decide +kernel
theorem dX0_common_25 : decode cX0_common 25 = .ok (.getfield 21, 3) := by decide +kernel
theorem dX0_common_28 : decode cX0_common 28 = .ok (.iload_n 1, 1) := by decide +kernel
theorem dX0_common_29 : decode cX0_common 29 = .ok (.aaload, 1) := by decide +kernel
theorem dX0_common_30 : decode cX0_common 30 = .ok (.iload_n 2, 1) := by decide +kernel
theorem dX0_common_31 : decode cX0_common 31 = .ok (.iaload, 1) := by decide +kernel
theorem dX0_common_32 : decode cX0_common 32 = .ok (.aload_n 0, 1) := by decide +kernel
theorem dX0_common_33 : decode cX0_common 33 = .ok (.getfield 21, 3) := by decide +kernel
theorem dX0_common_36 : decode cX0_common 36 = .ok (.iload_n 3, 1) := by decide +kernel
theorem dX0_common_37 : decode cX0_common 37 = .ok (.aaload, 1) := by decide +kernel
theorem dX0_common_38 : decode cX0_common 38 = .ok (.iload 4, 2) := by decide +kernel
theorem dX0_common_40 : decode cX0_common 40 = .ok (.iaload, 1) := by decide +kernel
theorem dX0_common_41 : decode cX0_common 41 = .ok (.if_icmp .ne 7, 3) := by decide +kernel
theorem dX0_common_44 : decode cX0_common 44 = .ok (.iconst 1, 1) := by decide +kernel
theorem dX0_common_45 : decode cX0_common 45 = .ok (.goto 4, 3) := by decide +kernel
theorem dX0_common_48 : decode cX0_common 48 = .ok (.iconst 0, 1) := by decide +kernel
theorem dX0_common_49 : decode cX0_common 49 = .ok (.ireturn, 1) := by decide +kernel
theorem dX0_holders_0 : decode cX0_holders 0 = .ok (.aload_n 0, 1) := by decide +kernel
theorem dX0_holders_1 : decode cX0_holders 1 = .ok (.iload_n 1, 1) := by decide +kernel
theorem dX0_holders_2 : decode cX0_holders 2 = .ok (.iload_n 2, 1) := by decide +kernel
theorem dX0_holders_3 : decode cX0_holders 3 = .ok (.invokevirtual 62, 3) := by decide +kernel
theorem dX0_holders_6 : decode cX0_holders 6 = .ok (.aload_n 0, 1) := by decide +kernel
theorem dX0_holders_7 : decode cX0_holders 7 = .ok (.getfield 27, 3) := by decide +kernel
theorem dX0_holders_10 : decode cX0_holders 10 = .ok (.aload_n 0, 1) := by decide +kernel
theorem dX0_holders_11 : decode cX0_holders 11 = .ok (.getfield 21, 3) := by decide +kernel
theorem dX0_holders_14 : decode cX0_holders 14 = .ok (.iload_n 1, 1) := by decide +kernel
theorem dX0_holders_15 : decode cX0_holders 15 = .ok (.aaload, 1) := by decide +kernel
theorem dX0_holders_16 : decode cX0_holders 16 = .ok (.iload_n 2, 1) := by decide +kernel
theorem dX0_holders_17 : decode cX0_holders 17 = .ok (.iaload, 1) := by decide +kernel
theorem dX0_holders_18 : decode cX0_holders 18 = .ok (.iaload, 1) := by decide +kernel
theorem dX0_holders_19 : decode cX0_holders 19 = .ok (.ireturn, 1) := by decide +kernel
theorem dX0_about_0 : decode cX0_about 0 = .ok (.aload_n 0, 1) := by decide +kernel
theorem dX0_about_1 : decode cX0_about 1 = .ok (.iload_n 1, 1) := by decide +kernel
theorem dX0_about_2 : decode cX0_about 2 = .ok (.invokevirtual 55, 3) := by decide +kernel
theorem dX0_about_5 : decode cX0_about 5 = .ok (.iload_n 2, 1) := by decide +kernel
theorem dX0_about_6 : decode cX0_about 6 = .ok (.tableswitch 65 0 4 #[34, 41, 47, 53, 59], 34) := by decide +kernel
theorem dX0_about_40 : decode cX0_about 40 = .ok (.aload_n 0, 1) := by decide +kernel
theorem dX0_about_41 : decode cX0_about 41 = .ok (.getfield 9, 3) := by decide +kernel
theorem dX0_about_44 : decode cX0_about 44 = .ok (.iload_n 1, 1) := by decide +kernel
theorem dX0_about_45 : decode cX0_about 45 = .ok (.iaload, 1) := by decide +kernel
theorem dX0_about_46 : decode cX0_about 46 = .ok (.ireturn, 1) := by decide +kernel
theorem dX0_about_47 : decode cX0_about 47 = .ok (.aload_n 0, 1) := by decide +kernel
theorem dX0_about_48 : decode cX0_about 48 = .ok (.iload_n 1, 1) := by decide +kernel
theorem dX0_about_49 : decode cX0_about 49 = .ok (.invokevirtual 89, 3) := by decide +kernel
theorem dX0_about_52 : decode cX0_about 52 = .ok (.ireturn, 1) := by decide +kernel
theorem dX0_about_53 : decode cX0_about 53 = .ok (.aload_n 0, 1) := by decide +kernel
theorem dX0_about_54 : decode cX0_about 54 = .ok (.iload_n 1, 1) := by decide +kernel
theorem dX0_about_55 : decode cX0_about 55 = .ok (.invokevirtual 92, 3) := by decide +kernel
theorem dX0_about_58 : decode cX0_about 58 = .ok (.ireturn, 1) := by decide +kernel
theorem dX0_about_59 : decode cX0_about 59 = .ok (.aload_n 0, 1) := by decide +kernel
theorem dX0_about_60 : decode cX0_about 60 = .ok (.iload_n 1, 1) := by decide +kernel
theorem dX0_about_61 : decode cX0_about 61 = .ok (.invokevirtual 95, 3) := by decide +kernel
theorem dX0_about_64 : decode cX0_about 64 = .ok (.ireturn, 1) := by decide +kernel
theorem dX0_about_65 : decode cX0_about 65 = .ok (.aload_n 0, 1) := by decide +kernel
theorem dX0_about_66 : decode cX0_about 66 = .ok (.iload_n 1, 1) := by decide +kernel
theorem dX0_about_67 : decode cX0_about 67 = .ok (.invokevirtual 98, 3) := by decide +kernel
theorem dX0_about_70 : decode cX0_about 70 = .ok (.ireturn, 1) := by decide +kernel
theorem dX0_about_71 : decode cX0_about 71 = .ok (.new 101, 3) := by decide +kernel
theorem dX0_about_74 : decode cX0_about 74 = .ok (.dup, 1) := by decide +kernel
theorem dX0_about_75 : decode cX0_about 75 = .ok (.invokespecial 103, 3) := by decide +kernel
theorem dX0_about_78 : decode cX0_about 78 = .ok (.athrow, 1) := by decide +kernel
theorem dX0_blankPages_0 : decode cX0_blankPages 0 = .ok (.iconst 0, 1) := by decide +kernel
theorem dX0_blankPages_1 : decode cX0_blankPages 1 = .ok (.istore_n 2, 1) := by decide +kernel
theorem dX0_blankPages_2 : decode cX0_blankPages 2 = .ok (.iconst 0, 1) := by decide +kernel
theorem dX0_blankPages_3 : decode cX0_blankPages 3 = .ok (.istore_n 3, 1) := by decide +kernel
theorem dX0_blankPages_4 : decode cX0_blankPages 4 = .ok (.iload_n 3, 1) := by decide +kernel
theorem dX0_blankPages_5 : decode cX0_blankPages 5 = .ok (.aload_n 0, 1) := by decide +kernel
theorem dX0_blankPages_6 : decode cX0_blankPages 6 = .ok (.getfield 9, 3) := by decide +kernel
theorem dX0_blankPages_9 : decode cX0_blankPages 9 = .ok (.iload_n 1, 1) := by decide +kernel
theorem dX0_blankPages_10 : decode cX0_blankPages 10 = .ok (.iaload, 1) := by decide +kernel
theorem dX0_blankPages_11 : decode cX0_blankPages 11 = .ok (.if_icmp .ge 23, 3) := by decide +kernel
theorem dX0_blankPages_14 : decode cX0_blankPages 14 = .ok (.aload_n 0, 1) := by decide +kernel
theorem dX0_blankPages_15 : decode cX0_blankPages 15 = .ok (.getfield 21, 3) := by decide +kernel
theorem dX0_blankPages_18 : decode cX0_blankPages 18 = .ok (.iload_n 1, 1) := by decide +kernel
theorem dX0_blankPages_19 : decode cX0_blankPages 19 = .ok (.aaload, 1) := by decide +kernel
theorem dX0_blankPages_20 : decode cX0_blankPages 20 = .ok (.iload_n 3, 1) := by decide +kernel
theorem dX0_blankPages_21 : decode cX0_blankPages 21 = .ok (.iaload, 1) := by decide +kernel
theorem dX0_blankPages_22 : decode cX0_blankPages 22 = .ok (.ifCond .ne 6, 3) := by decide +kernel
theorem dX0_blankPages_25 : decode cX0_blankPages 25 = .ok (.iinc 2 1, 3) := by decide +kernel
theorem dX0_blankPages_28 : decode cX0_blankPages 28 = .ok (.iinc 3 1, 3) := by decide +kernel
theorem dX0_blankPages_31 : decode cX0_blankPages 31 = .ok (.goto (-27), 3) := by decide +kernel
theorem dX0_blankPages_34 : decode cX0_blankPages 34 = .ok (.iload_n 2, 1) := by decide +kernel
theorem dX0_blankPages_35 : decode cX0_blankPages 35 = .ok (.ireturn, 1) := by decide +kernel
theorem dX0_framesOf_0 : decode cX0_framesOf 0 = .ok (.iconst 0, 1) := by decide +kernel
theorem dX0_framesOf_1 : decode cX0_framesOf 1 = .ok (.istore_n 2, 1) := by decide +kernel
theorem dX0_framesOf_2 : decode cX0_framesOf 2 = .ok (.iconst 0, 1) := by decide +kernel
theorem dX0_framesOf_3 : decode cX0_framesOf 3 = .ok (.istore_n 3, 1) := by decide +kernel
theorem dX0_framesOf_4 : decode cX0_framesOf 4 = .ok (.iload_n 3, 1) := by decide +kernel
theorem dX0_framesOf_5 : decode cX0_framesOf 5 = .ok (.aload_n 0, 1) := by decide +kernel
theorem dX0_framesOf_6 : decode cX0_framesOf 6 = .ok (.getfield 9, 3) := by decide +kernel
theorem dX0_framesOf_9 : decode cX0_framesOf 9 = .ok (.iload_n 1, 1) := by decide +kernel
theorem dX0_framesOf_10 : decode cX0_framesOf 10 = .ok (.iaload, 1) := by decide +kernel
theorem dX0_framesOf_11 : decode cX0_framesOf 11 = .ok (.if_icmp .ge 32, 3) := by decide +kernel
theorem dX0_framesOf_14 : decode cX0_framesOf 14 = .ok (.aload_n 0, 1) := by decide +kernel
theorem dX0_framesOf_15 : decode cX0_framesOf 15 = .ok (.getfield 21, 3) := by decide +kernel
theorem dX0_framesOf_18 : decode cX0_framesOf 18 = .ok (.iload_n 1, 1) := by decide +kernel
theorem dX0_framesOf_19 : decode cX0_framesOf 19 = .ok (.aaload, 1) := by decide +kernel
theorem dX0_framesOf_20 : decode cX0_framesOf 20 = .ok (.iload_n 3, 1) := by decide +kernel
theorem dX0_framesOf_21 : decode cX0_framesOf 21 = .ok (.iaload, 1) := by decide +kernel
theorem dX0_framesOf_22 : decode cX0_framesOf 22 = .ok (.ifCond .eq 15, 3) := by decide +kernel
theorem dX0_framesOf_25 : decode cX0_framesOf 25 = .ok (.aload_n 0, 1) := by decide +kernel
theorem dX0_framesOf_26 : decode cX0_framesOf 26 = .ok (.iload_n 1, 1) := by decide +kernel
theorem dX0_framesOf_27 : decode cX0_framesOf 27 = .ok (.iload_n 3, 1) := by decide +kernel
theorem dX0_framesOf_28 : decode cX0_framesOf 28 = .ok (.invokevirtual 138, 3) := by decide +kernel
theorem dX0_framesOf_31 : decode cX0_framesOf 31 = .ok (.ifCond .eq 6, 3) := by decide +kernel
theorem dX0_framesOf_34 : decode cX0_framesOf 34 = .ok (.iinc 2 1, 3) := by decide +kernel
theorem dX0_framesOf_37 : decode cX0_framesOf 37 = .ok (.iinc 3 1, 3) := by decide +kernel
theorem dX0_framesOf_40 : decode cX0_framesOf 40 = .ok (.goto (-36), 3) := by decide +kernel
theorem dX0_framesOf_43 : decode cX0_framesOf 43 = .ok (.iload_n 2, 1) := by decide +kernel
theorem dX0_framesOf_44 : decode cX0_framesOf 44 = .ok (.ireturn, 1) := by decide +kernel
theorem dX0_isFirstWithItsFrame_0 : decode cX0_isFirstWithItsFrame 0 = .ok (.iconst 0, 1) := by decide +kernel
theorem dX0_isFirstWithItsFrame_1 : decode cX0_isFirstWithItsFrame 1 = .ok (.istore_n 3, 1) := by decide +kernel
theorem dX0_isFirstWithItsFrame_2 : decode cX0_isFirstWithItsFrame 2 = .ok (.iload_n 3, 1) := by decide +kernel
theorem dX0_isFirstWithItsFrame_3 : decode cX0_isFirstWithItsFrame 3 = .ok (.iload_n 2, 1) := by decide +kernel
theorem dX0_isFirstWithItsFrame_4 : decode cX0_isFirstWithItsFrame 4 = .ok (.if_icmp .ge 30, 3) := by decide +kernel
theorem dX0_isFirstWithItsFrame_7 : decode cX0_isFirstWithItsFrame 7 = .ok (.aload_n 0, 1) := by decide +kernel
theorem dX0_isFirstWithItsFrame_8 : decode cX0_isFirstWithItsFrame 8 = .ok (.getfield 21, 3) := by decide +kernel
theorem dX0_isFirstWithItsFrame_11 : decode cX0_isFirstWithItsFrame 11 = .ok (.iload_n 1, 1) := by decide +kernel
theorem dX0_isFirstWithItsFrame_12 : decode cX0_isFirstWithItsFrame 12 = .ok (.aaload, 1) := by decide +kernel
theorem dX0_isFirstWithItsFrame_13 : decode cX0_isFirstWithItsFrame 13 = .ok (.iload_n 3, 1) := by decide +kernel
theorem dX0_isFirstWithItsFrame_14 : decode cX0_isFirstWithItsFrame 14 = .ok (.iaload, 1) := by decide +kernel
theorem dX0_isFirstWithItsFrame_15 : decode cX0_isFirstWithItsFrame 15 = .ok (.aload_n 0, 1) := by decide +kernel
theorem dX0_isFirstWithItsFrame_16 : decode cX0_isFirstWithItsFrame 16 = .ok (.getfield 21, 3) := by decide +kernel
theorem dX0_isFirstWithItsFrame_19 : decode cX0_isFirstWithItsFrame 19 = .ok (.iload_n 1, 1) := by decide +kernel
theorem dX0_isFirstWithItsFrame_20 : decode cX0_isFirstWithItsFrame 20 = .ok (.aaload, 1) := by decide +kernel
theorem dX0_isFirstWithItsFrame_21 : decode cX0_isFirstWithItsFrame 21 = .ok (.iload_n 2, 1) := by decide +kernel
theorem dX0_isFirstWithItsFrame_22 : decode cX0_isFirstWithItsFrame 22 = .ok (.iaload, 1) := by decide +kernel
theorem dX0_isFirstWithItsFrame_23 : decode cX0_isFirstWithItsFrame 23 = .ok (.if_icmp .ne 5, 3) := by decide +kernel
theorem dX0_isFirstWithItsFrame_26 : decode cX0_isFirstWithItsFrame 26 = .ok (.iconst 0, 1) := by decide +kernel
theorem dX0_isFirstWithItsFrame_27 : decode cX0_isFirstWithItsFrame 27 = .ok (.ireturn, 1) := by decide +kernel
theorem dX0_isFirstWithItsFrame_28 : decode cX0_isFirstWithItsFrame 28 = .ok (.iinc 3 1, 3) := by decide +kernel
theorem dX0_isFirstWithItsFrame_31 : decode cX0_isFirstWithItsFrame 31 = .ok (.goto (-29), 3) := by decide +kernel
theorem dX0_isFirstWithItsFrame_34 : decode cX0_isFirstWithItsFrame 34 = .ok (.iconst 1, 1) := by decide +kernel
theorem dX0_isFirstWithItsFrame_35 : decode cX0_isFirstWithItsFrame 35 = .ok (.ireturn, 1) := by decide +kernel
theorem dX0_sumOfCells_0 : decode cX0_sumOfCells 0 = .ok (.iconst 0, 1) := by decide +kernel
theorem dX0_sumOfCells_1 : decode cX0_sumOfCells 1 = .ok (.istore_n 2, 1) := by decide +kernel
theorem dX0_sumOfCells_2 : decode cX0_sumOfCells 2 = .ok (.iconst 0, 1) := by decide +kernel
theorem dX0_sumOfCells_3 : decode cX0_sumOfCells 3 = .ok (.istore_n 3, 1) := by decide +kernel
theorem dX0_sumOfCells_4 : decode cX0_sumOfCells 4 = .ok (.iload_n 3, 1) := by decide +kernel
theorem dX0_sumOfCells_5 : decode cX0_sumOfCells 5 = .ok (.aload_n 0, 1) := by decide +kernel
theorem dX0_sumOfCells_6 : decode cX0_sumOfCells 6 = .ok (.getfield 9, 3) := by decide +kernel
theorem dX0_sumOfCells_9 : decode cX0_sumOfCells 9 = .ok (.iload_n 1, 1) := by decide +kernel
theorem dX0_sumOfCells_10 : decode cX0_sumOfCells 10 = .ok (.iaload, 1) := by decide +kernel
theorem dX0_sumOfCells_11 : decode cX0_sumOfCells 11 = .ok (.if_icmp .ge 44, 3) := by decide +kernel
theorem dX0_sumOfCells_14 : decode cX0_sumOfCells 14 = .ok (.iconst 0, 1) := by decide +kernel
theorem dX0_sumOfCells_15 : decode cX0_sumOfCells 15 = .ok (.istore 4, 2) := by decide +kernel
theorem dX0_sumOfCells_17 : decode cX0_sumOfCells 17 = .ok (.iload 4, 2) := by decide +kernel
theorem dX0_sumOfCells_19 : decode cX0_sumOfCells 19 = .ok (.bipush 8, 2) := by decide +kernel
theorem dX0_sumOfCells_21 : decode cX0_sumOfCells 21 = .ok (.if_icmp .ge 28, 3) := by decide +kernel
theorem dX0_sumOfCells_24 : decode cX0_sumOfCells 24 = .ok (.iload_n 2, 1) := by decide +kernel
theorem dX0_sumOfCells_25 : decode cX0_sumOfCells 25 = .ok (.aload_n 0, 1) := by decide +kernel
theorem dX0_sumOfCells_26 : decode cX0_sumOfCells 26 = .ok (.getfield 24, 3) := by decide +kernel
theorem dX0_sumOfCells_29 : decode cX0_sumOfCells 29 = .ok (.aload_n 0, 1) := by decide +kernel
theorem dX0_sumOfCells_30 : decode cX0_sumOfCells 30 = .ok (.getfield 21, 3) := by decide +kernel
theorem dX0_sumOfCells_33 : decode cX0_sumOfCells 33 = .ok (.iload_n 1, 1) := by decide +kernel
theorem dX0_sumOfCells_34 : decode cX0_sumOfCells 34 = .ok (.aaload, 1) := by decide +kernel
theorem dX0_sumOfCells_35 : decode cX0_sumOfCells 35 = .ok (.iload_n 3, 1) := by decide +kernel
theorem dX0_sumOfCells_36 : decode cX0_sumOfCells 36 = .ok (.iaload, 1) := by decide +kernel
theorem dX0_sumOfCells_37 : decode cX0_sumOfCells 37 = .ok (.aaload, 1) := by decide +kernel
theorem dX0_sumOfCells_38 : decode cX0_sumOfCells 38 = .ok (.iload 4, 2) := by decide +kernel
theorem dX0_sumOfCells_40 : decode cX0_sumOfCells 40 = .ok (.iaload, 1) := by decide +kernel
theorem dX0_sumOfCells_41 : decode cX0_sumOfCells 41 = .ok (.iadd, 1) := by decide +kernel
theorem dX0_sumOfCells_42 : decode cX0_sumOfCells 42 = .ok (.istore_n 2, 1) := by decide +kernel
theorem dX0_sumOfCells_43 : decode cX0_sumOfCells 43 = .ok (.iinc 4 1, 3) := by decide +kernel
theorem dX0_sumOfCells_46 : decode cX0_sumOfCells 46 = .ok (.goto (-29), 3) := by decide +kernel
theorem dX0_sumOfCells_49 : decode cX0_sumOfCells 49 = .ok (.iinc 3 1, 3) := by decide +kernel
theorem dX0_sumOfCells_52 : decode cX0_sumOfCells 52 = .ok (.goto (-48), 3) := by decide +kernel
theorem dX0_sumOfCells_55 : decode cX0_sumOfCells 55 = .ok (.iload_n 2, 1) := by decide +kernel
theorem dX0_sumOfCells_56 : decode cX0_sumOfCells 56 = .ok (.ireturn, 1) := by decide +kernel
