theorem dX5_outsideCommand_0 : decode cX5_outsideCommand 0 = .ok (.iload_n 1, 1) := by decide +kernel
theorem dX5_outsideCommand_1 : decode cX5_outsideCommand 1 = .ok (.invokestatic 253, 3) := by decide +kernel
theorem dX5_outsideCommand_4 : decode cX5_outsideCommand 4 = .ok (.ifCond .ne 5, 3) := by decide +kernel
theorem dX5_outsideCommand_7 : decode cX5_outsideCommand 7 = .ok (.iconst 0, 1) := by decide +kernel
theorem dX5_outsideCommand_8 : decode cX5_outsideCommand 8 = .ok (.ireturn, 1) := by decide +kernel
theorem dX5_outsideCommand_9 : decode cX5_outsideCommand 9 = .ok (.aload_n 0, 1) := by decide +kernel
theorem dX5_outsideCommand_10 : decode cX5_outsideCommand 10 = .ok (.iload_n 1, 1) := by decide +kernel
theorem dX5_outsideCommand_11 : decode cX5_outsideCommand 11 = .ok (.putfield 82, 3) := by decide +kernel
theorem dX5_outsideCommand_14 : decode cX5_outsideCommand 14 = .ok (.iconst 1, 1) := by decide +kernel
theorem dX5_outsideCommand_15 : decode cX5_outsideCommand 15 = .ok (.ireturn, 1) := by decide +kernel
theorem dX5_settingCommand_0 : decode cX5_settingCommand 0 = .ok (.iload_n 1, 1) := by decide +kernel
theorem dX5_settingCommand_1 : decode cX5_settingCommand 1 = .ok (.iload_n 2, 1) := by decide +kernel
theorem dX5_settingCommand_2 : decode cX5_settingCommand 2 = .ok (.invokestatic 244, 3) := by decide +kernel
theorem dX5_settingCommand_5 : decode cX5_settingCommand 5 = .ok (.ifCond .ne 5, 3) := by decide +kernel
theorem dX5_settingCommand_8 : decode cX5_settingCommand 8 = .ok (.iconst 0, 1) := by decide +kernel
theorem dX5_settingCommand_9 : decode cX5_settingCommand 9 = .ok (.ireturn, 1) := by decide +kernel
theorem dX5_settingCommand_10 : decode cX5_settingCommand 10 = .ok (.aload_n 0, 1) := by decide +kernel
theorem dX5_settingCommand_11 : decode cX5_settingCommand 11 = .ok (.iload_n 1, 1) := by decide +kernel
theorem dX5_settingCommand_12 : decode cX5_settingCommand 12 = .ok (.iload_n 2, 1) := by decide +kernel
theorem dX5_settingCommand_13 : decode cX5_settingCommand 13 = .ok (.invokevirtual 249, 3) := by decide +kernel
theorem dX5_settingCommand_16 : decode cX5_settingCommand 16 = .ok (.iconst 1, 1) := by decide +kernel
theorem dX5_settingCommand_17 : decode cX5_settingCommand 17 = .ok (.ireturn, 1) := by decide +kernel
theorem dX5_windowCommand_0 : decode cX5_windowCommand 0 = .ok (.aload_n 0, 1) := by decide +kernel
theorem dX5_windowCommand_1 : decode cX5_windowCommand 1 = .ok (.iload_n 1, 1) := by decide +kernel
theorem dX5_windowCommand_2 : decode cX5_windowCommand 2 = .ok (.invokevirtual 151, 3) := by decide +kernel
theorem dX5_windowCommand_5 : decode cX5_windowCommand 5 = .ok (.ifCond .ne 5, 3) := by decide +kernel
theorem dX5_windowCommand_8 : decode cX5_windowCommand 8 = .ok (.iconst 0, 1) := by decide +kernel
theorem dX5_windowCommand_9 : decode cX5_windowCommand 9 = .ok (.ireturn, 1) := by decide +kernel
theorem dX5_windowCommand_10 : decode cX5_windowCommand 10 = .ok (.aload_n 0, 1) := by decide +kernel
theorem dX5_windowCommand_11 : decode cX5_windowCommand 11 = .ok (.iload_n 1, 1) := by decide +kernel
theorem dX5_windowCommand_12 : decode cX5_windowCommand 12 = .ok (.iload_n 2, 1) := by decide +kernel
theorem dX5_windowCommand_13 : decode cX5_windowCommand 13 = .ok (.invokevirtual 332, 3) := by decide +kernel
theorem dX5_windowCommand_16 : decode cX5_windowCommand 16 = .ok (.iconst 1, 1) := by decide +kernel
theorem dX5_windowCommand_17 : decode cX5_windowCommand 17 = .ok (.ireturn, 1) := by decide +kernel
theorem dX5_wantedCommand_0 : decode cX5_wantedCommand 0 = .ok (.aload_n 0, 1) := by decide +kernel
theorem dX5_wantedCommand_1 : decode cX5_wantedCommand 1 = .ok (.iload_n 1, 1) := by decide +kernel
theorem dX5_wantedCommand_2 : decode cX5_wantedCommand 2 = .ok (.invokevirtual 151, 3) := by decide +kernel
theorem dX5_wantedCommand_5 : decode cX5_wantedCommand 5 = .ok (.ifCond .eq 10, 3) := by decide +kernel
theorem dX5_wantedCommand_8 : decode cX5_wantedCommand 8 = .ok (.iload_n 2, 1) := by decide +kernel
theorem dX5_wantedCommand_9 : decode cX5_wantedCommand 9 = .ok (.invokestatic 208, 3) := by decide +kernel
theorem dX5_wantedCommand_12 : decode cX5_wantedCommand 12 = .ok (.ifCond .ne 5, 3) := by decide +kernel
theorem dX5_wantedCommand_15 : decode cX5_wantedCommand 15 = .ok (.iconst 0, 1) := by decide +kernel
theorem dX5_wantedCommand_16 : decode cX5_wantedCommand 16 = .ok (.ireturn, 1) := by decide +kernel
theorem dX5_wantedCommand_17 : decode cX5_wantedCommand 17 = .ok (.aload_n 0, 1) := by decide +kernel
theorem dX5_wantedCommand_18 : decode cX5_wantedCommand 18 = .ok (.getfield 156, 3) := by decide +kernel
theorem dX5_wantedCommand_21 : decode cX5_wantedCommand 21 = .ok (.iload_n 1, 1) := by decide +kernel
theorem dX5_wantedCommand_22 : decode cX5_wantedCommand 22 = .ok (.aaload, 1) := by decide +kernel
theorem dX5_wantedCommand_23 : decode cX5_wantedCommand 23 = .ok (.iload_n 2, 1) := by decide +kernel
theorem dX5_wantedCommand_24 : decode cX5_wantedCommand 24 = .ok (.putfield 160, 3) := by decide +kernel
theorem dX5_wantedCommand_27 : decode cX5_wantedCommand 27 = .ok (.iconst 1, 1) := by decide +kernel
theorem dX5_wantedCommand_28 : decode cX5_wantedCommand 28 = .ok (.ireturn, 1) := by decide +kernel
theorem dX6_init_0 : decode cX6_init 0 = .ok (.aload_n 0, 1) := by decide +kernel
theorem dX6_init_1 : decode cX6_init 1 = .ok (.invokespecial 1, 3) := by decide +kernel
theorem dX6_init_4 : decode cX6_init 4 = .ok (.aload_n 0, 1) := by decide +kernel
theorem dX6_init_5 : decode cX6_init 5 = .ok (.bipush 80, 2) := by decide +kernel
theorem dX6_init_7 : decode cX6_init 7 = .ok (.newarray .int, 2) := by decide +kernel
theorem dX6_init_9 : decode cX6_init 9 = .ok (.putfield 7, 3) := by decide +kernel
theorem dX6_init_12 : decode cX6_init 12 = .ok (.aload_n 0, 1) := by decide +kernel
theorem dX6_init_13 : decode cX6_init 13 = .ok (.sipush 128, 3) := by decide +kernel
theorem dX6_init_16 : decode cX6_init 16 = .ok (.newarray .int, 2) := by decide +kernel
theorem dX6_init_18 : decode cX6_init 18 = .ok (.putfield 13, 3) := by decide +kernel
theorem dX6_init_21 : decode cX6_init 21 = .ok (.aload_n 0, 1) := by decide +kernel
theorem dX6_init_22 : decode cX6_init 22 = .ok (.sipush 128, 3) := by decide +kernel
theorem dX6_init_25 : decode cX6_init 25 = .ok (.newarray .int, 2) := by decide +kernel
theorem dX6_init_27 : decode cX6_init 27 = .ok (.putfield 16, 3) := by decide +kernel
theorem dX6_init_30 : decode cX6_init 30 = .ok (.aload_n 0, 1) := by decide +kernel
theorem dX6_init_31 : decode cX6_init 31 = .ok (.sipush 128, 3) := by decide +kernel
theorem dX6_init_34 : decode cX6_init 34 = .ok (.newarray .int, 2) := by decide +kernel
theorem dX6_init_36 : decode cX6_init 36 = .ok (.putfield 19, 3) := by decide +kernel
theorem dX6_init_39 : decode cX6_init 39 = .ok (.aload_n 0, 1) := by decide +kernel
theorem dX6_init_40 : decode cX6_init 40 = .ok (.sipush 1792, 3) := by decide +kernel
theorem dX6_init_43 : decode cX6_init 43 = .ok (.newarray .int, 2) := by decide +kernel
theorem dX6_init_45 : decode cX6_init 45 = .ok (.putfield 22, 3) := by decide +kernel
theorem dX6_init_48 : decode cX6_init 48 = .ok (.aload_n 0, 1) := by decide +kernel
theorem dX6_init_49 : decode cX6_init 49 = .ok (.sipush 256, 3) := by decide +kernel
theorem dX6_init_52 : decode cX6_init 52 = .ok (.newarray .int, 2) := by decide +kernel
theorem dX6_init_54 : decode cX6_init 54 = .ok (.putfield 25, 3) := by decide +kernel
theorem dX6_init_57 : decode cX6_init 57 = .ok (.aload_n 0, 1) := by decide +kernel
theorem dX6_init_58 : decode cX6_init 58 = .ok (.iconst 2, 1) := by decide +kernel
theorem dX6_init_59 : decode cX6_init 59 = .ok (.newarray .boolean, 2) := by decide +kernel
theorem dX6_init_61 : decode cX6_init 61 = .ok (.putfield 28, 3) := by decide +kernel
theorem dX6_init_64 : decode cX6_init 64 = .ok (.aload_n 0, 1) := by decide +kernel
theorem dX6_init_65 : decode cX6_init 65 = .ok (.getfield 16, 3) := by decide +kernel
theorem dX6_init_68 : decode cX6_init 68 = .ok (.invokestatic 32, 3) := by decide +kernel
theorem dX6_init_71 : decode cX6_init 71 = .ok (.return_, 1) := by decide +kernel
theorem dX6_thrown_0 : decode cX6_thrown 0 = .ok (.aload_n 0, 1) := by decide +kernel
theorem dX6_thrown_1 : decode cX6_thrown 1 = .ok (.getfield 36, 3) := by decide +kernel
theorem dX6_thrown_4 : decode cX6_thrown 4 = .ok (.ireturn, 1) := by decide +kernel
theorem dX6_refused_0 : decode cX6_refused 0 = .ok (.aload_n 0, 1) := by decide +kernel
theorem dX6_refused_1 : decode cX6_refused 1 = .ok (.iload_n 1, 1) := by decide +kernel
theorem dX6_refused_2 : decode cX6_refused 2 = .ok (.putfield 36, 3) := by decide +kernel
theorem dX6_refused_5 : decode cX6_refused 5 = .ok (.iload_n 1, 1) := by decide +kernel
theorem dX6_refused_6 : decode cX6_refused 6 = .ok (.ifCond .le 7, 3) := by decide +kernel
theorem dX6_refused_9 : decode cX6_refused 9 = .ok (.iconst 1, 1) := by decide +kernel
theorem dX6_refused_10 : decode cX6_refused 10 = .ok (.goto 4, 3) := by decide +kernel
theorem dX6_refused_13 : decode cX6_refused 13 = .ok (.iconst 0, 1) := by decide +kernel
theorem dX6_refused_14 : decode cX6_refused 14 = .ok (.ireturn, 1) := by decide +kernel
theorem dX6_in_0 : decode cX6_in 0 = .ok (.lload_n 0, 1) := by decide +kernel
theorem dX6_in_1 : decode cX6_in 1 = .ok (.lload_n 2, 1) := by decide +kernel
theorem dX6_in_2 : decode cX6_in 2 = .ok (.lcmp, 1) := by decide +kernel
theorem dX6_in_3 : decode cX6_in 3 = .ok (.ifCond .lt 14, 3) := by decide +kernel
theorem dX6_in_6 : decode cX6_in 6 = .ok (.lload_n 0, 1) := by decide +kernel
theorem dX6_in_7 : decode cX6_in 7 = .ok (.lload 4, 2) := by decide +kernel
theorem dX6_in_9 : decode cX6_in 9 = .ok (.lcmp, 1) := by decide +kernel
theorem dX6_in_10 : decode cX6_in 10 = .ok (.ifCond .gt 7, 3) := by decide +kernel
theorem dX6_in_13 : decode cX6_in 13 = .ok (.iconst 1, 1) := by decide +kernel
theorem dX6_in_14 : decode cX6_in 14 = .ok (.goto 4, 3) := by decide +kernel
theorem dX6_in_17 : decode cX6_in 17 = .ok (.iconst 0, 1) := by decide +kernel
theorem dX6_in_18 : decode cX6_in 18 = .ok (.ireturn, 1) := by decide +kernel
theorem dX6_copy_0 : decode cX6_copy 0 = .ok (.iconst 0, 1) := by decide +kernel
theorem dX6_copy_1 : decode cX6_copy 1 = .ok (.istore 5, 2) := by decide +kernel
theorem dX6_copy_3 : decode cX6_copy 3 = .ok (.iload 5, 2) := by decide +kernel
theorem dX6_copy_5 : decode cX6_copy 5 = .ok (.iload 4, 2) := by decide +kernel
theorem dX6_copy_7 : decode cX6_copy 7 = .ok (.if_icmp .ge 21, 3) := by decide +kernel
theorem dX6_copy_10 : decode cX6_copy 10 = .ok (.aload_n 2, 1) := by decide +kernel
theorem dX6_copy_11 : decode cX6_copy 11 = .ok (.iload_n 3, 1) := by decide +kernel
theorem dX6_copy_12 : decode cX6_copy 12 = .ok (.iload 5, 2) := by decide +kernel
theorem dX6_copy_14 : decode cX6_copy 14 = .ok (.iadd, 1) := by decide +kernel
theorem dX6_copy_15 : decode cX6_copy 15 = .ok (.aload_n 0, 1) := by decide +kernel
theorem dX6_copy_16 : decode cX6_copy 16 = .ok (.iload_n 1, 1) := by decide +kernel
theorem dX6_copy_17 : decode cX6_copy 17 = .ok (.iload 5, 2) := by decide +kernel
theorem dX6_copy_19 : decode cX6_copy 19 = .ok (.iadd, 1) := by decide +kernel
theorem dX6_copy_20 : decode cX6_copy 20 = .ok (.iaload, 1) := by decide +kernel
theorem dX6_copy_21 : decode cX6_copy 21 = .ok (.iastore, 1) := by decide +kernel
theorem dX6_copy_22 : decode cX6_copy 22 = .ok (.iinc 5 1, 3) := by decide +kernel
theorem dX6_copy_25 : decode cX6_copy 25 = .ok (.goto (-22), 3) := by decide +kernel
theorem dX6_copy_28 : decode cX6_copy 28 = .ok (.return_, 1) := by decide +kernel
theorem dX6_tenTo_0 : decode cX6_tenTo 0 = .ok (.lconst 1, 1) := by decide +kernel
theorem dX6_tenTo_1 : decode cX6_tenTo 1 = .ok (.lstore_n 1, 1) := by decide +kernel
theorem dX6_tenTo_2 : decode cX6_tenTo 2 = .ok (.iconst 0, 1) := by decide +kernel
theorem dX6_tenTo_3 : decode cX6_tenTo 3 = .ok (.istore_n 3, 1) := by decide +kernel
theorem dX6_tenTo_4 : decode cX6_tenTo 4 = .ok (.iload_n 3, 1) := by decide +kernel
theorem dX6_tenTo_5 : decode cX6_tenTo 5 = .ok (.iload_n 0, 1) := by decide +kernel
theorem dX6_tenTo_6 : decode cX6_tenTo 6 = .ok (.if_icmp .ge 15, 3) := by decide +kernel
theorem dX6_tenTo_9 : decode cX6_tenTo 9 = .ok (.lload_n 1, 1) := by decide +kernel
theorem dX6_tenTo_10 : decode cX6_tenTo 10 = .ok (.ldc2_w 40, 3) := by decide +kernel
theorem dX6_tenTo_13 : decode cX6_tenTo 13 = .ok (.lmul, 1) := by decide +kernel
theorem dX6_tenTo_14 : decode cX6_tenTo 14 = .ok (.lstore_n 1, 1) := by decide +kernel
theorem dX6_tenTo_15 : decode cX6_tenTo 15 = .ok (.iinc 3 1, 3) := by decide +kernel
theorem dX6_tenTo_18 : decode cX6_tenTo 18 = .ok (.goto (-14), 3) := by decide +kernel
theorem dX6_tenTo_21 : decode cX6_tenTo 21 = .ok (.lload_n 1, 1) := by decide +kernel
theorem dX6_tenTo_22 : decode cX6_tenTo 22 = .ok (.lreturn, 1) := by decide +kernel
theorem dX6_down_0 : decode cX6_down 0 = .ok (.iload_n 0, 1) := by decide +kernel
theorem dX6_down_1 : decode cX6_down 1 = .ok (.iload_n 1, 1) := by decide +kernel
theorem dX6_down_2 : decode cX6_down 2 = .ok (.idiv, 1) := by decide +kernel
theorem dX6_down_3 : decode cX6_down 3 = .ok (.istore_n 2, 1) := by decide +kernel
theorem dX6_down_4 : decode cX6_down 4 = .ok (.iload_n 0, 1) := by decide +kernel
theorem dX6_down_5 : decode cX6_down 5 = .ok (.iload_n 1, 1) := by decide +kernel
theorem dX6_down_6 : decode cX6_down 6 = .ok (.irem, 1) := by decide +kernel
theorem dX6_down_7 : decode cX6_down 7 = .ok (.ifCond .ge 9, 3) := by decide +kernel
theorem dX6_down_10 : decode cX6_down 10 = .ok (.iload_n 2, 1) := by decide +kernel
theorem dX6_down_11 : decode cX6_down 11 = .ok (.iconst 1, 1) := by decide +kernel
theorem dX6_down_12 : decode cX6_down 12 = .ok (.isub, 1) := by decide +kernel
theorem dX6_down_13 : decode cX6_down 13 = .ok (.goto 4, 3) := by decide +kernel
theorem dX6_down_16 : decode cX6_down 16 = .ok (.iload_n 2, 1) := by decide +kernel
theorem dX6_down_17 : decode cX6_down 17 = .ok (.ireturn, 1) := by decide +kernel
theorem dX6_least_0 : decode cX6_least 0 = .ok (.iload_n 0, 1) := by decide +kernel
theorem dX6_least_1 : decode cX6_least 1 = .ok (.tableswitch 55 1 8 #[47, 55, 55, 55, 50, 50, 55, 52], 47) := by decide +kernel
theorem dX6_least_48 : decode cX6_least 48 = .ok (.bipush 30, 2) := by decide +kernel
theorem dX6_least_50 : decode cX6_least 50 = .ok (.ireturn, 1) := by decide +kernel
theorem dX6_least_51 : decode cX6_least 51 = .ok (.iconst 1, 1) := by decide +kernel
theorem dX6_least_52 : decode cX6_least 52 = .ok (.ireturn, 1) := by decide +kernel
theorem dX6_least_53 : decode cX6_least 53 = .ok (.bipush 10, 2) := by decide +kernel
theorem dX6_least_55 : decode cX6_least 55 = .ok (.ireturn, 1) := by decide +kernel
theorem dX6_least_56 : decode cX6_least 56 = .ok (.iconst 0, 1) := by decide +kernel
theorem dX6_least_57 : decode cX6_least 57 = .ok (.ireturn, 1) := by decide +kernel
theorem dX6_most_0 : decode cX6_most 0 = .ok (.iload_n 0, 1) := by decide +kernel
theorem dX6_most_1 : decode cX6_most 1 = .ok (.tableswitch 63 0 7 #[47, 51, 63, 63, 63, 54, 57, 60], 47) := by decide +kernel
theorem dX6_most_48 : decode cX6_most 48 = .ok (.sipush 200, 3) := by decide +kernel
theorem dX6_most_51 : decode cX6_most 51 = .ok (.ireturn, 1) := by decide +kernel
theorem dX6_most_52 : decode cX6_most 52 = .ok (.bipush 80, 2) := by decide +kernel
theorem dX6_most_54 : decode cX6_most 54 = .ok (.ireturn, 1) := by decide +kernel
theorem dX6_most_55 : decode cX6_most 55 = .ok (.bipush 50, 2) := by decide +kernel
theorem dX6_most_57 : decode cX6_most 57 = .ok (.ireturn, 1) := by decide +kernel
theorem dX6_most_58 : decode cX6_most 58 = .ok (.bipush 20, 2) := by decide +kernel
theorem dX6_most_60 : decode cX6_most 60 = .ok (.ireturn, 1) := by decide +kernel
theorem dX6_most_61 : decode cX6_most 61 = .ok (.bipush 60, 2) := by decide +kernel
theorem dX6_most_63 : decode cX6_most 63 = .ok (.ireturn, 1) := by decide +kernel
theorem dX6_most_64 : decode cX6_most 64 = .ok (.bipush 30, 2) := by decide +kernel
theorem dX6_most_66 : decode cX6_most 66 = .ok (.ireturn, 1) := by decide +kernel
theorem dX6_clean_0 : decode cX6_clean 0 = .ok (.iconst 0, 1) := by decide +kernel
theorem dX6_clean_1 : decode cX6_clean 1 = .ok (.istore_n 1, 1) := by decide +kernel
theorem dX6_clean_2 : decode cX6_clean 2 = .ok (.iload_n 1, 1) := by decide +kernel
theorem dX6_clean_3 : decode cX6_clean 3 = .ok (.sipush 128, 3) := by decide +kernel
theorem dX6_clean_6 : decode cX6_clean 6 = .ok (.if_icmp .ge 13, 3) := by decide +kernel
theorem dX6_clean_9 : decode cX6_clean 9 = .ok (.aload_n 0, 1) := by decide +kernel
theorem dX6_clean_10 : decode cX6_clean 10 = .ok (.iload_n 1, 1) := by decide +kernel
theorem dX6_clean_11 : decode cX6_clean 11 = .ok (.iconst 0, 1) := by decide +kernel
theorem dX6_clean_12 : decode cX6_clean 12 = .ok (.iastore, 1) := by decide +kernel
theorem dX6_clean_13 : decode cX6_clean 13 = .ok (.iinc 1 1, 3) := by decide +kernel
theorem dX6_clean_16 : decode cX6_clean 16 = .ok (.goto (-14), 3) := by decide +kernel
theorem dX6_clean_19 : decode cX6_clean 19 = .ok (.aload_n 0, 1) := by decide +kernel
theorem dX6_clean_20 : decode cX6_clean 20 = .ok (.iconst 2, 1) := by decide +kernel
theorem dX6_clean_21 : decode cX6_clean 21 = .ok (.iconst 5, 1) := by decide +kernel
theorem dX6_clean_22 : decode cX6_clean 22 = .ok (.iastore, 1) := by decide +kernel
theorem dX6_clean_23 : decode cX6_clean 23 = .ok (.aload_n 0, 1) := by decide +kernel
theorem dX6_clean_24 : decode cX6_clean 24 = .ok (.bipush 9, 2) := by decide +kernel
theorem dX6_clean_26 : decode cX6_clean 26 = .ok (.bipush 60, 2) := by decide +kernel
theorem dX6_clean_28 : decode cX6_clean 28 = .ok (.iastore, 1) := by decide +kernel
theorem dX6_clean_29 : decode cX6_clean 29 = .ok (.aload_n 0, 1) := by decide +kernel
theorem dX6_clean_30 : decode cX6_clean 30 = .ok (.bipush 10, 2) := by decide +kernel
theorem dX6_clean_32 : decode cX6_clean 32 = .ok (.bipush 60, 2) := by decide +kernel
theorem dX6_clean_34 : decode cX6_clean 34 = .ok (.iastore, 1) := by decide +kernel
theorem dX6_clean_35 : decode cX6_clean 35 = .ok (.aload_n 0, 1) := by decide +kernel
theorem dX6_clean_36 : decode cX6_clean 36 = .ok (.bipush 11, 2) := by decide +kernel
theorem dX6_clean_38 : decode cX6_clean 38 = .ok (.iconst 5, 1) := by decide +kernel
theorem dX6_clean_39 : decode cX6_clean 39 = .ok (.iastore, 1) := by decide +kernel
theorem dX6_clean_40 : decode cX6_clean 40 = .ok (.aload_n 0, 1) := by decide +kernel
theorem dX6_clean_41 : decode cX6_clean 41 = .ok (.bipush 12, 2) := by decide +kernel
theorem dX6_clean_43 : decode cX6_clean 43 = .ok (.iconst 3, 1) := by decide +kernel
theorem dX6_clean_44 : decode cX6_clean 44 = .ok (.iastore, 1) := by decide +kernel
theorem dX6_clean_45 : decode cX6_clean 45 = .ok (.aload_n 0, 1) := by decide +kernel
theorem dX6_clean_46 : decode cX6_clean 46 = .ok (.bipush 13, 2) := by decide +kernel
theorem dX6_clean_48 : decode cX6_clean 48 = .ok (.bipush 12, 2) := by decide +kernel
theorem dX6_clean_50 : decode cX6_clean 50 = .ok (.iastore, 1) := by decide +kernel
theorem dX6_clean_51 : decode cX6_clean 51 = .ok (.aload_n 0, 1) := by decide +kernel
theorem dX6_clean_52 : decode cX6_clean 52 = .ok (.bipush 14, 2) := by decide +kernel
theorem dX6_clean_54 : decode cX6_clean 54 = .ok (.bipush 20, 2) := by decide +kernel
theorem dX6_clean_56 : decode cX6_clean 56 = .ok (.iastore, 1) := by decide +kernel
theorem dX6_clean_57 : decode cX6_clean 57 = .ok (.aload_n 0, 1) := by decide +kernel
theorem dX6_clean_58 : decode cX6_clean 58 = .ok (.bipush 15, 2) := by decide +kernel
theorem dX6_clean_60 : decode cX6_clean 60 = .ok (.bipush 10, 2) := by decide +kernel
theorem dX6_clean_62 : decode cX6_clean 62 = .ok (.iastore, 1) := by decide +kernel
theorem dX6_clean_63 : decode cX6_clean 63 = .ok (.aload_n 0, 1) := by decide +kernel
theorem dX6_clean_64 : decode cX6_clean 64 = .ok (.bipush 16, 2) := by decide +kernel
theorem dX6_clean_66 : decode cX6_clean 66 = .ok (.bipush 35, 2) := by decide +kernel
theorem dX6_clean_68 : decode cX6_clean 68 = .ok (.iastore, 1) := by decide +kernel
theorem dX6_clean_69 : decode cX6_clean 69 = .ok (.aload_n 0, 1) := by decide +kernel
theorem dX6_clean_70 : decode cX6_clean 70 = .ok (.bipush 17, 2) := by decide +kernel
theorem dX6_clean_72 : decode cX6_clean 72 = .ok (.bipush 18, 2) := by decide +kernel
theorem dX6_clean_74 : decode cX6_clean 74 = .ok (.iastore, 1) := by decide +kernel
theorem dX6_clean_75 : decode cX6_clean 75 = .ok (.aload_n 0, 1) := by decide +kernel
theorem dX6_clean_76 : decode cX6_clean 76 = .ok (.bipush 18, 2) := by decide +kernel
theorem dX6_clean_78 : decode cX6_clean 78 = .ok (.sipush 800, 3) := by decide +kernel
theorem dX6_clean_81 : decode cX6_clean 81 = .ok (.iastore, 1) := by decide +kernel
theorem dX6_clean_82 : decode cX6_clean 82 = .ok (.aload_n 0, 1) := by decide +kernel
theorem dX6_clean_83 : decode cX6_clean 83 = .ok (.bipush 19, 2) := by decide +kernel
theorem dX6_clean_85 : decode cX6_clean 85 = .ok (.sipush 1200, 3) := by decide +kernel
theorem dX6_clean_88 : decode cX6_clean 88 = .ok (.iastore, 1) := by decide +kernel
theorem dX6_clean_89 : decode cX6_clean 89 = .ok (.return_, 1) := by decide +kernel
theorem dX6_note_0 : decode cX6_note 0 = .ok (.aload_n 0, 1) := by decide +kernel
theorem dX6_note_1 : decode cX6_note 1 = .ok (.getfield 42, 3) := by decide +kernel
theorem dX6_note_4 : decode cX6_note 4 = .ok (.bipush 14, 2) := by decide +kernel
theorem dX6_note_6 : decode cX6_note 6 = .ok (.if_icmp .ne 31, 3) := by decide +kernel
theorem dX6_note_9 : decode cX6_note 9 = .ok (.aload_n 0, 1) := by decide +kernel
theorem dX6_note_10 : decode cX6_note 10 = .ok (.getfield 22, 3) := by decide +kernel
theorem dX6_note_13 : decode cX6_note 13 = .ok (.sipush 128, 3) := by decide +kernel
theorem dX6_note_16 : decode cX6_note 16 = .ok (.aload_n 0, 1) := by decide +kernel
theorem dX6_note_17 : decode cX6_note 17 = .ok (.getfield 22, 3) := by decide +kernel
theorem dX6_note_20 : decode cX6_note 20 = .ok (.iconst 0, 1) := by decide +kernel
theorem dX6_note_21 : decode cX6_note 21 = .ok (.sipush 1664, 3) := by decide +kernel
theorem dX6_note_24 : decode cX6_note 24 = .ok (.invokestatic 45, 3) := by decide +kernel
theorem dX6_note_27 : decode cX6_note 27 = .ok (.aload_n 0, 1) := by decide +kernel
theorem dX6_note_28 : decode cX6_note 28 = .ok (.dup, 1) := by decide +kernel
theorem dX6_note_29 : decode cX6_note 29 = .ok (.getfield 42, 3) := by decide +kernel
theorem dX6_note_32 : decode cX6_note 32 = .ok (.iconst 1, 1) := by decide +kernel
theorem dX6_note_33 : decode cX6_note 33 = .ok (.isub, 1) := by decide +kernel
theorem dX6_note_34 : decode cX6_note 34 = .ok (.putfield 42, 3) := by decide +kernel
theorem dX6_note_37 : decode cX6_note 37 = .ok (.aload_n 0, 1) := by decide +kernel
theorem dX6_note_38 : decode cX6_note 38 = .ok (.getfield 16, 3) := by decide +kernel
theorem dX6_note_41 : decode cX6_note 41 = .ok (.iconst 0, 1) := by decide +kernel
theorem dX6_note_42 : decode cX6_note 42 = .ok (.aload_n 0, 1) := by decide +kernel
theorem dX6_note_43 : decode cX6_note 43 = .ok (.getfield 22, 3) := by decide +kernel
theorem dX6_note_46 : decode cX6_note 46 = .ok (.sipush 128, 3) := by decide +kernel
theorem dX6_note_49 : decode cX6_note 49 = .ok (.aload_n 0, 1) := by decide +kernel
theorem dX6_note_50 : decode cX6_note 50 = .ok (.getfield 42, 3) := by decide +kernel
theorem dX6_note_53 : decode cX6_note 53 = .ok (.imul, 1) := by decide +kernel
theorem dX6_note_54 : decode cX6_note 54 = .ok (.sipush 128, 3) := by decide +kernel
theorem dX6_note_57 : decode cX6_note 57 = .ok (.invokestatic 45, 3) := by decide +kernel
theorem dX6_note_60 : decode cX6_note 60 = .ok (.aload_n 0, 1) := by decide +kernel
theorem dX6_note_61 : decode cX6_note 61 = .ok (.dup, 1) := by decide +kernel
theorem dX6_note_62 : decode cX6_note 62 = .ok (.getfield 42, 3) := by decide +kernel
theorem dX6_note_65 : decode cX6_note 65 = .ok (.iconst 1, 1) := by decide +kernel
theorem dX6_note_66 : decode cX6_note 66 = .ok (.iadd, 1) := by decide +kernel
theorem dX6_note_67 : decode cX6_note 67 = .ok (.putfield 42, 3) := by decide +kernel
theorem dX6_note_70 : decode cX6_note 70 = .ok (.return_, 1) := by decide +kernel
theorem dX6_begin_0 : decode cX6_begin 0 = .ok (.aload_n 0, 1) := by decide +kernel
theorem dX6_begin_1 : decode cX6_begin 1 = .ok (.getfield 16, 3) := by decide +kernel
theorem dX6_begin_4 : decode cX6_begin 4 = .ok (.iconst 0, 1) := by decide +kernel
theorem dX6_begin_5 : decode cX6_begin 5 = .ok (.aload_n 0, 1) := by decide +kernel
theorem dX6_begin_6 : decode cX6_begin 6 = .ok (.getfield 19, 3) := by decide +kernel
theorem dX6_begin_9 : decode cX6_begin 9 = .ok (.iconst 0, 1) := by decide +kernel
theorem dX6_begin_10 : decode cX6_begin 10 = .ok (.sipush 128, 3) := by decide +kernel
theorem dX6_begin_13 : decode cX6_begin 13 = .ok (.invokestatic 45, 3) := by decide +kernel
theorem dX6_begin_16 : decode cX6_begin 16 = .ok (.return_, 1) := by decide +kernel
theorem dX6_cell_0 : decode cX6_cell 0 = .ok (.bipush 26, 2) := by decide +kernel
theorem dX6_cell_2 : decode cX6_cell 2 = .ok (.bipush 8, 2) := by decide +kernel
theorem dX6_cell_4 : decode cX6_cell 4 = .ok (.iload_n 0, 1) := by decide +kernel
theorem dX6_cell_5 : decode cX6_cell 5 = .ok (.imul, 1) := by decide +kernel
theorem dX6_cell_6 : decode cX6_cell 6 = .ok (.iadd, 1) := by decide +kernel
theorem dX6_cell_7 : decode cX6_cell 7 = .ok (.iload_n 1, 1) := by decide +kernel
theorem dX6_cell_8 : decode cX6_cell 8 = .ok (.iadd, 1) := by decide +kernel
theorem dX6_cell_9 : decode cX6_cell 9 = .ok (.ireturn, 1) := by decide +kernel
theorem dX6_isRoom_0 : decode cX6_isRoom 0 = .ok (.iload_n 1, 1) := by decide +kernel
theorem dX6_isRoom_1 : decode cX6_isRoom 1 = .ok (.i2l, 1) := by decide +kernel
theorem dX6_isRoom_2 : decode cX6_isRoom 2 = .ok (.lconst 0, 1) := by decide +kernel
theorem dX6_isRoom_3 : decode cX6_isRoom 3 = .ok (.aload_n 0, 1) := by decide +kernel
theorem dX6_isRoom_4 : decode cX6_isRoom 4 = .ok (.getfield 16, 3) := by decide +kernel
theorem dX6_isRoom_7 : decode cX6_isRoom 7 = .ok (.iconst 0, 1) := by decide +kernel
theorem dX6_isRoom_8 : decode cX6_isRoom 8 = .ok (.iaload, 1) := by decide +kernel
theorem dX6_isRoom_9 : decode cX6_isRoom 9 = .ok (.iconst 1, 1) := by decide +kernel
theorem dX6_isRoom_10 : decode cX6_isRoom 10 = .ok (.isub, 1) := by decide +kernel
theorem dX6_isRoom_11 : decode cX6_isRoom 11 = .ok (.i2l, 1) := by decide +kernel
theorem dX6_isRoom_12 : decode cX6_isRoom 12 = .ok (.invokestatic 49, 3) := by decide +kernel
theorem dX6_isRoom_15 : decode cX6_isRoom 15 = .ok (.ireturn, 1) := by decide +kernel
theorem dX6_isWarmPlace_0 : decode cX6_isWarmPlace 0 = .ok (.iload_n 1, 1) := by decide +kernel
theorem dX6_isWarmPlace_1 : decode cX6_isWarmPlace 1 = .ok (.i2l, 1) := by decide +kernel
theorem dX6_isWarmPlace_2 : decode cX6_isWarmPlace 2 = .ok (.lconst 0, 1) := by decide +kernel
theorem dX6_isWarmPlace_3 : decode cX6_isWarmPlace 3 = .ok (.aload_n 0, 1) := by decide +kernel
theorem dX6_isWarmPlace_4 : decode cX6_isWarmPlace 4 = .ok (.getfield 16, 3) := by decide +kernel
theorem dX6_isWarmPlace_7 : decode cX6_isWarmPlace 7 = .ok (.iconst 0, 1) := by decide +kernel
theorem dX6_isWarmPlace_8 : decode cX6_isWarmPlace 8 = .ok (.iaload, 1) := by decide +kernel
theorem dX6_isWarmPlace_9 : decode cX6_isWarmPlace 9 = .ok (.iconst 1, 1) := by decide +kernel
theorem dX6_isWarmPlace_10 : decode cX6_isWarmPlace 10 = .ok (.iadd, 1) := by decide +kernel
theorem dX6_isWarmPlace_11 : decode cX6_isWarmPlace 11 = .ok (.i2l, 1) := by decide +kernel
theorem dX6_isWarmPlace_12 : decode cX6_isWarmPlace 12 = .ok (.invokestatic 49, 3) := by decide +kernel
theorem dX6_isWarmPlace_15 : decode cX6_isWarmPlace 15 = .ok (.ireturn, 1) := by decide +kernel
theorem dX6_capacity_0 : decode cX6_capacity 0 = .ok (.iload_n 1, 1) := by decide +kernel
theorem dX6_capacity_1 : decode cX6_capacity 1 = .ok (.ifCond .ne 8, 3) := by decide +kernel
theorem dX6_capacity_4 : decode cX6_capacity 4 = .ok (.bipush 40, 2) := by decide +kernel
theorem dX6_capacity_6 : decode cX6_capacity 6 = .ok (.goto 25, 3) := by decide +kernel
theorem dX6_capacity_9 : decode cX6_capacity 9 = .ok (.iload_n 1, 1) := by decide +kernel
theorem dX6_capacity_10 : decode cX6_capacity 10 = .ok (.iconst 1, 1) := by decide +kernel
theorem dX6_capacity_11 : decode cX6_capacity 11 = .ok (.if_icmp .ne 8, 3) := by decide +kernel
theorem dX6_capacity_14 : decode cX6_capacity 14 = .ok (.bipush 60, 2) := by decide +kernel
theorem dX6_capacity_16 : decode cX6_capacity 16 = .ok (.goto 15, 3) := by decide +kernel
theorem dX6_capacity_19 : decode cX6_capacity 19 = .ok (.bipush 10, 2) := by decide +kernel
theorem dX6_capacity_21 : decode cX6_capacity 21 = .ok (.aload_n 0, 1) := by decide +kernel
theorem dX6_capacity_22 : decode cX6_capacity 22 = .ok (.iload_n 1, 1) := by decide +kernel
theorem dX6_capacity_23 : decode cX6_capacity 23 = .ok (.iconst 2, 1) := by decide +kernel
theorem dX6_capacity_24 : decode cX6_capacity 24 = .ok (.isub, 1) := by decide +kernel
theorem dX6_capacity_25 : decode cX6_capacity 25 = .ok (.iconst 0, 1) := by decide +kernel
theorem dX6_capacity_26 : decode cX6_capacity 26 = .ok (.invokestatic 53, 3) := by decide +kernel
theorem dX6_capacity_29 : decode cX6_capacity 29 = .ok (.iaload, 1) := by decide +kernel
theorem dX6_capacity_30 : decode cX6_capacity 30 = .ok (.imul, 1) := by decide +kernel
theorem dX6_capacity_31 : decode cX6_capacity 31 = .ok (.ireturn, 1) := by decide +kernel
theorem dX6_degrees_0 : decode cX6_degrees 0 = .ok (.aload_n 0, 1) := by decide +kernel
theorem dX6_degrees_1 : decode cX6_degrees 1 = .ok (.bipush 18, 2) := by decide +kernel
theorem dX6_degrees_3 : decode cX6_degrees 3 = .ok (.iload_n 1, 1) := by decide +kernel
theorem dX6_degrees_4 : decode cX6_degrees 4 = .ok (.iadd, 1) := by decide +kernel
theorem dX6_degrees_5 : decode cX6_degrees 5 = .ok (.iaload, 1) := by decide +kernel
theorem dX6_degrees_6 : decode cX6_degrees 6 = .ok (.aload_n 0, 1) := by decide +kernel
theorem dX6_degrees_7 : decode cX6_degrees 7 = .ok (.iload_n 1, 1) := by decide +kernel
theorem dX6_degrees_8 : decode cX6_degrees 8 = .ok (.invokestatic 57, 3) := by decide +kernel
theorem dX6_degrees_11 : decode cX6_degrees 11 = .ok (.invokestatic 61, 3) := by decide +kernel
theorem dX6_degrees_14 : decode cX6_degrees 14 = .ok (.ireturn, 1) := by decide +kernel
theorem dX6_wayOf_0 : decode cX6_wayOf 0 = .ok (.ldc 64, 2) := by decide +kernel
theorem dX6_wayOf_2 : decode cX6_wayOf 2 = .ok (.istore_n 3, 1) := by decide +kernel
theorem dX6_wayOf_3 : decode cX6_wayOf 3 = .ok (.iconst 0, 1) := by decide +kernel
theorem dX6_wayOf_4 : decode cX6_wayOf 4 = .ok (.istore 4, 2) := by decide +kernel
theorem dX6_wayOf_6 : decode cX6_wayOf 6 = .ok (.iload 4, 2) := by decide +kernel
theorem dX6_wayOf_8 : decode cX6_wayOf 8 = .ok (.aload_n 0, 1) := by decide +kernel
theorem dX6_wayOf_9 : decode cX6_wayOf 9 = .ok (.bipush 74, 2) := by decide +kernel
theorem dX6_wayOf_11 : decode cX6_wayOf 11 = .ok (.iaload, 1) := by decide +kernel
theorem dX6_wayOf_12 : decode cX6_wayOf 12 = .ok (.if_icmp .ge 34, 3) := by decide +kernel
theorem dX6_wayOf_15 : decode cX6_wayOf 15 = .ok (.aload_n 0, 1) := by decide +kernel
theorem dX6_wayOf_16 : decode cX6_wayOf 16 = .ok (.bipush 75, 2) := by decide +kernel
theorem dX6_wayOf_18 : decode cX6_wayOf 18 = .ok (.iconst 2, 1) := by decide +kernel
theorem dX6_wayOf_19 : decode cX6_wayOf 19 = .ok (.iload 4, 2) := by decide +kernel
theorem dX6_wayOf_21 : decode cX6_wayOf 21 = .ok (.imul, 1) := by decide +kernel
theorem dX6_wayOf_22 : decode cX6_wayOf 22 = .ok (.iadd, 1) := by decide +kernel
theorem dX6_wayOf_23 : decode cX6_wayOf 23 = .ok (.iaload, 1) := by decide +kernel
theorem dX6_wayOf_24 : decode cX6_wayOf 24 = .ok (.bipush 10, 2) := by decide +kernel
theorem dX6_wayOf_26 : decode cX6_wayOf 26 = .ok (.iload_n 1, 1) := by decide +kernel
theorem dX6_wayOf_27 : decode cX6_wayOf 27 = .ok (.imul, 1) := by decide +kernel
theorem dX6_wayOf_28 : decode cX6_wayOf 28 = .ok (.iload_n 2, 1) := by decide +kernel
theorem dX6_wayOf_29 : decode cX6_wayOf 29 = .ok (.iadd, 1) := by decide +kernel
theorem dX6_wayOf_30 : decode cX6_wayOf 30 = .ok (.if_icmp .ne 8, 3) := by decide +kernel
theorem dX6_wayOf_33 : decode cX6_wayOf 33 = .ok (.iload 4, 2) := by decide +kernel
theorem dX6_wayOf_35 : decode cX6_wayOf 35 = .ok (.goto 4, 3) := by decide +kernel
theorem dX6_wayOf_38 : decode cX6_wayOf 38 = .ok (.iload_n 3, 1) := by decide +kernel
theorem dX6_wayOf_39 : decode cX6_wayOf 39 = .ok (.istore_n 3, 1) := by decide +kernel
theorem dX6_wayOf_40 : decode cX6_wayOf 40 = .ok (.iinc 4 1, 3) := by decide +kernel
theorem dX6_wayOf_43 : decode cX6_wayOf 43 = .ok (.goto (-37), 3) := by decide +kernel
theorem dX6_wayOf_46 : decode cX6_wayOf 46 = .ok (.iload_n 3, 1) := by decide +kernel
theorem dX6_wayOf_47 : decode cX6_wayOf 47 = .ok (.ireturn, 1) := by decide +kernel
theorem dX6_movedOf_0 : decode cX6_movedOf 0 = .ok (.aload_n 0, 1) := by decide +kernel
theorem dX6_movedOf_1 : decode cX6_movedOf 1 = .ok (.iload_n 1, 1) := by decide +kernel
theorem dX6_movedOf_2 : decode cX6_movedOf 2 = .ok (.iload_n 2, 1) := by decide +kernel
theorem dX6_movedOf_3 : decode cX6_movedOf 3 = .ok (.invokestatic 65, 3) := by decide +kernel
theorem dX6_movedOf_6 : decode cX6_movedOf 6 = .ok (.istore_n 3, 1) := by decide +kernel
theorem dX6_movedOf_7 : decode cX6_movedOf 7 = .ok (.iload_n 3, 1) := by decide +kernel
theorem dX6_movedOf_8 : decode cX6_movedOf 8 = .ok (.ldc 64, 2) := by decide +kernel
theorem dX6_movedOf_10 : decode cX6_movedOf 10 = .ok (.if_icmp .ne 7, 3) := by decide +kernel
theorem dX6_movedOf_13 : decode cX6_movedOf 13 = .ok (.iconst 0, 1) := by decide +kernel
theorem dX6_movedOf_14 : decode cX6_movedOf 14 = .ok (.goto 11, 3) := by decide +kernel
theorem dX6_movedOf_17 : decode cX6_movedOf 17 = .ok (.aload_n 0, 1) := by decide +kernel
theorem dX6_movedOf_18 : decode cX6_movedOf 18 = .ok (.bipush 76, 2) := by decide +kernel
theorem dX6_movedOf_20 : decode cX6_movedOf 20 = .ok (.iconst 2, 1) := by decide +kernel
theorem dX6_movedOf_21 : decode cX6_movedOf 21 = .ok (.iload_n 3, 1) := by decide +kernel
theorem dX6_movedOf_22 : decode cX6_movedOf 22 = .ok (.imul, 1) := by decide +kernel
theorem dX6_movedOf_23 : decode cX6_movedOf 23 = .ok (.iadd, 1) := by decide +kernel
theorem dX6_movedOf_24 : decode cX6_movedOf 24 = .ok (.iaload, 1) := by decide +kernel
theorem dX6_movedOf_25 : decode cX6_movedOf 25 = .ok (.ireturn, 1) := by decide +kernel
theorem dX6_go_0 : decode cX6_go 0 = .ok (.iload_n 3, 1) := by decide +kernel
theorem dX6_go_1 : decode cX6_go 1 = .ok (.ifCond .le 111, 3) := by decide +kernel
theorem dX6_go_4 : decode cX6_go 4 = .ok (.aload_n 0, 1) := by decide +kernel
theorem dX6_go_5 : decode cX6_go 5 = .ok (.iload_n 1, 1) := by decide +kernel
theorem dX6_go_6 : decode cX6_go 6 = .ok (.iload_n 2, 1) := by decide +kernel
theorem dX6_go_7 : decode cX6_go 7 = .ok (.invokestatic 65, 3) := by decide +kernel
theorem dX6_go_10 : decode cX6_go 10 = .ok (.istore 4, 2) := by decide +kernel
theorem dX6_go_12 : decode cX6_go 12 = .ok (.iload 4, 2) := by decide +kernel
theorem dX6_go_14 : decode cX6_go 14 = .ok (.ldc 64, 2) := by decide +kernel
theorem dX6_go_16 : decode cX6_go 16 = .ok (.if_icmp .ne 51, 3) := by decide +kernel
theorem dX6_go_19 : decode cX6_go 19 = .ok (.aload_n 0, 1) := by decide +kernel
theorem dX6_go_20 : decode cX6_go 20 = .ok (.bipush 74, 2) := by decide +kernel
theorem dX6_go_22 : decode cX6_go 22 = .ok (.iaload, 1) := by decide +kernel
theorem dX6_go_23 : decode cX6_go 23 = .ok (.bipush 26, 2) := by decide +kernel
theorem dX6_go_25 : decode cX6_go 25 = .ok (.if_icmp .ge 42, 3) := by decide +kernel
theorem dX6_go_28 : decode cX6_go 28 = .ok (.aload_n 0, 1) := by decide +kernel
theorem dX6_go_29 : decode cX6_go 29 = .ok (.bipush 74, 2) := by decide +kernel
theorem dX6_go_31 : decode cX6_go 31 = .ok (.iaload, 1) := by decide +kernel
theorem dX6_go_32 : decode cX6_go 32 = .ok (.istore 4, 2) := by decide +kernel
theorem dX6_go_34 : decode cX6_go 34 = .ok (.aload_n 0, 1) := by decide +kernel
theorem dX6_go_35 : decode cX6_go 35 = .ok (.bipush 75, 2) := by decide +kernel
theorem dX6_go_37 : decode cX6_go 37 = .ok (.iconst 2, 1) := by decide +kernel
theorem dX6_go_38 : decode cX6_go 38 = .ok (.iload 4, 2) := by decide +kernel
theorem dX6_go_40 : decode cX6_go 40 = .ok (.imul, 1) := by decide +kernel
theorem dX6_go_41 : decode cX6_go 41 = .ok (.iadd, 1) := by decide +kernel
theorem dX6_go_42 : decode cX6_go 42 = .ok (.bipush 10, 2) := by decide +kernel
theorem dX6_go_44 : decode cX6_go 44 = .ok (.iload_n 1, 1) := by decide +kernel
theorem dX6_go_45 : decode cX6_go 45 = .ok (.imul, 1) := by decide +kernel
theorem dX6_go_46 : decode cX6_go 46 = .ok (.iload_n 2, 1) := by decide +kernel
theorem dX6_go_47 : decode cX6_go 47 = .ok (.iadd, 1) := by decide +kernel
theorem dX6_go_48 : decode cX6_go 48 = .ok (.iastore, 1) := by decide +kernel
theorem dX6_go_49 : decode cX6_go 49 = .ok (.aload_n 0, 1) := by decide +kernel
theorem dX6_go_50 : decode cX6_go 50 = .ok (.bipush 76, 2) := by decide +kernel
theorem dX6_go_52 : decode cX6_go 52 = .ok (.iconst 2, 1) := by decide +kernel
theorem dX6_go_53 : decode cX6_go 53 = .ok (.iload 4, 2) := by decide +kernel
theorem dX6_go_55 : decode cX6_go 55 = .ok (.imul, 1) := by decide +kernel
theorem dX6_go_56 : decode cX6_go 56 = .ok (.iadd, 1) := by decide +kernel
theorem dX6_go_57 : decode cX6_go 57 = .ok (.iconst 0, 1) := by decide +kernel
theorem dX6_go_58 : decode cX6_go 58 = .ok (.iastore, 1) := by decide +kernel
theorem dX6_go_59 : decode cX6_go 59 = .ok (.aload_n 0, 1) := by decide +kernel
theorem dX6_go_60 : decode cX6_go 60 = .ok (.bipush 74, 2) := by decide +kernel
theorem dX6_go_62 : decode cX6_go 62 = .ok (.dup2, 1) := by decide +kernel
theorem dX6_go_63 : decode cX6_go 63 = .ok (.iaload, 1) := by decide +kernel
theorem dX6_go_64 : decode cX6_go 64 = .ok (.iconst 1, 1) := by decide +kernel
theorem dX6_go_65 : decode cX6_go 65 = .ok (.iadd, 1) := by decide +kernel
theorem dX6_go_66 : decode cX6_go 66 = .ok (.iastore, 1) := by decide +kernel
theorem dX6_go_67 : decode cX6_go 67 = .ok (.aload_n 0, 1) := by decide +kernel
theorem dX6_go_68 : decode cX6_go 68 = .ok (.bipush 76, 2) := by decide +kernel
theorem dX6_go_70 : decode cX6_go 70 = .ok (.iconst 2, 1) := by decide +kernel
theorem dX6_go_71 : decode cX6_go 71 = .ok (.iload 4, 2) := by decide +kernel
theorem dX6_go_73 : decode cX6_go 73 = .ok (.imul, 1) := by decide +kernel
theorem dX6_go_74 : decode cX6_go 74 = .ok (.iadd, 1) := by decide +kernel
theorem dX6_go_75 : decode cX6_go 75 = .ok (.dup2, 1) := by decide +kernel
theorem dX6_go_76 : decode cX6_go 76 = .ok (.iaload, 1) := by decide +kernel
theorem dX6_go_77 : decode cX6_go 77 = .ok (.iload_n 3, 1) := by decide +kernel
theorem dX6_go_78 : decode cX6_go 78 = .ok (.iadd, 1) := by decide +kernel
theorem dX6_go_79 : decode cX6_go 79 = .ok (.iastore, 1) := by decide +kernel
theorem dX6_go_80 : decode cX6_go 80 = .ok (.iload_n 1, 1) := by decide +kernel
theorem dX6_go_81 : decode cX6_go 81 = .ok (.bipush 8, 2) := by decide +kernel
theorem dX6_go_83 : decode cX6_go 83 = .ok (.if_icmp .ge 13, 3) := by decide +kernel
theorem dX6_go_86 : decode cX6_go 86 = .ok (.aload_n 0, 1) := by decide +kernel
theorem dX6_go_87 : decode cX6_go 87 = .ok (.bipush 18, 2) := by decide +kernel
theorem dX6_go_89 : decode cX6_go 89 = .ok (.iload_n 1, 1) := by decide +kernel
theorem dX6_go_90 : decode cX6_go 90 = .ok (.iadd, 1) := by decide +kernel
theorem dX6_go_91 : decode cX6_go 91 = .ok (.dup2, 1) := by decide +kernel
theorem dX6_go_92 : decode cX6_go 92 = .ok (.iaload, 1) := by decide +kernel
theorem dX6_go_93 : decode cX6_go 93 = .ok (.iload_n 3, 1) := by decide +kernel
theorem dX6_go_94 : decode cX6_go 94 = .ok (.isub, 1) := by decide +kernel
theorem dX6_go_95 : decode cX6_go 95 = .ok (.iastore, 1) := by decide +kernel
theorem dX6_go_96 : decode cX6_go 96 = .ok (.iload_n 2, 1) := by decide +kernel
theorem dX6_go_97 : decode cX6_go 97 = .ok (.bipush 8, 2) := by decide +kernel
theorem dX6_go_99 : decode cX6_go 99 = .ok (.if_icmp .ge 13, 3) := by decide +kernel
theorem dX6_go_102 : decode cX6_go 102 = .ok (.aload_n 0, 1) := by decide +kernel
theorem dX6_go_103 : decode cX6_go 103 = .ok (.bipush 18, 2) := by decide +kernel
theorem dX6_go_105 : decode cX6_go 105 = .ok (.iload_n 2, 1) := by decide +kernel
theorem dX6_go_106 : decode cX6_go 106 = .ok (.iadd, 1) := by decide +kernel
theorem dX6_go_107 : decode cX6_go 107 = .ok (.dup2, 1) := by decide +kernel
theorem dX6_go_108 : decode cX6_go 108 = .ok (.iaload, 1) := by decide +kernel
theorem dX6_go_109 : decode cX6_go 109 = .ok (.iload_n 3, 1) := by decide +kernel
theorem dX6_go_110 : decode cX6_go 110 = .ok (.iadd, 1) := by decide +kernel
theorem dX6_go_111 : decode cX6_go 111 = .ok (.iastore, 1) := by decide +kernel
theorem dX6_go_112 : decode cX6_go 112 = .ok (.return_, 1) := by decide +kernel
theorem dX6_addTo_0 : decode cX6_addTo 0 = .ok (.aload_n 0, 1) := by decide +kernel
theorem dX6_addTo_1 : decode cX6_addTo 1 = .ok (.iconst 0, 1) := by decide +kernel
theorem dX6_addTo_2 : decode cX6_addTo 2 = .ok (.iaload, 1) := by decide +kernel
theorem dX6_addTo_3 : decode cX6_addTo 3 = .ok (.istore 5, 2) := by decide +kernel
theorem dX6_addTo_5 : decode cX6_addTo 5 = .ok (.aload_n 0, 1) := by decide +kernel
theorem dX6_addTo_6 : decode cX6_addTo 6 = .ok (.iload 5, 2) := by decide +kernel
theorem dX6_addTo_8 : decode cX6_addTo 8 = .ok (.iconst 0, 1) := by decide +kernel
theorem dX6_addTo_9 : decode cX6_addTo 9 = .ok (.invokestatic 53, 3) := by decide +kernel
theorem dX6_addTo_12 : decode cX6_addTo 12 = .ok (.iload_n 1, 1) := by decide +kernel
theorem dX6_addTo_13 : decode cX6_addTo 13 = .ok (.iastore, 1) := by decide +kernel
theorem dX6_addTo_14 : decode cX6_addTo 14 = .ok (.aload_n 0, 1) := by decide +kernel
theorem dX6_addTo_15 : decode cX6_addTo 15 = .ok (.iload 5, 2) := by decide +kernel
theorem dX6_addTo_17 : decode cX6_addTo 17 = .ok (.iconst 1, 1) := by decide +kernel
theorem dX6_addTo_18 : decode cX6_addTo 18 = .ok (.invokestatic 53, 3) := by decide +kernel
theorem dX6_addTo_21 : decode cX6_addTo 21 = .ok (.iload_n 2, 1) := by decide +kernel
theorem dX6_addTo_22 : decode cX6_addTo 22 = .ok (.iastore, 1) := by decide +kernel
theorem dX6_addTo_23 : decode cX6_addTo 23 = .ok (.aload_n 0, 1) := by decide +kernel
theorem dX6_addTo_24 : decode cX6_addTo 24 = .ok (.iload 5, 2) := by decide +kernel
theorem dX6_addTo_26 : decode cX6_addTo 26 = .ok (.iconst 2, 1) := by decide +kernel
theorem dX6_addTo_27 : decode cX6_addTo 27 = .ok (.invokestatic 53, 3) := by decide +kernel
theorem dX6_addTo_30 : decode cX6_addTo 30 = .ok (.iload_n 3, 1) := by decide +kernel
theorem dX6_addTo_31 : decode cX6_addTo 31 = .ok (.iastore, 1) := by decide +kernel
theorem dX6_addTo_32 : decode cX6_addTo 32 = .ok (.aload_n 0, 1) := by decide +kernel
theorem dX6_addTo_33 : decode cX6_addTo 33 = .ok (.iload 5, 2) := by decide +kernel
theorem dX6_addTo_35 : decode cX6_addTo 35 = .ok (.iconst 3, 1) := by decide +kernel
theorem dX6_addTo_36 : decode cX6_addTo 36 = .ok (.invokestatic 53, 3) := by decide +kernel
theorem dX6_addTo_39 : decode cX6_addTo 39 = .ok (.iload 4, 2) := by decide +kernel
theorem dX6_addTo_41 : decode cX6_addTo 41 = .ok (.iastore, 1) := by decide +kernel
theorem dX6_addTo_42 : decode cX6_addTo 42 = .ok (.aload_n 0, 1) := by decide +kernel
theorem dX6_addTo_43 : decode cX6_addTo 43 = .ok (.iconst 0, 1) := by decide +kernel
theorem dX6_addTo_44 : decode cX6_addTo 44 = .ok (.dup2, 1) := by decide +kernel
theorem dX6_addTo_45 : decode cX6_addTo 45 = .ok (.iaload, 1) := by decide +kernel
theorem dX6_addTo_46 : decode cX6_addTo 46 = .ok (.iconst 1, 1) := by decide +kernel
theorem dX6_addTo_47 : decode cX6_addTo 47 = .ok (.iadd, 1) := by decide +kernel
theorem dX6_addTo_48 : decode cX6_addTo 48 = .ok (.iastore, 1) := by decide +kernel
theorem dX6_addTo_49 : decode cX6_addTo 49 = .ok (.aload_n 0, 1) := by decide +kernel
theorem dX6_addTo_50 : decode cX6_addTo 50 = .ok (.bipush 9, 2) := by decide +kernel
theorem dX6_addTo_52 : decode cX6_addTo 52 = .ok (.iconst 2, 1) := by decide +kernel
theorem dX6_addTo_53 : decode cX6_addTo 53 = .ok (.iload 5, 2) := by decide +kernel
theorem dX6_addTo_55 : decode cX6_addTo 55 = .ok (.iadd, 1) := by decide +kernel
theorem dX6_addTo_56 : decode cX6_addTo 56 = .ok (.sipush 150, 3) := by decide +kernel
theorem dX6_addTo_59 : decode cX6_addTo 59 = .ok (.iload_n 1, 1) := by decide +kernel
theorem dX6_addTo_60 : decode cX6_addTo 60 = .ok (.imul, 1) := by decide +kernel
theorem dX6_addTo_61 : decode cX6_addTo 61 = .ok (.invokestatic 69, 3) := by decide +kernel
theorem dX6_addTo_64 : decode cX6_addTo 64 = .ok (.return_, 1) := by decide +kernel
theorem dX6_wish_0 : decode cX6_wish 0 = .ok (.aload_n 0, 1) := by decide +kernel
theorem dX6_wish_1 : decode cX6_wish 1 = .ok (.iconst 2, 1) := by decide +kernel
theorem dX6_wish_2 : decode cX6_wish 2 = .ok (.iaload, 1) := by decide +kernel
theorem dX6_wish_3 : decode cX6_wish 3 = .ok (.bipush 20, 2) := by decide +kernel
theorem dX6_wish_5 : decode cX6_wish 5 = .ok (.if_icmp .lt 6, 3) := by decide +kernel
theorem dX6_wish_8 : decode cX6_wish 8 = .ok (.bipush 20, 2) := by decide +kernel
theorem dX6_wish_10 : decode cX6_wish 10 = .ok (.ireturn, 1) := by decide +kernel
theorem dX6_wish_11 : decode cX6_wish 11 = .ok (.bipush 20, 2) := by decide +kernel
theorem dX6_wish_13 : decode cX6_wish 13 = .ok (.aload_n 0, 1) := by decide +kernel
theorem dX6_wish_14 : decode cX6_wish 14 = .ok (.bipush 13, 2) := by decide +kernel
theorem dX6_wish_16 : decode cX6_wish 16 = .ok (.iaload, 1) := by decide +kernel
theorem dX6_wish_17 : decode cX6_wish 17 = .ok (.bipush 20, 2) := by decide +kernel
theorem dX6_wish_19 : decode cX6_wish 19 = .ok (.aload_n 0, 1) := by decide +kernel
theorem dX6_wish_20 : decode cX6_wish 20 = .ok (.iconst 2, 1) := by decide +kernel
theorem dX6_wish_21 : decode cX6_wish 21 = .ok (.iaload, 1) := by decide +kernel
theorem dX6_wish_22 : decode cX6_wish 22 = .ok (.isub, 1) := by decide +kernel
theorem dX6_wish_23 : decode cX6_wish 23 = .ok (.imul, 1) := by decide +kernel
theorem dX6_wish_24 : decode cX6_wish 24 = .ok (.bipush 10, 2) := by decide +kernel
theorem dX6_wish_26 : decode cX6_wish 26 = .ok (.idiv, 1) := by decide +kernel
theorem dX6_wish_27 : decode cX6_wish 27 = .ok (.iadd, 1) := by decide +kernel
theorem dX6_wish_28 : decode cX6_wish 28 = .ok (.istore_n 1, 1) := by decide +kernel
theorem dX6_wish_29 : decode cX6_wish 29 = .ok (.iload_n 1, 1) := by decide +kernel
theorem dX6_wish_30 : decode cX6_wish 30 = .ok (.bipush 70, 2) := by decide +kernel
theorem dX6_wish_32 : decode cX6_wish 32 = .ok (.if_icmp .le 8, 3) := by decide +kernel
theorem dX6_wish_35 : decode cX6_wish 35 = .ok (.bipush 70, 2) := by decide +kernel
theorem dX6_wish_37 : decode cX6_wish 37 = .ok (.goto 4, 3) := by decide +kernel
theorem dX6_wish_40 : decode cX6_wish 40 = .ok (.iload_n 1, 1) := by decide +kernel
theorem dX6_wish_41 : decode cX6_wish 41 = .ok (.ireturn, 1) := by decide +kernel
theorem dX6_goSeason_0 : decode cX6_goSeason 0 = .ok (.aload_n 0, 1) := by decide +kernel
theorem dX6_goSeason_1 : decode cX6_goSeason 1 = .ok (.iconst 2, 1) := by decide +kernel
theorem dX6_goSeason_2 : decode cX6_goSeason 2 = .ok (.iaload, 1) := by decide +kernel
theorem dX6_goSeason_3 : decode cX6_goSeason 3 = .ok (.aload_n 0, 1) := by decide +kernel
theorem dX6_goSeason_4 : decode cX6_goSeason 4 = .ok (.bipush 17, 2) := by decide +kernel
theorem dX6_goSeason_6 : decode cX6_goSeason 6 = .ok (.iaload, 1) := by decide +kernel
theorem dX6_goSeason_7 : decode cX6_goSeason 7 = .ok (.if_icmp .lt 7, 3) := by decide +kernel
theorem dX6_goSeason_10 : decode cX6_goSeason 10 = .ok (.iconst 1, 1) := by decide +kernel
theorem dX6_goSeason_11 : decode cX6_goSeason 11 = .ok (.goto 4, 3) := by decide +kernel
theorem dX6_goSeason_14 : decode cX6_goSeason 14 = .ok (.iconst 0, 1) := by decide +kernel
theorem dX6_goSeason_15 : decode cX6_goSeason 15 = .ok (.istore_n 1, 1) := by decide +kernel
theorem dX6_goSeason_16 : decode cX6_goSeason 16 = .ok (.aload_n 0, 1) := by decide +kernel
theorem dX6_goSeason_17 : decode cX6_goSeason 17 = .ok (.bipush 7, 2) := by decide +kernel
theorem dX6_goSeason_19 : decode cX6_goSeason 19 = .ok (.iload_n 1, 1) := by decide +kernel
theorem dX6_goSeason_20 : decode cX6_goSeason 20 = .ok (.aload_n 0, 1) := by decide +kernel
theorem dX6_goSeason_21 : decode cX6_goSeason 21 = .ok (.bipush 6, 2) := by decide +kernel
theorem dX6_goSeason_23 : decode cX6_goSeason 23 = .ok (.iaload, 1) := by decide +kernel
theorem dX6_goSeason_24 : decode cX6_goSeason 24 = .ok (.ifCond .ne 7, 3) := by decide +kernel
theorem dX6_goSeason_27 : decode cX6_goSeason 27 = .ok (.iconst 1, 1) := by decide +kernel
theorem dX6_goSeason_28 : decode cX6_goSeason 28 = .ok (.goto 4, 3) := by decide +kernel
theorem dX6_goSeason_31 : decode cX6_goSeason 31 = .ok (.iconst 0, 1) := by decide +kernel
theorem dX6_goSeason_32 : decode cX6_goSeason 32 = .ok (.if_icmp .ne 12, 3) := by decide +kernel
theorem dX6_goSeason_35 : decode cX6_goSeason 35 = .ok (.aload_n 0, 1) := by decide +kernel
theorem dX6_goSeason_36 : decode cX6_goSeason 36 = .ok (.bipush 7, 2) := by decide +kernel
theorem dX6_goSeason_38 : decode cX6_goSeason 38 = .ok (.iaload, 1) := by decide +kernel
theorem dX6_goSeason_39 : decode cX6_goSeason 39 = .ok (.iconst 1, 1) := by decide +kernel
theorem dX6_goSeason_40 : decode cX6_goSeason 40 = .ok (.iadd, 1) := by decide +kernel
theorem dX6_goSeason_41 : decode cX6_goSeason 41 = .ok (.goto 4, 3) := by decide +kernel
theorem dX6_goSeason_44 : decode cX6_goSeason 44 = .ok (.iconst 0, 1) := by decide +kernel
theorem dX6_goSeason_45 : decode cX6_goSeason 45 = .ok (.iastore, 1) := by decide +kernel
theorem dX6_goSeason_46 : decode cX6_goSeason 46 = .ok (.aload_n 0, 1) := by decide +kernel
theorem dX6_goSeason_47 : decode cX6_goSeason 47 = .ok (.bipush 7, 2) := by decide +kernel
theorem dX6_goSeason_49 : decode cX6_goSeason 49 = .ok (.iaload, 1) := by decide +kernel
theorem dX6_goSeason_50 : decode cX6_goSeason 50 = .ok (.bipush 60, 2) := by decide +kernel
theorem dX6_goSeason_52 : decode cX6_goSeason 52 = .ok (.if_icmp .ne 18, 3) := by decide +kernel
theorem dX6_goSeason_55 : decode cX6_goSeason 55 = .ok (.aload_n 0, 1) := by decide +kernel
theorem dX6_goSeason_56 : decode cX6_goSeason 56 = .ok (.bipush 6, 2) := by decide +kernel
theorem dX6_goSeason_58 : decode cX6_goSeason 58 = .ok (.iconst 1, 1) := by decide +kernel
theorem dX6_goSeason_59 : decode cX6_goSeason 59 = .ok (.aload_n 0, 1) := by decide +kernel
theorem dX6_goSeason_60 : decode cX6_goSeason 60 = .ok (.bipush 6, 2) := by decide +kernel
theorem dX6_goSeason_62 : decode cX6_goSeason 62 = .ok (.iaload, 1) := by decide +kernel
theorem dX6_goSeason_63 : decode cX6_goSeason 63 = .ok (.isub, 1) := by decide +kernel
theorem dX6_goSeason_64 : decode cX6_goSeason 64 = .ok (.iastore, 1) := by decide +kernel
theorem dX6_goSeason_65 : decode cX6_goSeason 65 = .ok (.aload_n 0, 1) := by decide +kernel
theorem dX6_goSeason_66 : decode cX6_goSeason 66 = .ok (.bipush 7, 2) := by decide +kernel
theorem dX6_goSeason_68 : decode cX6_goSeason 68 = .ok (.iconst 0, 1) := by decide +kernel
theorem dX6_goSeason_69 : decode cX6_goSeason 69 = .ok (.iastore, 1) := by decide +kernel
theorem dX6_goSeason_70 : decode cX6_goSeason 70 = .ok (.return_, 1) := by decide +kernel
theorem dX6_turn_0 : decode cX6_turn 0 = .ok (.aload_n 0, 1) := by decide +kernel
theorem dX6_turn_1 : decode cX6_turn 1 = .ok (.iconst 3, 1) := by decide +kernel
theorem dX6_turn_2 : decode cX6_turn 2 = .ok (.iload_n 1, 1) := by decide +kernel
theorem dX6_turn_3 : decode cX6_turn 3 = .ok (.iastore, 1) := by decide +kernel
theorem dX6_turn_4 : decode cX6_turn 4 = .ok (.aload_n 0, 1) := by decide +kernel
theorem dX6_turn_5 : decode cX6_turn 5 = .ok (.iconst 4, 1) := by decide +kernel
theorem dX6_turn_6 : decode cX6_turn 6 = .ok (.aload_n 0, 1) := by decide +kernel
theorem dX6_turn_7 : decode cX6_turn 7 = .ok (.iconst 1, 1) := by decide +kernel
theorem dX6_turn_8 : decode cX6_turn 8 = .ok (.iaload, 1) := by decide +kernel
theorem dX6_turn_9 : decode cX6_turn 9 = .ok (.iastore, 1) := by decide +kernel
theorem dX6_turn_10 : decode cX6_turn 10 = .ok (.aload_n 0, 1) := by decide +kernel
theorem dX6_turn_11 : decode cX6_turn 11 = .ok (.bipush 8, 2) := by decide +kernel
theorem dX6_turn_13 : decode cX6_turn 13 = .ok (.dup2, 1) := by decide +kernel
theorem dX6_turn_14 : decode cX6_turn 14 = .ok (.iaload, 1) := by decide +kernel
theorem dX6_turn_15 : decode cX6_turn 15 = .ok (.iload_n 1, 1) := by decide +kernel
theorem dX6_turn_16 : decode cX6_turn 16 = .ok (.iadd, 1) := by decide +kernel
theorem dX6_turn_17 : decode cX6_turn 17 = .ok (.iastore, 1) := by decide +kernel
theorem dX6_turn_18 : decode cX6_turn 18 = .ok (.return_, 1) := by decide +kernel
theorem dX6_goBoiler_0 : decode cX6_goBoiler 0 = .ok (.aload_n 0, 1) := by decide +kernel
theorem dX6_goBoiler_1 : decode cX6_goBoiler 1 = .ok (.iconst 0, 1) := by decide +kernel
theorem dX6_goBoiler_2 : decode cX6_goBoiler 2 = .ok (.invokestatic 73, 3) := by decide +kernel
theorem dX6_goBoiler_5 : decode cX6_goBoiler 5 = .ok (.istore_n 1, 1) := by decide +kernel
theorem dX6_goBoiler_6 : decode cX6_goBoiler 6 = .ok (.aload_n 0, 1) := by decide +kernel
theorem dX6_goBoiler_7 : decode cX6_goBoiler 7 = .ok (.iconst 1, 1) := by decide +kernel
theorem dX6_goBoiler_8 : decode cX6_goBoiler 8 = .ok (.iaload, 1) := by decide +kernel
theorem dX6_goBoiler_9 : decode cX6_goBoiler 9 = .ok (.aload_n 0, 1) := by decide +kernel
theorem dX6_goBoiler_10 : decode cX6_goBoiler 10 = .ok (.iconst 4, 1) := by decide +kernel
theorem dX6_goBoiler_11 : decode cX6_goBoiler 11 = .ok (.iaload, 1) := by decide +kernel
theorem dX6_goBoiler_12 : decode cX6_goBoiler 12 = .ok (.isub, 1) := by decide +kernel
theorem dX6_goBoiler_13 : decode cX6_goBoiler 13 = .ok (.istore_n 2, 1) := by decide +kernel
theorem dX6_goBoiler_14 : decode cX6_goBoiler 14 = .ok (.aload_n 0, 1) := by decide +kernel
theorem dX6_goBoiler_15 : decode cX6_goBoiler 15 = .ok (.iconst 3, 1) := by decide +kernel
theorem dX6_goBoiler_16 : decode cX6_goBoiler 16 = .ok (.iaload, 1) := by decide +kernel
theorem dX6_goBoiler_17 : decode cX6_goBoiler 17 = .ok (.iconst 1, 1) := by decide +kernel
theorem dX6_goBoiler_18 : decode cX6_goBoiler 18 = .ok (.if_icmp .ne 53, 3) := by decide +kernel
theorem dX6_goBoiler_21 : decode cX6_goBoiler 21 = .ok (.iload_n 2, 1) := by decide +kernel
theorem dX6_goBoiler_22 : decode cX6_goBoiler 22 = .ok (.aload_n 0, 1) := by decide +kernel
theorem dX6_goBoiler_23 : decode cX6_goBoiler 23 = .ok (.bipush 11, 2) := by decide +kernel
theorem dX6_goBoiler_25 : decode cX6_goBoiler 25 = .ok (.iaload, 1) := by decide +kernel
theorem dX6_goBoiler_26 : decode cX6_goBoiler 26 = .ok (.if_icmp .lt 25, 3) := by decide +kernel
theorem dX6_goBoiler_29 : decode cX6_goBoiler 29 = .ok (.aload_n 0, 1) := by decide +kernel
theorem dX6_goBoiler_30 : decode cX6_goBoiler 30 = .ok (.bipush 6, 2) := by decide +kernel
theorem dX6_goBoiler_32 : decode cX6_goBoiler 32 = .ok (.iaload, 1) := by decide +kernel
theorem dX6_goBoiler_33 : decode cX6_goBoiler 33 = .ok (.iconst 1, 1) := by decide +kernel
theorem dX6_goBoiler_34 : decode cX6_goBoiler 34 = .ok (.if_icmp .eq 13, 3) := by decide +kernel
theorem dX6_goBoiler_37 : decode cX6_goBoiler 37 = .ok (.iload_n 1, 1) := by decide +kernel
theorem dX6_goBoiler_38 : decode cX6_goBoiler 38 = .ok (.aload_n 0, 1) := by decide +kernel
theorem dX6_goBoiler_39 : decode cX6_goBoiler 39 = .ok (.bipush 10, 2) := by decide +kernel
theorem dX6_goBoiler_41 : decode cX6_goBoiler 41 = .ok (.iaload, 1) := by decide +kernel
theorem dX6_goBoiler_42 : decode cX6_goBoiler 42 = .ok (.iconst 5, 1) := by decide +kernel
theorem dX6_goBoiler_43 : decode cX6_goBoiler 43 = .ok (.iadd, 1) := by decide +kernel
theorem dX6_goBoiler_44 : decode cX6_goBoiler 44 = .ok (.if_icmp .lt 7, 3) := by decide +kernel
theorem dX6_goBoiler_47 : decode cX6_goBoiler 47 = .ok (.iconst 1, 1) := by decide +kernel
theorem dX6_goBoiler_48 : decode cX6_goBoiler 48 = .ok (.goto 4, 3) := by decide +kernel
theorem dX6_goBoiler_51 : decode cX6_goBoiler 51 = .ok (.iconst 0, 1) := by decide +kernel
theorem dX6_goBoiler_52 : decode cX6_goBoiler 52 = .ok (.istore_n 3, 1) := by decide +kernel
theorem dX6_goBoiler_53 : decode cX6_goBoiler 53 = .ok (.iload_n 1, 1) := by decide +kernel
theorem dX6_goBoiler_54 : decode cX6_goBoiler 54 = .ok (.bipush 90, 2) := by decide +kernel
theorem dX6_goBoiler_56 : decode cX6_goBoiler 56 = .ok (.if_icmp .ge 7, 3) := by decide +kernel
theorem dX6_goBoiler_59 : decode cX6_goBoiler 59 = .ok (.iload_n 3, 1) := by decide +kernel
theorem dX6_goBoiler_60 : decode cX6_goBoiler 60 = .ok (.ifCond .eq 8, 3) := by decide +kernel
theorem dX6_goBoiler_63 : decode cX6_goBoiler 63 = .ok (.aload_n 0, 1) := by decide +kernel
theorem dX6_goBoiler_64 : decode cX6_goBoiler 64 = .ok (.iconst 0, 1) := by decide +kernel
theorem dX6_goBoiler_65 : decode cX6_goBoiler 65 = .ok (.invokestatic 76, 3) := by decide +kernel
theorem dX6_goBoiler_68 : decode cX6_goBoiler 68 = .ok (.goto 38, 3) := by decide +kernel
theorem dX6_goBoiler_71 : decode cX6_goBoiler 71 = .ok (.iload_n 2, 1) := by decide +kernel
theorem dX6_goBoiler_72 : decode cX6_goBoiler 72 = .ok (.aload_n 0, 1) := by decide +kernel
theorem dX6_goBoiler_73 : decode cX6_goBoiler 73 = .ok (.bipush 12, 2) := by decide +kernel
theorem dX6_goBoiler_75 : decode cX6_goBoiler 75 = .ok (.iaload, 1) := by decide +kernel
theorem dX6_goBoiler_76 : decode cX6_goBoiler 76 = .ok (.if_icmp .lt 30, 3) := by decide +kernel
theorem dX6_goBoiler_79 : decode cX6_goBoiler 79 = .ok (.aload_n 0, 1) := by decide +kernel
theorem dX6_goBoiler_80 : decode cX6_goBoiler 80 = .ok (.bipush 6, 2) := by decide +kernel
theorem dX6_goBoiler_82 : decode cX6_goBoiler 82 = .ok (.iaload, 1) := by decide +kernel
theorem dX6_goBoiler_83 : decode cX6_goBoiler 83 = .ok (.ifCond .ne 23, 3) := by decide +kernel
theorem dX6_goBoiler_86 : decode cX6_goBoiler 86 = .ok (.aload_n 0, 1) := by decide +kernel
theorem dX6_goBoiler_87 : decode cX6_goBoiler 87 = .ok (.bipush 9, 2) := by decide +kernel
theorem dX6_goBoiler_89 : decode cX6_goBoiler 89 = .ok (.iaload, 1) := by decide +kernel
theorem dX6_goBoiler_90 : decode cX6_goBoiler 90 = .ok (.ifCond .eq 16, 3) := by decide +kernel
theorem dX6_goBoiler_93 : decode cX6_goBoiler 93 = .ok (.iload_n 1, 1) := by decide +kernel
theorem dX6_goBoiler_94 : decode cX6_goBoiler 94 = .ok (.aload_n 0, 1) := by decide +kernel
theorem dX6_goBoiler_95 : decode cX6_goBoiler 95 = .ok (.bipush 10, 2) := by decide +kernel
theorem dX6_goBoiler_97 : decode cX6_goBoiler 97 = .ok (.iaload, 1) := by decide +kernel
theorem dX6_goBoiler_98 : decode cX6_goBoiler 98 = .ok (.if_icmp .ge 8, 3) := by decide +kernel
theorem dX6_goBoiler_101 : decode cX6_goBoiler 101 = .ok (.aload_n 0, 1) := by decide +kernel
theorem dX6_goBoiler_102 : decode cX6_goBoiler 102 = .ok (.iconst 1, 1) := by decide +kernel
theorem dX6_goBoiler_103 : decode cX6_goBoiler 103 = .ok (.invokestatic 76, 3) := by decide +kernel
theorem dX6_goBoiler_106 : decode cX6_goBoiler 106 = .ok (.aload_n 0, 1) := by decide +kernel
theorem dX6_goBoiler_107 : decode cX6_goBoiler 107 = .ok (.iconst 3, 1) := by decide +kernel
theorem dX6_goBoiler_108 : decode cX6_goBoiler 108 = .ok (.iaload, 1) := by decide +kernel
theorem dX6_goBoiler_109 : decode cX6_goBoiler 109 = .ok (.iconst 1, 1) := by decide +kernel
theorem dX6_goBoiler_110 : decode cX6_goBoiler 110 = .ok (.if_icmp .ne 14, 3) := by decide +kernel
theorem dX6_goBoiler_113 : decode cX6_goBoiler 113 = .ok (.aload_n 0, 1) := by decide +kernel
theorem dX6_goBoiler_114 : decode cX6_goBoiler 114 = .ok (.bipush 9, 2) := by decide +kernel
theorem dX6_goBoiler_116 : decode cX6_goBoiler 116 = .ok (.iconst 0, 1) := by decide +kernel
theorem dX6_goBoiler_117 : decode cX6_goBoiler 117 = .ok (.aload_n 0, 1) := by decide +kernel
theorem dX6_goBoiler_118 : decode cX6_goBoiler 118 = .ok (.bipush 9, 2) := by decide +kernel
theorem dX6_goBoiler_120 : decode cX6_goBoiler 120 = .ok (.iaload, 1) := by decide +kernel
theorem dX6_goBoiler_121 : decode cX6_goBoiler 121 = .ok (.invokestatic 69, 3) := by decide +kernel
theorem dX6_goBoiler_124 : decode cX6_goBoiler 124 = .ok (.return_, 1) := by decide +kernel
theorem dX6_freeTarget_0 : decode cX6_freeTarget 0 = .ok (.aload_n 0, 1) := by decide +kernel
theorem dX6_freeTarget_1 : decode cX6_freeTarget 1 = .ok (.invokestatic 80, 3) := by decide +kernel
theorem dX6_freeTarget_4 : decode cX6_freeTarget 4 = .ok (.aload_n 0, 1) := by decide +kernel
theorem dX6_freeTarget_5 : decode cX6_freeTarget 5 = .ok (.iconst 1, 1) := by decide +kernel
theorem dX6_freeTarget_6 : decode cX6_freeTarget 6 = .ok (.invokestatic 73, 3) := by decide +kernel
theorem dX6_freeTarget_9 : decode cX6_freeTarget 9 = .ok (.isub, 1) := by decide +kernel
theorem dX6_freeTarget_10 : decode cX6_freeTarget 10 = .ok (.istore_n 1, 1) := by decide +kernel
theorem dX6_freeTarget_11 : decode cX6_freeTarget 11 = .ok (.iload_n 1, 1) := by decide +kernel
theorem dX6_freeTarget_12 : decode cX6_freeTarget 12 = .ok (.ifCond .gt 7, 3) := by decide +kernel
theorem dX6_freeTarget_15 : decode cX6_freeTarget 15 = .ok (.iconst 0, 1) := by decide +kernel
theorem dX6_freeTarget_16 : decode cX6_freeTarget 16 = .ok (.goto 18, 3) := by decide +kernel
theorem dX6_freeTarget_19 : decode cX6_freeTarget 19 = .ok (.iload_n 1, 1) := by decide +kernel
theorem dX6_freeTarget_20 : decode cX6_freeTarget 20 = .ok (.bipush 10, 2) := by decide +kernel
theorem dX6_freeTarget_22 : decode cX6_freeTarget 22 = .ok (.if_icmp .le 8, 3) := by decide +kernel
theorem dX6_freeTarget_25 : decode cX6_freeTarget 25 = .ok (.bipush 100, 2) := by decide +kernel
theorem dX6_freeTarget_27 : decode cX6_freeTarget 27 = .ok (.goto 7, 3) := by decide +kernel
theorem dX6_freeTarget_30 : decode cX6_freeTarget 30 = .ok (.bipush 10, 2) := by decide +kernel
theorem dX6_freeTarget_32 : decode cX6_freeTarget 32 = .ok (.iload_n 1, 1) := by decide +kernel
theorem dX6_freeTarget_33 : decode cX6_freeTarget 33 = .ok (.imul, 1) := by decide +kernel
theorem dX6_freeTarget_34 : decode cX6_freeTarget 34 = .ok (.ireturn, 1) := by decide +kernel
theorem dX6_isPinched_0 : decode cX6_isPinched 0 = .ok (.aload_n 0, 1) := by decide +kernel
theorem dX6_isPinched_1 : decode cX6_isPinched 1 = .ok (.iconst 0, 1) := by decide +kernel
theorem dX6_isPinched_2 : decode cX6_isPinched 2 = .ok (.invokestatic 73, 3) := by decide +kernel
theorem dX6_isPinched_5 : decode cX6_isPinched 5 = .ok (.aload_n 0, 1) := by decide +kernel
theorem dX6_isPinched_6 : decode cX6_isPinched 6 = .ok (.bipush 16, 2) := by decide +kernel
theorem dX6_isPinched_8 : decode cX6_isPinched 8 = .ok (.iaload, 1) := by decide +kernel
theorem dX6_isPinched_9 : decode cX6_isPinched 9 = .ok (.if_icmp .ge 16, 3) := by decide +kernel
theorem dX6_isPinched_12 : decode cX6_isPinched 12 = .ok (.aload_n 0, 1) := by decide +kernel
theorem dX6_isPinched_13 : decode cX6_isPinched 13 = .ok (.invokestatic 84, 3) := by decide +kernel
theorem dX6_isPinched_16 : decode cX6_isPinched 16 = .ok (.bipush 20, 2) := by decide +kernel
theorem dX6_isPinched_18 : decode cX6_isPinched 18 = .ok (.if_icmp .le 7, 3) := by decide +kernel
theorem dX6_isPinched_21 : decode cX6_isPinched 21 = .ok (.iconst 1, 1) := by decide +kernel
theorem dX6_isPinched_22 : decode cX6_isPinched 22 = .ok (.goto 4, 3) := by decide +kernel
theorem dX6_isPinched_25 : decode cX6_isPinched 25 = .ok (.iconst 0, 1) := by decide +kernel
theorem dX6_isPinched_26 : decode cX6_isPinched 26 = .ok (.ireturn, 1) := by decide +kernel
theorem dX6_goValve_0 : decode cX6_goValve 0 = .ok (.aload_n 0, 1) := by decide +kernel
theorem dX6_goValve_1 : decode cX6_goValve 1 = .ok (.bipush 6, 2) := by decide +kernel
theorem dX6_goValve_3 : decode cX6_goValve 3 = .ok (.iaload, 1) := by decide +kernel
theorem dX6_goValve_4 : decode cX6_goValve 4 = .ok (.iconst 1, 1) := by decide +kernel
theorem dX6_goValve_5 : decode cX6_goValve 5 = .ok (.if_icmp .ne 22, 3) := by decide +kernel
theorem dX6_goValve_8 : decode cX6_goValve 8 = .ok (.aload_n 0, 1) := by decide +kernel
theorem dX6_goValve_9 : decode cX6_goValve 9 = .ok (.iconst 5, 1) := by decide +kernel
theorem dX6_goValve_10 : decode cX6_goValve 10 = .ok (.aload_n 0, 1) := by decide +kernel
theorem dX6_goValve_11 : decode cX6_goValve 11 = .ok (.iconst 1, 1) := by decide +kernel
theorem dX6_goValve_12 : decode cX6_goValve 12 = .ok (.iaload, 1) := by decide +kernel
theorem dX6_goValve_13 : decode cX6_goValve 13 = .ok (.bipush 30, 2) := by decide +kernel
theorem dX6_goValve_15 : decode cX6_goValve 15 = .ok (.irem, 1) := by decide +kernel
theorem dX6_goValve_16 : decode cX6_goValve 16 = .ok (.ifCond .ne 8, 3) := by decide +kernel
theorem dX6_goValve_19 : decode cX6_goValve 19 = .ok (.bipush 100, 2) := by decide +kernel
theorem dX6_goValve_21 : decode cX6_goValve 21 = .ok (.goto 4, 3) := by decide +kernel
theorem dX6_goValve_24 : decode cX6_goValve 24 = .ok (.iconst 0, 1) := by decide +kernel
theorem dX6_goValve_25 : decode cX6_goValve 25 = .ok (.iastore, 1) := by decide +kernel
theorem dX6_goValve_26 : decode cX6_goValve 26 = .ok (.return_, 1) := by decide +kernel
theorem dX6_goValve_27 : decode cX6_goValve 27 = .ok (.aload_n 0, 1) := by decide +kernel
theorem dX6_goValve_28 : decode cX6_goValve 28 = .ok (.invokestatic 87, 3) := by decide +kernel
theorem dX6_goValve_31 : decode cX6_goValve 31 = .ok (.ifCond .eq 8, 3) := by decide +kernel
theorem dX6_goValve_34 : decode cX6_goValve 34 = .ok (.bipush 20, 2) := by decide +kernel
theorem dX6_goValve_36 : decode cX6_goValve 36 = .ok (.goto 7, 3) := by decide +kernel
theorem dX6_goValve_39 : decode cX6_goValve 39 = .ok (.aload_n 0, 1) := by decide +kernel
theorem dX6_goValve_40 : decode cX6_goValve 40 = .ok (.invokestatic 84, 3) := by decide +kernel
theorem dX6_goValve_43 : decode cX6_goValve 43 = .ok (.aload_n 0, 1) := by decide +kernel
theorem dX6_goValve_44 : decode cX6_goValve 44 = .ok (.iconst 5, 1) := by decide +kernel
theorem dX6_goValve_45 : decode cX6_goValve 45 = .ok (.iaload, 1) := by decide +kernel
theorem dX6_goValve_46 : decode cX6_goValve 46 = .ok (.isub, 1) := by decide +kernel
theorem dX6_goValve_47 : decode cX6_goValve 47 = .ok (.istore_n 1, 1) := by decide +kernel
theorem dX6_goValve_48 : decode cX6_goValve 48 = .ok (.aload_n 0, 1) := by decide +kernel
theorem dX6_goValve_49 : decode cX6_goValve 49 = .ok (.bipush 14, 2) := by decide +kernel
theorem dX6_goValve_51 : decode cX6_goValve 51 = .ok (.iaload, 1) := by decide +kernel
theorem dX6_goValve_52 : decode cX6_goValve 52 = .ok (.istore_n 2, 1) := by decide +kernel
theorem dX6_goValve_53 : decode cX6_goValve 53 = .ok (.aload_n 0, 1) := by decide +kernel
theorem dX6_goValve_54 : decode cX6_goValve 54 = .ok (.iconst 5, 1) := by decide +kernel
theorem dX6_goValve_55 : decode cX6_goValve 55 = .ok (.dup2, 1) := by decide +kernel
theorem dX6_goValve_56 : decode cX6_goValve 56 = .ok (.iaload, 1) := by decide +kernel
theorem dX6_goValve_57 : decode cX6_goValve 57 = .ok (.iload_n 1, 1) := by decide +kernel
theorem dX6_goValve_58 : decode cX6_goValve 58 = .ok (.iload_n 2, 1) := by decide +kernel
theorem dX6_goValve_59 : decode cX6_goValve 59 = .ok (.if_icmp .le 7, 3) := by decide +kernel
theorem dX6_goValve_62 : decode cX6_goValve 62 = .ok (.iload_n 2, 1) := by decide +kernel
theorem dX6_goValve_63 : decode cX6_goValve 63 = .ok (.goto 15, 3) := by decide +kernel
theorem dX6_goValve_66 : decode cX6_goValve 66 = .ok (.iload_n 1, 1) := by decide +kernel
theorem dX6_goValve_67 : decode cX6_goValve 67 = .ok (.iload_n 2, 1) := by decide +kernel
theorem dX6_goValve_68 : decode cX6_goValve 68 = .ok (.ineg, 1) := by decide +kernel
theorem dX6_goValve_69 : decode cX6_goValve 69 = .ok (.if_icmp .ge 8, 3) := by decide +kernel
theorem dX6_goValve_72 : decode cX6_goValve 72 = .ok (.iload_n 2, 1) := by decide +kernel
theorem dX6_goValve_73 : decode cX6_goValve 73 = .ok (.ineg, 1) := by decide +kernel
theorem dX6_goValve_74 : decode cX6_goValve 74 = .ok (.goto 4, 3) := by decide +kernel
theorem dX6_goValve_77 : decode cX6_goValve 77 = .ok (.iload_n 1, 1) := by decide +kernel
theorem dX6_goValve_78 : decode cX6_goValve 78 = .ok (.iadd, 1) := by decide +kernel
theorem dX6_goValve_79 : decode cX6_goValve 79 = .ok (.iastore, 1) := by decide +kernel
theorem dX6_goValve_80 : decode cX6_goValve 80 = .ok (.return_, 1) := by decide +kernel
theorem dX6_goMixing_0 : decode cX6_goMixing 0 = .ok (.aload_n 0, 1) := by decide +kernel
theorem dX6_goMixing_1 : decode cX6_goMixing 1 = .ok (.iconst 0, 1) := by decide +kernel
theorem dX6_goMixing_2 : decode cX6_goMixing 2 = .ok (.invokestatic 73, 3) := by decide +kernel
theorem dX6_goMixing_5 : decode cX6_goMixing 5 = .ok (.aload_n 0, 1) := by decide +kernel
theorem dX6_goMixing_6 : decode cX6_goMixing 6 = .ok (.iconst 1, 1) := by decide +kernel
theorem dX6_goMixing_7 : decode cX6_goMixing 7 = .ok (.invokestatic 73, 3) := by decide +kernel
theorem dX6_goMixing_10 : decode cX6_goMixing 10 = .ok (.isub, 1) := by decide +kernel
theorem dX6_goMixing_11 : decode cX6_goMixing 11 = .ok (.istore_n 1, 1) := by decide +kernel
theorem dX6_goMixing_12 : decode cX6_goMixing 12 = .ok (.iload_n 1, 1) := by decide +kernel
theorem dX6_goMixing_13 : decode cX6_goMixing 13 = .ok (.ifCond .le 22, 3) := by decide +kernel
theorem dX6_goMixing_16 : decode cX6_goMixing 16 = .ok (.aload_n 0, 1) := by decide +kernel
theorem dX6_goMixing_17 : decode cX6_goMixing 17 = .ok (.iconst 0, 1) := by decide +kernel
theorem dX6_goMixing_18 : decode cX6_goMixing 18 = .ok (.iconst 1, 1) := by decide +kernel
theorem dX6_goMixing_19 : decode cX6_goMixing 19 = .ok (.aload_n 0, 1) := by decide +kernel
theorem dX6_goMixing_20 : decode cX6_goMixing 20 = .ok (.bipush 15, 2) := by decide +kernel
theorem dX6_goMixing_22 : decode cX6_goMixing 22 = .ok (.iaload, 1) := by decide +kernel
theorem dX6_goMixing_23 : decode cX6_goMixing 23 = .ok (.aload_n 0, 1) := by decide +kernel
theorem dX6_goMixing_24 : decode cX6_goMixing 24 = .ok (.iconst 5, 1) := by decide +kernel
theorem dX6_goMixing_25 : decode cX6_goMixing 25 = .ok (.iaload, 1) := by decide +kernel
theorem dX6_goMixing_26 : decode cX6_goMixing 26 = .ok (.imul, 1) := by decide +kernel
theorem dX6_goMixing_27 : decode cX6_goMixing 27 = .ok (.iload_n 1, 1) := by decide +kernel
theorem dX6_goMixing_28 : decode cX6_goMixing 28 = .ok (.imul, 1) := by decide +kernel
theorem dX6_goMixing_29 : decode cX6_goMixing 29 = .ok (.bipush 100, 2) := by decide +kernel
theorem dX6_goMixing_31 : decode cX6_goMixing 31 = .ok (.idiv, 1) := by decide +kernel
theorem dX6_goMixing_32 : decode cX6_goMixing 32 = .ok (.invokestatic 69, 3) := by decide +kernel
theorem dX6_goMixing_35 : decode cX6_goMixing 35 = .ok (.return_, 1) := by decide +kernel
theorem dX6_goRadiators_0 : decode cX6_goRadiators 0 = .ok (.aload_n 0, 1) := by decide +kernel
theorem dX6_goRadiators_1 : decode cX6_goRadiators 1 = .ok (.iconst 2, 1) := by decide +kernel
theorem dX6_goRadiators_2 : decode cX6_goRadiators 2 = .ok (.iload_n 1, 1) := by decide +kernel
theorem dX6_goRadiators_3 : decode cX6_goRadiators 3 = .ok (.iadd, 1) := by decide +kernel
theorem dX6_goRadiators_4 : decode cX6_goRadiators 4 = .ok (.invokestatic 73, 3) := by decide +kernel
theorem dX6_goRadiators_7 : decode cX6_goRadiators 7 = .ok (.istore_n 2, 1) := by decide +kernel
theorem dX6_goRadiators_8 : decode cX6_goRadiators 8 = .ok (.aload_n 0, 1) := by decide +kernel
theorem dX6_goRadiators_9 : decode cX6_goRadiators 9 = .ok (.iconst 1, 1) := by decide +kernel
theorem dX6_goRadiators_10 : decode cX6_goRadiators 10 = .ok (.invokestatic 73, 3) := by decide +kernel
theorem dX6_goRadiators_13 : decode cX6_goRadiators 13 = .ok (.iload_n 2, 1) := by decide +kernel
theorem dX6_goRadiators_14 : decode cX6_goRadiators 14 = .ok (.isub, 1) := by decide +kernel
theorem dX6_goRadiators_15 : decode cX6_goRadiators 15 = .ok (.istore_n 3, 1) := by decide +kernel
theorem dX6_goRadiators_16 : decode cX6_goRadiators 16 = .ok (.iload_n 2, 1) := by decide +kernel
theorem dX6_goRadiators_17 : decode cX6_goRadiators 17 = .ok (.aload_n 0, 1) := by decide +kernel
theorem dX6_goRadiators_18 : decode cX6_goRadiators 18 = .ok (.iload_n 1, 1) := by decide +kernel
theorem dX6_goRadiators_19 : decode cX6_goRadiators 19 = .ok (.iconst 1, 1) := by decide +kernel
theorem dX6_goRadiators_20 : decode cX6_goRadiators 20 = .ok (.invokestatic 53, 3) := by decide +kernel
theorem dX6_goRadiators_23 : decode cX6_goRadiators 23 = .ok (.iaload, 1) := by decide +kernel
theorem dX6_goRadiators_24 : decode cX6_goRadiators 24 = .ok (.if_icmp .ge 40, 3) := by decide +kernel
theorem dX6_goRadiators_27 : decode cX6_goRadiators 27 = .ok (.iload_n 3, 1) := by decide +kernel
theorem dX6_goRadiators_28 : decode cX6_goRadiators 28 = .ok (.ifCond .le 36, 3) := by decide +kernel
theorem dX6_goRadiators_31 : decode cX6_goRadiators 31 = .ok (.aload_n 0, 1) := by decide +kernel
theorem dX6_goRadiators_32 : decode cX6_goRadiators 32 = .ok (.iload_n 1, 1) := by decide +kernel
theorem dX6_goRadiators_33 : decode cX6_goRadiators 33 = .ok (.iconst 2, 1) := by decide +kernel
theorem dX6_goRadiators_34 : decode cX6_goRadiators 34 = .ok (.invokestatic 53, 3) := by decide +kernel
theorem dX6_goRadiators_37 : decode cX6_goRadiators 37 = .ok (.iaload, 1) := by decide +kernel
theorem dX6_goRadiators_38 : decode cX6_goRadiators 38 = .ok (.iload_n 3, 1) := by decide +kernel
theorem dX6_goRadiators_39 : decode cX6_goRadiators 39 = .ok (.imul, 1) := by decide +kernel
theorem dX6_goRadiators_40 : decode cX6_goRadiators 40 = .ok (.iconst 4, 1) := by decide +kernel
theorem dX6_goRadiators_41 : decode cX6_goRadiators 41 = .ok (.idiv, 1) := by decide +kernel
theorem dX6_goRadiators_42 : decode cX6_goRadiators 42 = .ok (.istore 4, 2) := by decide +kernel
theorem dX6_goRadiators_44 : decode cX6_goRadiators 44 = .ok (.aload_n 0, 1) := by decide +kernel
theorem dX6_goRadiators_45 : decode cX6_goRadiators 45 = .ok (.iconst 1, 1) := by decide +kernel
theorem dX6_goRadiators_46 : decode cX6_goRadiators 46 = .ok (.iconst 2, 1) := by decide +kernel
theorem dX6_goRadiators_47 : decode cX6_goRadiators 47 = .ok (.iload_n 1, 1) := by decide +kernel
theorem dX6_goRadiators_48 : decode cX6_goRadiators 48 = .ok (.iadd, 1) := by decide +kernel
theorem dX6_goRadiators_49 : decode cX6_goRadiators 49 = .ok (.iload 4, 2) := by decide +kernel
theorem dX6_goRadiators_51 : decode cX6_goRadiators 51 = .ok (.iconst 1, 1) := by decide +kernel
theorem dX6_goRadiators_52 : decode cX6_goRadiators 52 = .ok (.if_icmp .ge 7, 3) := by decide +kernel
theorem dX6_goRadiators_55 : decode cX6_goRadiators 55 = .ok (.iconst 1, 1) := by decide +kernel
theorem dX6_goRadiators_56 : decode cX6_goRadiators 56 = .ok (.goto 5, 3) := by decide +kernel
theorem dX6_goRadiators_59 : decode cX6_goRadiators 59 = .ok (.iload 4, 2) := by decide +kernel
theorem dX6_goRadiators_61 : decode cX6_goRadiators 61 = .ok (.invokestatic 69, 3) := by decide +kernel
theorem dX6_goRadiators_64 : decode cX6_goRadiators 64 = .ok (.return_, 1) := by decide +kernel
theorem dX6_goLeak_0 : decode cX6_goLeak 0 = .ok (.aload_n 0, 1) := by decide +kernel
theorem dX6_goLeak_1 : decode cX6_goLeak 1 = .ok (.iload_n 1, 1) := by decide +kernel
theorem dX6_goLeak_2 : decode cX6_goLeak 2 = .ok (.iconst 3, 1) := by decide +kernel
theorem dX6_goLeak_3 : decode cX6_goLeak 3 = .ok (.invokestatic 53, 3) := by decide +kernel
theorem dX6_goLeak_6 : decode cX6_goLeak 6 = .ok (.iaload, 1) := by decide +kernel
theorem dX6_goLeak_7 : decode cX6_goLeak 7 = .ok (.aload_n 0, 1) := by decide +kernel
theorem dX6_goLeak_8 : decode cX6_goLeak 8 = .ok (.iload_n 1, 1) := by decide +kernel
theorem dX6_goLeak_9 : decode cX6_goLeak 9 = .ok (.iconst 4, 1) := by decide +kernel
theorem dX6_goLeak_10 : decode cX6_goLeak 10 = .ok (.invokestatic 53, 3) := by decide +kernel
theorem dX6_goLeak_13 : decode cX6_goLeak 13 = .ok (.iaload, 1) := by decide +kernel
theorem dX6_goLeak_14 : decode cX6_goLeak 14 = .ok (.iconst 1, 1) := by decide +kernel
theorem dX6_goLeak_15 : decode cX6_goLeak 15 = .ok (.if_icmp .ne 7, 3) := by decide +kernel
theorem dX6_goLeak_18 : decode cX6_goLeak 18 = .ok (.iconst 3, 1) := by decide +kernel
theorem dX6_goLeak_19 : decode cX6_goLeak 19 = .ok (.goto 4, 3) := by decide +kernel
theorem dX6_goLeak_22 : decode cX6_goLeak 22 = .ok (.iconst 1, 1) := by decide +kernel
theorem dX6_goLeak_23 : decode cX6_goLeak 23 = .ok (.imul, 1) := by decide +kernel
theorem dX6_goLeak_24 : decode cX6_goLeak 24 = .ok (.istore_n 2, 1) := by decide +kernel
theorem dX6_goLeak_25 : decode cX6_goLeak 25 = .ok (.iload_n 2, 1) := by decide +kernel
theorem dX6_goLeak_26 : decode cX6_goLeak 26 = .ok (.aload_n 0, 1) := by decide +kernel
theorem dX6_goLeak_27 : decode cX6_goLeak 27 = .ok (.iconst 2, 1) := by decide +kernel
theorem dX6_goLeak_28 : decode cX6_goLeak 28 = .ok (.iload_n 1, 1) := by decide +kernel
theorem dX6_goLeak_29 : decode cX6_goLeak 29 = .ok (.iadd, 1) := by decide +kernel
theorem dX6_goLeak_30 : decode cX6_goLeak 30 = .ok (.invokestatic 73, 3) := by decide +kernel
theorem dX6_goLeak_33 : decode cX6_goLeak 33 = .ok (.aload_n 0, 1) := by decide +kernel
theorem dX6_goLeak_34 : decode cX6_goLeak 34 = .ok (.iconst 2, 1) := by decide +kernel
theorem dX6_goLeak_35 : decode cX6_goLeak 35 = .ok (.iaload, 1) := by decide +kernel
theorem dX6_goLeak_36 : decode cX6_goLeak 36 = .ok (.isub, 1) := by decide +kernel
theorem dX6_goLeak_37 : decode cX6_goLeak 37 = .ok (.imul, 1) := by decide +kernel
theorem dX6_goLeak_38 : decode cX6_goLeak 38 = .ok (.bipush 8, 2) := by decide +kernel
theorem dX6_goLeak_40 : decode cX6_goLeak 40 = .ok (.invokestatic 61, 3) := by decide +kernel
theorem dX6_goLeak_43 : decode cX6_goLeak 43 = .ok (.istore_n 3, 1) := by decide +kernel
theorem dX6_goLeak_44 : decode cX6_goLeak 44 = .ok (.aload_n 0, 1) := by decide +kernel
theorem dX6_goLeak_45 : decode cX6_goLeak 45 = .ok (.iconst 2, 1) := by decide +kernel
theorem dX6_goLeak_46 : decode cX6_goLeak 46 = .ok (.iload_n 1, 1) := by decide +kernel
theorem dX6_goLeak_47 : decode cX6_goLeak 47 = .ok (.iadd, 1) := by decide +kernel
theorem dX6_goLeak_48 : decode cX6_goLeak 48 = .ok (.bipush 8, 2) := by decide +kernel
theorem dX6_goLeak_50 : decode cX6_goLeak 50 = .ok (.iload_n 3, 1) := by decide +kernel
theorem dX6_goLeak_51 : decode cX6_goLeak 51 = .ok (.invokestatic 69, 3) := by decide +kernel
theorem dX6_goLeak_54 : decode cX6_goLeak 54 = .ok (.aload_n 0, 1) := by decide +kernel
theorem dX6_goLeak_55 : decode cX6_goLeak 55 = .ok (.bipush 8, 2) := by decide +kernel
theorem dX6_goLeak_57 : decode cX6_goLeak 57 = .ok (.iconst 2, 1) := by decide +kernel
theorem dX6_goLeak_58 : decode cX6_goLeak 58 = .ok (.iload_n 1, 1) := by decide +kernel
theorem dX6_goLeak_59 : decode cX6_goLeak 59 = .ok (.iadd, 1) := by decide +kernel
theorem dX6_goLeak_60 : decode cX6_goLeak 60 = .ok (.iload_n 3, 1) := by decide +kernel
theorem dX6_goLeak_61 : decode cX6_goLeak 61 = .ok (.ineg, 1) := by decide +kernel
theorem dX6_goLeak_62 : decode cX6_goLeak 62 = .ok (.invokestatic 69, 3) := by decide +kernel
theorem dX6_goLeak_65 : decode cX6_goLeak 65 = .ok (.return_, 1) := by decide +kernel
theorem dX6_feels_0 : decode cX6_feels 0 = .ok (.aload_n 0, 1) := by decide +kernel
theorem dX6_feels_1 : decode cX6_feels 1 = .ok (.iconst 2, 1) := by decide +kernel
theorem dX6_feels_2 : decode cX6_feels 2 = .ok (.iload_n 1, 1) := by decide +kernel
theorem dX6_feels_3 : decode cX6_feels 3 = .ok (.iadd, 1) := by decide +kernel
theorem dX6_feels_4 : decode cX6_feels 4 = .ok (.invokestatic 73, 3) := by decide +kernel
theorem dX6_feels_7 : decode cX6_feels 7 = .ok (.istore_n 2, 1) := by decide +kernel
theorem dX6_feels_8 : decode cX6_feels 8 = .ok (.aload_n 0, 1) := by decide +kernel
theorem dX6_feels_9 : decode cX6_feels 9 = .ok (.iload_n 1, 1) := by decide +kernel
theorem dX6_feels_10 : decode cX6_feels 10 = .ok (.iconst 1, 1) := by decide +kernel
theorem dX6_feels_11 : decode cX6_feels 11 = .ok (.invokestatic 53, 3) := by decide +kernel
theorem dX6_feels_14 : decode cX6_feels 14 = .ok (.iaload, 1) := by decide +kernel
theorem dX6_feels_15 : decode cX6_feels 15 = .ok (.istore_n 3, 1) := by decide +kernel
theorem dX6_feels_16 : decode cX6_feels 16 = .ok (.iload_n 2, 1) := by decide +kernel
theorem dX6_feels_17 : decode cX6_feels 17 = .ok (.iload_n 3, 1) := by decide +kernel
theorem dX6_feels_18 : decode cX6_feels 18 = .ok (.iconst 1, 1) := by decide +kernel
theorem dX6_feels_19 : decode cX6_feels 19 = .ok (.isub, 1) := by decide +kernel
theorem dX6_feels_20 : decode cX6_feels 20 = .ok (.if_icmp .ge 8, 3) := by decide +kernel
theorem dX6_feels_23 : decode cX6_feels 23 = .ok (.bipush 6, 2) := by decide +kernel
theorem dX6_feels_25 : decode cX6_feels 25 = .ok (.goto 16, 3) := by decide +kernel
theorem dX6_feels_28 : decode cX6_feels 28 = .ok (.iload_n 2, 1) := by decide +kernel
theorem dX6_feels_29 : decode cX6_feels 29 = .ok (.iload_n 3, 1) := by decide +kernel
theorem dX6_feels_30 : decode cX6_feels 30 = .ok (.iconst 2, 1) := by decide +kernel
theorem dX6_feels_31 : decode cX6_feels 31 = .ok (.iadd, 1) := by decide +kernel
theorem dX6_feels_32 : decode cX6_feels 32 = .ok (.if_icmp .le 8, 3) := by decide +kernel
theorem dX6_feels_35 : decode cX6_feels 35 = .ok (.bipush 7, 2) := by decide +kernel
theorem dX6_feels_37 : decode cX6_feels 37 = .ok (.goto 4, 3) := by decide +kernel
theorem dX6_feels_40 : decode cX6_feels 40 = .ok (.iconst 5, 1) := by decide +kernel
theorem dX6_feels_41 : decode cX6_feels 41 = .ok (.istore 4, 2) := by decide +kernel
theorem dX6_feels_43 : decode cX6_feels 43 = .ok (.aload_n 0, 1) := by decide +kernel
theorem dX6_feels_44 : decode cX6_feels 44 = .ok (.iload_n 1, 1) := by decide +kernel
theorem dX6_feels_45 : decode cX6_feels 45 = .ok (.iload 4, 2) := by decide +kernel
theorem dX6_feels_47 : decode cX6_feels 47 = .ok (.invokestatic 53, 3) := by decide +kernel
theorem dX6_feels_50 : decode cX6_feels 50 = .ok (.dup2, 1) := by decide +kernel
theorem dX6_feels_51 : decode cX6_feels 51 = .ok (.iaload, 1) := by decide +kernel
theorem dX6_feels_52 : decode cX6_feels 52 = .ok (.iconst 1, 1) := by decide +kernel
theorem dX6_feels_53 : decode cX6_feels 53 = .ok (.iadd, 1) := by decide +kernel
theorem dX6_feels_54 : decode cX6_feels 54 = .ok (.iastore, 1) := by decide +kernel
theorem dX6_feels_55 : decode cX6_feels 55 = .ok (.iload 4, 2) := by decide +kernel
theorem dX6_feels_57 : decode cX6_feels 57 = .ok (.iconst 5, 1) := by decide +kernel
theorem dX6_feels_58 : decode cX6_feels 58 = .ok (.if_icmp .ne 7, 3) := by decide +kernel
theorem dX6_feels_61 : decode cX6_feels 61 = .ok (.iconst 1, 1) := by decide +kernel
theorem dX6_feels_62 : decode cX6_feels 62 = .ok (.goto 4, 3) := by decide +kernel
theorem dX6_feels_65 : decode cX6_feels 65 = .ok (.iconst 0, 1) := by decide +kernel
theorem dX6_feels_66 : decode cX6_feels 66 = .ok (.ireturn, 1) := by decide +kernel
theorem dX6_goMinute_0 : decode cX6_goMinute 0 = .ok (.aload_n 0, 1) := by decide +kernel
theorem dX6_goMinute_1 : decode cX6_goMinute 1 = .ok (.invokestatic 91, 3) := by decide +kernel
theorem dX6_goMinute_4 : decode cX6_goMinute 4 = .ok (.aload_n 0, 1) := by decide +kernel
theorem dX6_goMinute_5 : decode cX6_goMinute 5 = .ok (.invokestatic 94, 3) := by decide +kernel
theorem dX6_goMinute_8 : decode cX6_goMinute 8 = .ok (.aload_n 0, 1) := by decide +kernel
theorem dX6_goMinute_9 : decode cX6_goMinute 9 = .ok (.invokestatic 97, 3) := by decide +kernel
theorem dX6_goMinute_12 : decode cX6_goMinute 12 = .ok (.aload_n 0, 1) := by decide +kernel
theorem dX6_goMinute_13 : decode cX6_goMinute 13 = .ok (.invokestatic 100, 3) := by decide +kernel
theorem dX6_goMinute_16 : decode cX6_goMinute 16 = .ok (.iconst 0, 1) := by decide +kernel
theorem dX6_goMinute_17 : decode cX6_goMinute 17 = .ok (.istore_n 1, 1) := by decide +kernel
theorem dX6_goMinute_18 : decode cX6_goMinute 18 = .ok (.iload_n 1, 1) := by decide +kernel
theorem dX6_goMinute_19 : decode cX6_goMinute 19 = .ok (.aload_n 0, 1) := by decide +kernel
theorem dX6_goMinute_20 : decode cX6_goMinute 20 = .ok (.iconst 0, 1) := by decide +kernel
theorem dX6_goMinute_21 : decode cX6_goMinute 21 = .ok (.iaload, 1) := by decide +kernel
theorem dX6_goMinute_22 : decode cX6_goMinute 22 = .ok (.if_icmp .ge 14, 3) := by decide +kernel
theorem dX6_goMinute_25 : decode cX6_goMinute 25 = .ok (.aload_n 0, 1) := by decide +kernel
theorem dX6_goMinute_26 : decode cX6_goMinute 26 = .ok (.iload_n 1, 1) := by decide +kernel
theorem dX6_goMinute_27 : decode cX6_goMinute 27 = .ok (.invokestatic 103, 3) := by decide +kernel
theorem dX6_goMinute_30 : decode cX6_goMinute 30 = .ok (.iinc 1 1, 3) := by decide +kernel
theorem dX6_goMinute_33 : decode cX6_goMinute 33 = .ok (.goto (-15), 3) := by decide +kernel
theorem dX6_goMinute_36 : decode cX6_goMinute 36 = .ok (.iconst 0, 1) := by decide +kernel
theorem dX6_goMinute_37 : decode cX6_goMinute 37 = .ok (.istore_n 1, 1) := by decide +kernel
theorem dX6_goMinute_38 : decode cX6_goMinute 38 = .ok (.iload_n 1, 1) := by decide +kernel
theorem dX6_goMinute_39 : decode cX6_goMinute 39 = .ok (.aload_n 0, 1) := by decide +kernel
theorem dX6_goMinute_40 : decode cX6_goMinute 40 = .ok (.iconst 0, 1) := by decide +kernel
theorem dX6_goMinute_41 : decode cX6_goMinute 41 = .ok (.iaload, 1) := by decide +kernel
theorem dX6_goMinute_42 : decode cX6_goMinute 42 = .ok (.if_icmp .ge 14, 3) := by decide +kernel
theorem dX6_goMinute_45 : decode cX6_goMinute 45 = .ok (.aload_n 0, 1) := by decide +kernel
theorem dX6_goMinute_46 : decode cX6_goMinute 46 = .ok (.iload_n 1, 1) := by decide +kernel
theorem dX6_goMinute_47 : decode cX6_goMinute 47 = .ok (.invokestatic 106, 3) := by decide +kernel
theorem dX6_goMinute_50 : decode cX6_goMinute 50 = .ok (.iinc 1 1, 3) := by decide +kernel
theorem dX6_goMinute_53 : decode cX6_goMinute 53 = .ok (.goto (-15), 3) := by decide +kernel
theorem dX6_goMinute_56 : decode cX6_goMinute 56 = .ok (.iconst 0, 1) := by decide +kernel
theorem dX6_goMinute_57 : decode cX6_goMinute 57 = .ok (.istore_n 1, 1) := by decide +kernel
theorem dX6_goMinute_58 : decode cX6_goMinute 58 = .ok (.iconst 0, 1) := by decide +kernel
theorem dX6_goMinute_59 : decode cX6_goMinute 59 = .ok (.istore_n 2, 1) := by decide +kernel
theorem dX6_goMinute_60 : decode cX6_goMinute 60 = .ok (.iload_n 2, 1) := by decide +kernel
theorem dX6_goMinute_61 : decode cX6_goMinute 61 = .ok (.aload_n 0, 1) := by decide +kernel
theorem dX6_goMinute_62 : decode cX6_goMinute 62 = .ok (.iconst 0, 1) := by decide +kernel
theorem dX6_goMinute_63 : decode cX6_goMinute 63 = .ok (.iaload, 1) := by decide +kernel
theorem dX6_goMinute_64 : decode cX6_goMinute 64 = .ok (.if_icmp .ge 25, 3) := by decide +kernel
theorem dX6_goMinute_67 : decode cX6_goMinute 67 = .ok (.iload_n 1, 1) := by decide +kernel
theorem dX6_goMinute_68 : decode cX6_goMinute 68 = .ok (.aload_n 0, 1) := by decide +kernel
theorem dX6_goMinute_69 : decode cX6_goMinute 69 = .ok (.iload_n 2, 1) := by decide +kernel
theorem dX6_goMinute_70 : decode cX6_goMinute 70 = .ok (.invokestatic 109, 3) := by decide +kernel
theorem dX6_goMinute_73 : decode cX6_goMinute 73 = .ok (.ifCond .eq 7, 3) := by decide +kernel
theorem dX6_goMinute_76 : decode cX6_goMinute 76 = .ok (.iconst 1, 1) := by decide +kernel
theorem dX6_goMinute_77 : decode cX6_goMinute 77 = .ok (.goto 4, 3) := by decide +kernel
theorem dX6_goMinute_80 : decode cX6_goMinute 80 = .ok (.iconst 0, 1) := by decide +kernel
theorem dX6_goMinute_81 : decode cX6_goMinute 81 = .ok (.iadd, 1) := by decide +kernel
theorem dX6_goMinute_82 : decode cX6_goMinute 82 = .ok (.istore_n 1, 1) := by decide +kernel
theorem dX6_goMinute_83 : decode cX6_goMinute 83 = .ok (.iinc 2 1, 3) := by decide +kernel
theorem dX6_goMinute_86 : decode cX6_goMinute 86 = .ok (.goto (-26), 3) := by decide +kernel
theorem dX6_goMinute_89 : decode cX6_goMinute 89 = .ok (.aload_n 0, 1) := by decide +kernel
theorem dX6_goMinute_90 : decode cX6_goMinute 90 = .ok (.iconst 1, 1) := by decide +kernel
theorem dX6_goMinute_91 : decode cX6_goMinute 91 = .ok (.dup2, 1) := by decide +kernel
theorem dX6_goMinute_92 : decode cX6_goMinute 92 = .ok (.iaload, 1) := by decide +kernel
theorem dX6_goMinute_93 : decode cX6_goMinute 93 = .ok (.iconst 1, 1) := by decide +kernel
theorem dX6_goMinute_94 : decode cX6_goMinute 94 = .ok (.iadd, 1) := by decide +kernel
theorem dX6_goMinute_95 : decode cX6_goMinute 95 = .ok (.iastore, 1) := by decide +kernel
theorem dX6_goMinute_96 : decode cX6_goMinute 96 = .ok (.iload_n 1, 1) := by decide +kernel
theorem dX6_goMinute_97 : decode cX6_goMinute 97 = .ok (.ireturn, 1) := by decide +kernel
theorem dX6_goMinutes_0 : decode cX6_goMinutes 0 = .ok (.iconst 0, 1) := by decide +kernel
theorem dX6_goMinutes_1 : decode cX6_goMinutes 1 = .ok (.istore_n 2, 1) := by decide +kernel
theorem dX6_goMinutes_2 : decode cX6_goMinutes 2 = .ok (.iconst 0, 1) := by decide +kernel
theorem dX6_goMinutes_3 : decode cX6_goMinutes 3 = .ok (.istore_n 3, 1) := by decide +kernel
theorem dX6_goMinutes_4 : decode cX6_goMinutes 4 = .ok (.iload_n 3, 1) := by decide +kernel
theorem dX6_goMinutes_5 : decode cX6_goMinutes 5 = .ok (.iload_n 1, 1) := by decide +kernel
theorem dX6_goMinutes_6 : decode cX6_goMinutes 6 = .ok (.if_icmp .ge 16, 3) := by decide +kernel
theorem dX6_goMinutes_9 : decode cX6_goMinutes 9 = .ok (.iload_n 2, 1) := by decide +kernel
theorem dX6_goMinutes_10 : decode cX6_goMinutes 10 = .ok (.aload_n 0, 1) := by decide +kernel
theorem dX6_goMinutes_11 : decode cX6_goMinutes 11 = .ok (.invokestatic 113, 3) := by decide +kernel
theorem dX6_goMinutes_14 : decode cX6_goMinutes 14 = .ok (.iadd, 1) := by decide +kernel
theorem dX6_goMinutes_15 : decode cX6_goMinutes 15 = .ok (.istore_n 2, 1) := by decide +kernel
theorem dX6_goMinutes_16 : decode cX6_goMinutes 16 = .ok (.iinc 3 1, 3) := by decide +kernel
theorem dX6_goMinutes_19 : decode cX6_goMinutes 19 = .ok (.goto (-15), 3) := by decide +kernel
theorem dX6_goMinutes_22 : decode cX6_goMinutes 22 = .ok (.iload_n 2, 1) := by decide +kernel
theorem dX6_goMinutes_23 : decode cX6_goMinutes 23 = .ok (.ireturn, 1) := by decide +kernel
theorem dX6_append_0 : decode cX6_append 0 = .ok (.aload_n 0, 1) := by decide +kernel
theorem dX6_append_1 : decode cX6_append 1 = .ok (.iload_n 1, 1) := by decide +kernel
theorem dX6_append_2 : decode cX6_append 2 = .ok (.i2l, 1) := by decide +kernel
theorem dX6_append_3 : decode cX6_append 3 = .ok (.lconst 0, 1) := by decide +kernel
theorem dX6_append_4 : decode cX6_append 4 = .ok (.ldc2_w 116, 3) := by decide +kernel
theorem dX6_append_7 : decode cX6_append 7 = .ok (.invokestatic 49, 3) := by decide +kernel
theorem dX6_append_10 : decode cX6_append 10 = .ok (.ifCond .ne 7, 3) := by decide +kernel
theorem dX6_append_13 : decode cX6_append 13 = .ok (.iconst 1, 1) := by decide +kernel
theorem dX6_append_14 : decode cX6_append 14 = .ok (.goto 17, 3) := by decide +kernel
theorem dX6_append_17 : decode cX6_append 17 = .ok (.aload_n 0, 1) := by decide +kernel
theorem dX6_append_18 : decode cX6_append 18 = .ok (.getfield 118, 3) := by decide +kernel
theorem dX6_append_21 : decode cX6_append 21 = .ok (.bipush 80, 2) := by decide +kernel
theorem dX6_append_23 : decode cX6_append 23 = .ok (.if_icmp .ne 7, 3) := by decide +kernel
theorem dX6_append_26 : decode cX6_append 26 = .ok (.iconst 2, 1) := by decide +kernel
theorem dX6_append_27 : decode cX6_append 27 = .ok (.goto 4, 3) := by decide +kernel
theorem dX6_append_30 : decode cX6_append 30 = .ok (.iconst 0, 1) := by decide +kernel
theorem dX6_append_31 : decode cX6_append 31 = .ok (.invokevirtual 121, 3) := by decide +kernel
theorem dX6_append_34 : decode cX6_append 34 = .ok (.ifCond .eq 5, 3) := by decide +kernel
theorem dX6_append_37 : decode cX6_append 37 = .ok (.iconst 0, 1) := by decide +kernel
theorem dX6_append_38 : decode cX6_append 38 = .ok (.ireturn, 1) := by decide +kernel
theorem dX6_append_39 : decode cX6_append 39 = .ok (.aload_n 0, 1) := by decide +kernel
theorem dX6_append_40 : decode cX6_append 40 = .ok (.getfield 7, 3) := by decide +kernel
theorem dX6_append_43 : decode cX6_append 43 = .ok (.aload_n 0, 1) := by decide +kernel
theorem dX6_append_44 : decode cX6_append 44 = .ok (.getfield 118, 3) := by decide +kernel
theorem dX6_append_47 : decode cX6_append 47 = .ok (.iload_n 1, 1) := by decide +kernel
theorem dX6_append_48 : decode cX6_append 48 = .ok (.iastore, 1) := by decide +kernel
theorem dX6_append_49 : decode cX6_append 49 = .ok (.aload_n 0, 1) := by decide +kernel
theorem dX6_append_50 : decode cX6_append 50 = .ok (.dup, 1) := by decide +kernel
theorem dX6_append_51 : decode cX6_append 51 = .ok (.getfield 118, 3) := by decide +kernel
theorem dX6_append_54 : decode cX6_append 54 = .ok (.iconst 1, 1) := by decide +kernel
theorem dX6_append_55 : decode cX6_append 55 = .ok (.iadd, 1) := by decide +kernel
theorem dX6_append_56 : decode cX6_append 56 = .ok (.putfield 118, 3) := by decide +kernel
theorem dX6_append_59 : decode cX6_append 59 = .ok (.aload_n 0, 1) := by decide +kernel
theorem dX6_append_60 : decode cX6_append 60 = .ok (.getfield 118, 3) := by decide +kernel
theorem dX6_append_63 : decode cX6_append 63 = .ok (.ireturn, 1) := by decide +kernel
theorem dX6_clearText_0 : decode cX6_clearText 0 = .ok (.aload_n 0, 1) := by decide +kernel
theorem dX6_clearText_1 : decode cX6_clearText 1 = .ok (.iconst 0, 1) := by decide +kernel
theorem dX6_clearText_2 : decode cX6_clearText 2 = .ok (.putfield 36, 3) := by decide +kernel
theorem dX6_clearText_5 : decode cX6_clearText 5 = .ok (.aload_n 0, 1) := by decide +kernel
theorem dX6_clearText_6 : decode cX6_clearText 6 = .ok (.getfield 118, 3) := by decide +kernel
theorem dX6_clearText_9 : decode cX6_clearText 9 = .ok (.istore_n 1, 1) := by decide +kernel
theorem dX6_clearText_10 : decode cX6_clearText 10 = .ok (.aload_n 0, 1) := by decide +kernel
theorem dX6_clearText_11 : decode cX6_clearText 11 = .ok (.iconst 0, 1) := by decide +kernel
theorem dX6_clearText_12 : decode cX6_clearText 12 = .ok (.putfield 118, 3) := by decide +kernel
theorem dX6_clearText_15 : decode cX6_clearText 15 = .ok (.iload_n 1, 1) := by decide +kernel
theorem dX6_clearText_16 : decode cX6_clearText 16 = .ok (.ireturn, 1) := by decide +kernel
theorem dX6_isNext_0 : decode cX6_isNext 0 = .ok (.aload_n 0, 1) := by decide +kernel
theorem dX6_isNext_1 : decode cX6_isNext 1 = .ok (.getfield 125, 3) := by decide +kernel
theorem dX6_isNext_4 : decode cX6_isNext 4 = .ok (.aload_n 0, 1) := by decide +kernel
theorem dX6_isNext_5 : decode cX6_isNext 5 = .ok (.getfield 118, 3) := by decide +kernel
theorem dX6_isNext_8 : decode cX6_isNext 8 = .ok (.if_icmp .ge 20, 3) := by decide +kernel
theorem dX6_isNext_11 : decode cX6_isNext 11 = .ok (.aload_n 0, 1) := by decide +kernel
theorem dX6_isNext_12 : decode cX6_isNext 12 = .ok (.getfield 7, 3) := by decide +kernel
theorem dX6_isNext_15 : decode cX6_isNext 15 = .ok (.aload_n 0, 1) := by decide +kernel
theorem dX6_isNext_16 : decode cX6_isNext 16 = .ok (.getfield 125, 3) := by decide +kernel
theorem dX6_isNext_19 : decode cX6_isNext 19 = .ok (.iaload, 1) := by decide +kernel
theorem dX6_isNext_20 : decode cX6_isNext 20 = .ok (.iload_n 1, 1) := by decide +kernel
theorem dX6_isNext_21 : decode cX6_isNext 21 = .ok (.if_icmp .ne 7, 3) := by decide +kernel
theorem dX6_isNext_24 : decode cX6_isNext 24 = .ok (.iconst 1, 1) := by decide +kernel
theorem dX6_isNext_25 : decode cX6_isNext 25 = .ok (.goto 4, 3) := by decide +kernel
theorem dX6_isNext_28 : decode cX6_isNext 28 = .ok (.iconst 0, 1) := by decide +kernel
theorem dX6_isNext_29 : decode cX6_isNext 29 = .ok (.ireturn, 1) := by decide +kernel
theorem dX6_accept_0 : decode cX6_accept 0 = .ok (.aload_n 0, 1) := by decide +kernel
theorem dX6_accept_1 : decode cX6_accept 1 = .ok (.aload_n 0, 1) := by decide +kernel
theorem dX6_accept_2 : decode cX6_accept 2 = .ok (.getfield 128, 3) := by decide +kernel
theorem dX6_accept_5 : decode cX6_accept 5 = .ok (.ifCond .eq 11, 3) := by decide +kernel
theorem dX6_accept_8 : decode cX6_accept 8 = .ok (.iload_n 1, 1) := by decide +kernel
theorem dX6_accept_9 : decode cX6_accept 9 = .ok (.ifCond .eq 7, 3) := by decide +kernel
theorem dX6_accept_12 : decode cX6_accept 12 = .ok (.iconst 1, 1) := by decide +kernel
theorem dX6_accept_13 : decode cX6_accept 13 = .ok (.goto 4, 3) := by decide +kernel
theorem dX6_accept_16 : decode cX6_accept 16 = .ok (.iconst 0, 1) := by decide +kernel
theorem dX6_accept_17 : decode cX6_accept 17 = .ok (.putfield 128, 3) := by decide +kernel
theorem dX6_accept_20 : decode cX6_accept 20 = .ok (.aload_n 0, 1) := by decide +kernel
theorem dX6_accept_21 : decode cX6_accept 21 = .ok (.dup, 1) := by decide +kernel
theorem dX6_accept_22 : decode cX6_accept 22 = .ok (.getfield 125, 3) := by decide +kernel
theorem dX6_accept_25 : decode cX6_accept 25 = .ok (.aload_n 0, 1) := by decide +kernel
theorem dX6_accept_26 : decode cX6_accept 26 = .ok (.getfield 128, 3) := by decide +kernel
theorem dX6_accept_29 : decode cX6_accept 29 = .ok (.ifCond .eq 7, 3) := by decide +kernel
theorem dX6_accept_32 : decode cX6_accept 32 = .ok (.iconst 1, 1) := by decide +kernel
theorem dX6_accept_33 : decode cX6_accept 33 = .ok (.goto 4, 3) := by decide +kernel
theorem dX6_accept_36 : decode cX6_accept 36 = .ok (.iconst 0, 1) := by decide +kernel
theorem dX6_accept_37 : decode cX6_accept 37 = .ok (.iadd, 1) := by decide +kernel
theorem dX6_accept_38 : decode cX6_accept 38 = .ok (.putfield 125, 3) := by decide +kernel
theorem dX6_accept_41 : decode cX6_accept 41 = .ok (.return_, 1) := by decide +kernel
theorem dX6_digit_0 : decode cX6_digit 0 = .ok (.aload_n 0, 1) := by decide +kernel
theorem dX6_digit_1 : decode cX6_digit 1 = .ok (.getfield 125, 3) := by decide +kernel
theorem dX6_digit_4 : decode cX6_digit 4 = .ok (.aload_n 0, 1) := by decide +kernel
theorem dX6_digit_5 : decode cX6_digit 5 = .ok (.getfield 118, 3) := by decide +kernel
theorem dX6_digit_8 : decode cX6_digit 8 = .ok (.if_icmp .ge 18, 3) := by decide +kernel
theorem dX6_digit_11 : decode cX6_digit 11 = .ok (.aload_n 0, 1) := by decide +kernel
theorem dX6_digit_12 : decode cX6_digit 12 = .ok (.getfield 7, 3) := by decide +kernel
theorem dX6_digit_15 : decode cX6_digit 15 = .ok (.aload_n 0, 1) := by decide +kernel
theorem dX6_digit_16 : decode cX6_digit 16 = .ok (.getfield 125, 3) := by decide +kernel
theorem dX6_digit_19 : decode cX6_digit 19 = .ok (.iaload, 1) := by decide +kernel
theorem dX6_digit_20 : decode cX6_digit 20 = .ok (.bipush 48, 2) := by decide +kernel
theorem dX6_digit_22 : decode cX6_digit 22 = .ok (.isub, 1) := by decide +kernel
theorem dX6_digit_23 : decode cX6_digit 23 = .ok (.goto 5, 3) := by decide +kernel
theorem dX6_digit_26 : decode cX6_digit 26 = .ok (.ldc 64, 2) := by decide +kernel
theorem dX6_digit_28 : decode cX6_digit 28 = .ok (.istore_n 3, 1) := by decide +kernel
theorem dX6_digit_29 : decode cX6_digit 29 = .ok (.aload_n 0, 1) := by decide +kernel
theorem dX6_digit_30 : decode cX6_digit 30 = .ok (.iload_n 3, 1) := by decide +kernel
theorem dX6_digit_31 : decode cX6_digit 31 = .ok (.i2l, 1) := by decide +kernel
theorem dX6_digit_32 : decode cX6_digit 32 = .ok (.lconst 0, 1) := by decide +kernel
theorem dX6_digit_33 : decode cX6_digit 33 = .ok (.ldc2_w 132, 3) := by decide +kernel
theorem dX6_digit_36 : decode cX6_digit 36 = .ok (.invokestatic 49, 3) := by decide +kernel
theorem dX6_digit_39 : decode cX6_digit 39 = .ok (.ifCond .eq 19, 3) := by decide +kernel
theorem dX6_digit_42 : decode cX6_digit 42 = .ok (.iload_n 3, 1) := by decide +kernel
theorem dX6_digit_43 : decode cX6_digit 43 = .ok (.i2l, 1) := by decide +kernel
theorem dX6_digit_44 : decode cX6_digit 44 = .ok (.iload_n 1, 1) := by decide +kernel
theorem dX6_digit_45 : decode cX6_digit 45 = .ok (.i2l, 1) := by decide +kernel
theorem dX6_digit_46 : decode cX6_digit 46 = .ok (.iload_n 2, 1) := by decide +kernel
theorem dX6_digit_47 : decode cX6_digit 47 = .ok (.i2l, 1) := by decide +kernel
theorem dX6_digit_48 : decode cX6_digit 48 = .ok (.invokestatic 49, 3) := by decide +kernel
theorem dX6_digit_51 : decode cX6_digit 51 = .ok (.ifCond .eq 7, 3) := by decide +kernel
theorem dX6_digit_54 : decode cX6_digit 54 = .ok (.iconst 1, 1) := by decide +kernel
theorem dX6_digit_55 : decode cX6_digit 55 = .ok (.goto 4, 3) := by decide +kernel
theorem dX6_digit_58 : decode cX6_digit 58 = .ok (.iconst 0, 1) := by decide +kernel
theorem dX6_digit_59 : decode cX6_digit 59 = .ok (.invokevirtual 134, 3) := by decide +kernel
theorem dX6_digit_62 : decode cX6_digit 62 = .ok (.aload_n 0, 1) := by decide +kernel
theorem dX6_digit_63 : decode cX6_digit 63 = .ok (.getfield 128, 3) := by decide +kernel
theorem dX6_digit_66 : decode cX6_digit 66 = .ok (.ifCond .eq 7, 3) := by decide +kernel
theorem dX6_digit_69 : decode cX6_digit 69 = .ok (.iload_n 3, 1) := by decide +kernel
theorem dX6_digit_70 : decode cX6_digit 70 = .ok (.goto 4, 3) := by decide +kernel
theorem dX6_digit_73 : decode cX6_digit 73 = .ok (.iload_n 1, 1) := by decide +kernel
theorem dX6_digit_74 : decode cX6_digit 74 = .ok (.ireturn, 1) := by decide +kernel
theorem dX6_two_0 : decode cX6_two 0 = .ok (.aload_n 0, 1) := by decide +kernel
theorem dX6_two_1 : decode cX6_two 1 = .ok (.iload_n 1, 1) := by decide +kernel
theorem dX6_two_2 : decode cX6_two 2 = .ok (.bipush 10, 2) := by decide +kernel
theorem dX6_two_4 : decode cX6_two 4 = .ok (.idiv, 1) := by decide +kernel
theorem dX6_two_5 : decode cX6_two 5 = .ok (.iload_n 2, 1) := by decide +kernel
theorem dX6_two_6 : decode cX6_two 6 = .ok (.bipush 10, 2) := by decide +kernel
theorem dX6_two_8 : decode cX6_two 8 = .ok (.idiv, 1) := by decide +kernel
theorem dX6_two_9 : decode cX6_two 9 = .ok (.invokevirtual 138, 3) := by decide +kernel
theorem dX6_two_12 : decode cX6_two 12 = .ok (.istore_n 3, 1) := by decide +kernel
theorem dX6_two_13 : decode cX6_two 13 = .ok (.iload_n 1, 1) := by decide +kernel
theorem dX6_two_14 : decode cX6_two 14 = .ok (.bipush 10, 2) := by decide +kernel
theorem dX6_two_16 : decode cX6_two 16 = .ok (.iload_n 3, 1) := by decide +kernel
theorem dX6_two_17 : decode cX6_two 17 = .ok (.imul, 1) := by decide +kernel
theorem dX6_two_18 : decode cX6_two 18 = .ok (.isub, 1) := by decide +kernel
theorem dX6_two_19 : decode cX6_two 19 = .ok (.istore 4, 2) := by decide +kernel
theorem dX6_two_21 : decode cX6_two 21 = .ok (.iload_n 2, 1) := by decide +kernel
theorem dX6_two_22 : decode cX6_two 22 = .ok (.bipush 10, 2) := by decide +kernel
theorem dX6_two_24 : decode cX6_two 24 = .ok (.iload_n 3, 1) := by decide +kernel
theorem dX6_two_25 : decode cX6_two 25 = .ok (.imul, 1) := by decide +kernel
theorem dX6_two_26 : decode cX6_two 26 = .ok (.isub, 1) := by decide +kernel
theorem dX6_two_27 : decode cX6_two 27 = .ok (.istore 5, 2) := by decide +kernel
theorem dX6_two_29 : decode cX6_two 29 = .ok (.bipush 10, 2) := by decide +kernel
theorem dX6_two_31 : decode cX6_two 31 = .ok (.iload_n 3, 1) := by decide +kernel
theorem dX6_two_32 : decode cX6_two 32 = .ok (.imul, 1) := by decide +kernel
theorem dX6_two_33 : decode cX6_two 33 = .ok (.aload_n 0, 1) := by decide +kernel
theorem dX6_two_34 : decode cX6_two 34 = .ok (.iload 4, 2) := by decide +kernel
theorem dX6_two_36 : decode cX6_two 36 = .ok (.ifCond .ge 7, 3) := by decide +kernel
theorem dX6_two_39 : decode cX6_two 39 = .ok (.iconst 0, 1) := by decide +kernel
theorem dX6_two_40 : decode cX6_two 40 = .ok (.goto 5, 3) := by decide +kernel
theorem dX6_two_43 : decode cX6_two 43 = .ok (.iload 4, 2) := by decide +kernel
theorem dX6_two_45 : decode cX6_two 45 = .ok (.iload 5, 2) := by decide +kernel
theorem dX6_two_47 : decode cX6_two 47 = .ok (.bipush 9, 2) := by decide +kernel
theorem dX6_two_49 : decode cX6_two 49 = .ok (.if_icmp .le 8, 3) := by decide +kernel
theorem dX6_two_52 : decode cX6_two 52 = .ok (.bipush 9, 2) := by decide +kernel
theorem dX6_two_54 : decode cX6_two 54 = .ok (.goto 5, 3) := by decide +kernel
theorem dX6_two_57 : decode cX6_two 57 = .ok (.iload 5, 2) := by decide +kernel
theorem dX6_two_59 : decode cX6_two 59 = .ok (.invokevirtual 138, 3) := by decide +kernel
theorem dX6_two_62 : decode cX6_two 62 = .ok (.iadd, 1) := by decide +kernel
theorem dX6_two_63 : decode cX6_two 63 = .ok (.ireturn, 1) := by decide +kernel
theorem dX6_readRoom_0 : decode cX6_readRoom 0 = .ok (.aload_n 0, 1) := by decide +kernel
theorem dX6_readRoom_1 : decode cX6_readRoom 1 = .ok (.aload_n 0, 1) := by decide +kernel
theorem dX6_readRoom_2 : decode cX6_readRoom 2 = .ok (.getfield 13, 3) := by decide +kernel
theorem dX6_readRoom_5 : decode cX6_readRoom 5 = .ok (.iconst 0, 1) := by decide +kernel
theorem dX6_readRoom_6 : decode cX6_readRoom 6 = .ok (.iaload, 1) := by decide +kernel
theorem dX6_readRoom_7 : decode cX6_readRoom 7 = .ok (.bipush 6, 2) := by decide +kernel
theorem dX6_readRoom_9 : decode cX6_readRoom 9 = .ok (.if_icmp .ge 7, 3) := by decide +kernel
theorem dX6_readRoom_12 : decode cX6_readRoom 12 = .ok (.iconst 1, 1) := by decide +kernel
theorem dX6_readRoom_13 : decode cX6_readRoom 13 = .ok (.goto 4, 3) := by decide +kernel
theorem dX6_readRoom_16 : decode cX6_readRoom 16 = .ok (.iconst 0, 1) := by decide +kernel
theorem dX6_readRoom_17 : decode cX6_readRoom 17 = .ok (.invokevirtual 134, 3) := by decide +kernel
theorem dX6_readRoom_20 : decode cX6_readRoom 20 = .ok (.aload_n 0, 1) := by decide +kernel
theorem dX6_readRoom_21 : decode cX6_readRoom 21 = .ok (.iconst 1, 1) := by decide +kernel
theorem dX6_readRoom_22 : decode cX6_readRoom 22 = .ok (.bipush 9, 2) := by decide +kernel
theorem dX6_readRoom_24 : decode cX6_readRoom 24 = .ok (.invokevirtual 138, 3) := by decide +kernel
theorem dX6_readRoom_27 : decode cX6_readRoom 27 = .ok (.istore_n 1, 1) := by decide +kernel
theorem dX6_readRoom_28 : decode cX6_readRoom 28 = .ok (.aload_n 0, 1) := by decide +kernel
theorem dX6_readRoom_29 : decode cX6_readRoom 29 = .ok (.bipush 10, 2) := by decide +kernel
theorem dX6_readRoom_31 : decode cX6_readRoom 31 = .ok (.bipush 25, 2) := by decide +kernel
theorem dX6_readRoom_33 : decode cX6_readRoom 33 = .ok (.invokevirtual 141, 3) := by decide +kernel
theorem dX6_readRoom_36 : decode cX6_readRoom 36 = .ok (.istore_n 2, 1) := by decide +kernel
theorem dX6_readRoom_37 : decode cX6_readRoom 37 = .ok (.aload_n 0, 1) := by decide +kernel
theorem dX6_readRoom_38 : decode cX6_readRoom 38 = .ok (.iconst 1, 1) := by decide +kernel
theorem dX6_readRoom_39 : decode cX6_readRoom 39 = .ok (.bipush 9, 2) := by decide +kernel
theorem dX6_readRoom_41 : decode cX6_readRoom 41 = .ok (.invokevirtual 138, 3) := by decide +kernel
theorem dX6_readRoom_44 : decode cX6_readRoom 44 = .ok (.istore_n 3, 1) := by decide +kernel
theorem dX6_readRoom_45 : decode cX6_readRoom 45 = .ok (.aload_n 0, 1) := by decide +kernel
theorem dX6_readRoom_46 : decode cX6_readRoom 46 = .ok (.iconst 0, 1) := by decide +kernel
theorem dX6_readRoom_47 : decode cX6_readRoom 47 = .ok (.bipush 9, 2) := by decide +kernel
theorem dX6_readRoom_49 : decode cX6_readRoom 49 = .ok (.invokevirtual 138, 3) := by decide +kernel
theorem dX6_readRoom_52 : decode cX6_readRoom 52 = .ok (.istore 4, 2) := by decide +kernel
theorem dX6_readRoom_54 : decode cX6_readRoom 54 = .ok (.aload_n 0, 1) := by decide +kernel
theorem dX6_readRoom_55 : decode cX6_readRoom 55 = .ok (.getfield 128, 3) := by decide +kernel
theorem dX6_readRoom_58 : decode cX6_readRoom 58 = .ok (.ifCond .eq 15, 3) := by decide +kernel
theorem dX6_readRoom_61 : decode cX6_readRoom 61 = .ok (.aload_n 0, 1) := by decide +kernel
theorem dX6_readRoom_62 : decode cX6_readRoom 62 = .ok (.getfield 13, 3) := by decide +kernel
theorem dX6_readRoom_65 : decode cX6_readRoom 65 = .ok (.iload_n 1, 1) := by decide +kernel
theorem dX6_readRoom_66 : decode cX6_readRoom 66 = .ok (.iload_n 2, 1) := by decide +kernel
theorem dX6_readRoom_67 : decode cX6_readRoom 67 = .ok (.iload_n 3, 1) := by decide +kernel
theorem dX6_readRoom_68 : decode cX6_readRoom 68 = .ok (.iload 4, 2) := by decide +kernel
theorem dX6_readRoom_70 : decode cX6_readRoom 70 = .ok (.invokestatic 144, 3) := by decide +kernel
theorem dX6_readRoom_73 : decode cX6_readRoom 73 = .ok (.return_, 1) := by decide +kernel
theorem dX6_readOutside_0 : decode cX6_readOutside 0 = .ok (.aload_n 0, 1) := by decide +kernel
theorem dX6_readOutside_1 : decode cX6_readOutside 1 = .ok (.iconst 1, 1) := by decide +kernel
theorem dX6_readOutside_2 : decode cX6_readOutside 2 = .ok (.invokevirtual 134, 3) := by decide +kernel
theorem dX6_readOutside_5 : decode cX6_readOutside 5 = .ok (.aload_n 0, 1) := by decide +kernel
theorem dX6_readOutside_6 : decode cX6_readOutside 6 = .ok (.bipush 45, 2) := by decide +kernel
theorem dX6_readOutside_8 : decode cX6_readOutside 8 = .ok (.invokevirtual 148, 3) := by decide +kernel
theorem dX6_readOutside_11 : decode cX6_readOutside 11 = .ok (.istore_n 1, 1) := by decide +kernel
theorem dX6_readOutside_12 : decode cX6_readOutside 12 = .ok (.aload_n 0, 1) := by decide +kernel
theorem dX6_readOutside_13 : decode cX6_readOutside 13 = .ok (.iload_n 1, 1) := by decide +kernel
theorem dX6_readOutside_14 : decode cX6_readOutside 14 = .ok (.ifCond .ne 12, 3) := by decide +kernel
theorem dX6_readOutside_17 : decode cX6_readOutside 17 = .ok (.aload_n 0, 1) := by decide +kernel
theorem dX6_readOutside_18 : decode cX6_readOutside 18 = .ok (.bipush 43, 2) := by decide +kernel
theorem dX6_readOutside_20 : decode cX6_readOutside 20 = .ok (.invokevirtual 148, 3) := by decide +kernel
theorem dX6_readOutside_23 : decode cX6_readOutside 23 = .ok (.ifCond .eq 7, 3) := by decide +kernel
theorem dX6_readOutside_26 : decode cX6_readOutside 26 = .ok (.iconst 1, 1) := by decide +kernel
theorem dX6_readOutside_27 : decode cX6_readOutside 27 = .ok (.goto 4, 3) := by decide +kernel
theorem dX6_readOutside_30 : decode cX6_readOutside 30 = .ok (.iconst 0, 1) := by decide +kernel
theorem dX6_readOutside_31 : decode cX6_readOutside 31 = .ok (.invokevirtual 134, 3) := by decide +kernel
theorem dX6_readOutside_34 : decode cX6_readOutside 34 = .ok (.iload_n 1, 1) := by decide +kernel
theorem dX6_readOutside_35 : decode cX6_readOutside 35 = .ok (.ifCond .eq 13, 3) := by decide +kernel
theorem dX6_readOutside_38 : decode cX6_readOutside 38 = .ok (.aload_n 0, 1) := by decide +kernel
theorem dX6_readOutside_39 : decode cX6_readOutside 39 = .ok (.iconst 1, 1) := by decide +kernel
theorem dX6_readOutside_40 : decode cX6_readOutside 40 = .ok (.bipush 20, 2) := by decide +kernel
theorem dX6_readOutside_42 : decode cX6_readOutside 42 = .ok (.invokevirtual 141, 3) := by decide +kernel
theorem dX6_readOutside_45 : decode cX6_readOutside 45 = .ok (.goto 10, 3) := by decide +kernel
theorem dX6_readOutside_48 : decode cX6_readOutside 48 = .ok (.aload_n 0, 1) := by decide +kernel
theorem dX6_readOutside_49 : decode cX6_readOutside 49 = .ok (.iconst 0, 1) := by decide +kernel
theorem dX6_readOutside_50 : decode cX6_readOutside 50 = .ok (.bipush 40, 2) := by decide +kernel
theorem dX6_readOutside_52 : decode cX6_readOutside 52 = .ok (.invokevirtual 141, 3) := by decide +kernel
theorem dX6_readOutside_55 : decode cX6_readOutside 55 = .ok (.istore_n 2, 1) := by decide +kernel
theorem dX6_readOutside_56 : decode cX6_readOutside 56 = .ok (.aload_n 0, 1) := by decide +kernel
theorem dX6_readOutside_57 : decode cX6_readOutside 57 = .ok (.getfield 128, 3) := by decide +kernel
theorem dX6_readOutside_60 : decode cX6_readOutside 60 = .ok (.ifCond .eq 19, 3) := by decide +kernel
theorem dX6_readOutside_63 : decode cX6_readOutside 63 = .ok (.aload_n 0, 1) := by decide +kernel
theorem dX6_readOutside_64 : decode cX6_readOutside 64 = .ok (.getfield 13, 3) := by decide +kernel
theorem dX6_readOutside_67 : decode cX6_readOutside 67 = .ok (.iconst 2, 1) := by decide +kernel
theorem dX6_readOutside_68 : decode cX6_readOutside 68 = .ok (.iload_n 1, 1) := by decide +kernel
theorem dX6_readOutside_69 : decode cX6_readOutside 69 = .ok (.ifCond .eq 8, 3) := by decide +kernel
theorem dX6_readOutside_72 : decode cX6_readOutside 72 = .ok (.iload_n 2, 1) := by decide +kernel
theorem dX6_readOutside_73 : decode cX6_readOutside 73 = .ok (.ineg, 1) := by decide +kernel
theorem dX6_readOutside_74 : decode cX6_readOutside 74 = .ok (.goto 4, 3) := by decide +kernel
theorem dX6_readOutside_77 : decode cX6_readOutside 77 = .ok (.iload_n 2, 1) := by decide +kernel
theorem dX6_readOutside_78 : decode cX6_readOutside 78 = .ok (.iastore, 1) := by decide +kernel
theorem dX6_readOutside_79 : decode cX6_readOutside 79 = .ok (.return_, 1) := by decide +kernel
theorem dX6_readSetting_0 : decode cX6_readSetting 0 = .ok (.aload_n 0, 1) := by decide +kernel
theorem dX6_readSetting_1 : decode cX6_readSetting 1 = .ok (.iconst 1, 1) := by decide +kernel
theorem dX6_readSetting_2 : decode cX6_readSetting 2 = .ok (.invokevirtual 134, 3) := by decide +kernel
theorem dX6_readSetting_5 : decode cX6_readSetting 5 = .ok (.aload_n 0, 1) := by decide +kernel
theorem dX6_readSetting_6 : decode cX6_readSetting 6 = .ok (.iconst 2, 1) := by decide +kernel
theorem dX6_readSetting_7 : decode cX6_readSetting 7 = .ok (.bipush 8, 2) := by decide +kernel
theorem dX6_readSetting_9 : decode cX6_readSetting 9 = .ok (.invokevirtual 138, 3) := by decide +kernel
theorem dX6_readSetting_12 : decode cX6_readSetting 12 = .ok (.istore_n 1, 1) := by decide +kernel
theorem dX6_readSetting_13 : decode cX6_readSetting 13 = .ok (.aload_n 0, 1) := by decide +kernel
theorem dX6_readSetting_14 : decode cX6_readSetting 14 = .ok (.iload_n 1, 1) := by decide +kernel
theorem dX6_readSetting_15 : decode cX6_readSetting 15 = .ok (.invokestatic 151, 3) := by decide +kernel
theorem dX6_readSetting_18 : decode cX6_readSetting 18 = .ok (.iload_n 1, 1) := by decide +kernel
theorem dX6_readSetting_19 : decode cX6_readSetting 19 = .ok (.invokestatic 155, 3) := by decide +kernel
theorem dX6_readSetting_22 : decode cX6_readSetting 22 = .ok (.invokevirtual 141, 3) := by decide +kernel
theorem dX6_readSetting_25 : decode cX6_readSetting 25 = .ok (.istore_n 2, 1) := by decide +kernel
theorem dX6_readSetting_26 : decode cX6_readSetting 26 = .ok (.aload_n 0, 1) := by decide +kernel
theorem dX6_readSetting_27 : decode cX6_readSetting 27 = .ok (.getfield 128, 3) := by decide +kernel
theorem dX6_readSetting_30 : decode cX6_readSetting 30 = .ok (.ifCond .eq 13, 3) := by decide +kernel
theorem dX6_readSetting_33 : decode cX6_readSetting 33 = .ok (.aload_n 0, 1) := by decide +kernel
theorem dX6_readSetting_34 : decode cX6_readSetting 34 = .ok (.getfield 13, 3) := by decide +kernel
theorem dX6_readSetting_37 : decode cX6_readSetting 37 = .ok (.bipush 9, 2) := by decide +kernel
theorem dX6_readSetting_39 : decode cX6_readSetting 39 = .ok (.iload_n 1, 1) := by decide +kernel
theorem dX6_readSetting_40 : decode cX6_readSetting 40 = .ok (.iadd, 1) := by decide +kernel
theorem dX6_readSetting_41 : decode cX6_readSetting 41 = .ok (.iload_n 2, 1) := by decide +kernel
theorem dX6_readSetting_42 : decode cX6_readSetting 42 = .ok (.iastore, 1) := by decide +kernel
theorem dX6_readSetting_43 : decode cX6_readSetting 43 = .ok (.return_, 1) := by decide +kernel
theorem dX6_readText_0 : decode cX6_readText 0 = .ok (.aload_n 0, 1) := by decide +kernel
theorem dX6_readText_1 : decode cX6_readText 1 = .ok (.iconst 0, 1) := by decide +kernel
theorem dX6_readText_2 : decode cX6_readText 2 = .ok (.putfield 125, 3) := by decide +kernel
theorem dX6_readText_5 : decode cX6_readText 5 = .ok (.aload_n 0, 1) := by decide +kernel
theorem dX6_readText_6 : decode cX6_readText 6 = .ok (.iconst 1, 1) := by decide +kernel
theorem dX6_readText_7 : decode cX6_readText 7 = .ok (.putfield 128, 3) := by decide +kernel
theorem dX6_readText_10 : decode cX6_readText 10 = .ok (.aload_n 0, 1) := by decide +kernel
theorem dX6_readText_11 : decode cX6_readText 11 = .ok (.getfield 13, 3) := by decide +kernel
theorem dX6_readText_14 : decode cX6_readText 14 = .ok (.invokestatic 32, 3) := by decide +kernel
theorem dX6_readText_17 : decode cX6_readText 17 = .ok (.aload_n 0, 1) := by decide +kernel
theorem dX6_readText_18 : decode cX6_readText 18 = .ok (.aload_n 0, 1) := by decide +kernel
theorem dX6_readText_19 : decode cX6_readText 19 = .ok (.bipush 77, 2) := by decide +kernel
theorem dX6_readText_21 : decode cX6_readText 21 = .ok (.invokevirtual 148, 3) := by decide +kernel
theorem dX6_readText_24 : decode cX6_readText 24 = .ok (.invokevirtual 134, 3) := by decide +kernel
theorem dX6_readText_27 : decode cX6_readText 27 = .ok (.aload_n 0, 1) := by decide +kernel
theorem dX6_readText_28 : decode cX6_readText 28 = .ok (.iconst 0, 1) := by decide +kernel
theorem dX6_readText_29 : decode cX6_readText 29 = .ok (.iconst 2, 1) := by decide +kernel
theorem dX6_readText_30 : decode cX6_readText 30 = .ok (.invokevirtual 138, 3) := by decide +kernel
theorem dX6_readText_33 : decode cX6_readText 33 = .ok (.istore_n 1, 1) := by decide +kernel
theorem dX6_readText_34 : decode cX6_readText 34 = .ok (.bipush 100, 2) := by decide +kernel
theorem dX6_readText_36 : decode cX6_readText 36 = .ok (.iload_n 1, 1) := by decide +kernel
theorem dX6_readText_37 : decode cX6_readText 37 = .ok (.imul, 1) := by decide +kernel
theorem dX6_readText_38 : decode cX6_readText 38 = .ok (.iload_n 1, 1) := by decide +kernel
theorem dX6_readText_39 : decode cX6_readText 39 = .ok (.iconst 2, 1) := by decide +kernel
theorem dX6_readText_40 : decode cX6_readText 40 = .ok (.if_icmp .ne 12, 3) := by decide +kernel
theorem dX6_readText_43 : decode cX6_readText 43 = .ok (.aload_n 0, 1) := by decide +kernel
theorem dX6_readText_44 : decode cX6_readText 44 = .ok (.iconst 0, 1) := by decide +kernel
theorem dX6_readText_45 : decode cX6_readText 45 = .ok (.iconst 0, 1) := by decide +kernel
theorem dX6_readText_46 : decode cX6_readText 46 = .ok (.invokevirtual 141, 3) := by decide +kernel
theorem dX6_readText_49 : decode cX6_readText 49 = .ok (.goto 10, 3) := by decide +kernel
theorem dX6_readText_52 : decode cX6_readText 52 = .ok (.aload_n 0, 1) := by decide +kernel
theorem dX6_readText_53 : decode cX6_readText 53 = .ok (.iconst 0, 1) := by decide +kernel
theorem dX6_readText_54 : decode cX6_readText 54 = .ok (.bipush 99, 2) := by decide +kernel
theorem dX6_readText_56 : decode cX6_readText 56 = .ok (.invokevirtual 141, 3) := by decide +kernel
theorem dX6_readText_59 : decode cX6_readText 59 = .ok (.iadd, 1) := by decide +kernel
theorem dX6_readText_60 : decode cX6_readText 60 = .ok (.istore_n 2, 1) := by decide +kernel
theorem dX6_readText_61 : decode cX6_readText 61 = .ok (.aload_n 0, 1) := by decide +kernel
theorem dX6_readText_62 : decode cX6_readText 62 = .ok (.bipush 30, 2) := by decide +kernel
theorem dX6_readText_64 : decode cX6_readText 64 = .ok (.bipush 80, 2) := by decide +kernel
theorem dX6_readText_66 : decode cX6_readText 66 = .ok (.invokevirtual 141, 3) := by decide +kernel
theorem dX6_readText_69 : decode cX6_readText 69 = .ok (.istore_n 3, 1) := by decide +kernel
theorem dX6_readText_70 : decode cX6_readText 70 = .ok (.aload_n 0, 1) := by decide +kernel
theorem dX6_readText_71 : decode cX6_readText 71 = .ok (.getfield 13, 3) := by decide +kernel
theorem dX6_readText_74 : decode cX6_readText 74 = .ok (.bipush 9, 2) := by decide +kernel
theorem dX6_readText_76 : decode cX6_readText 76 = .ok (.iload_n 2, 1) := by decide +kernel
theorem dX6_readText_77 : decode cX6_readText 77 = .ok (.iastore, 1) := by decide +kernel
theorem dX6_readText_78 : decode cX6_readText 78 = .ok (.aload_n 0, 1) := by decide +kernel
theorem dX6_readText_79 : decode cX6_readText 79 = .ok (.getfield 13, 3) := by decide +kernel
theorem dX6_readText_82 : decode cX6_readText 82 = .ok (.bipush 10, 2) := by decide +kernel
theorem dX6_readText_84 : decode cX6_readText 84 = .ok (.iload_n 3, 1) := by decide +kernel
theorem dX6_readText_85 : decode cX6_readText 85 = .ok (.iastore, 1) := by decide +kernel
theorem dX6_readText_86 : decode cX6_readText 86 = .ok (.aload_n 0, 1) := by decide +kernel
theorem dX6_readText_87 : decode cX6_readText 87 = .ok (.getfield 128, 3) := by decide +kernel
theorem dX6_readText_90 : decode cX6_readText 90 = .ok (.ifCond .eq 70, 3) := by decide +kernel
theorem dX6_readText_93 : decode cX6_readText 93 = .ok (.aload_n 0, 1) := by decide +kernel
theorem dX6_readText_94 : decode cX6_readText 94 = .ok (.getfield 125, 3) := by decide +kernel
theorem dX6_readText_97 : decode cX6_readText 97 = .ok (.aload_n 0, 1) := by decide +kernel
theorem dX6_readText_98 : decode cX6_readText 98 = .ok (.getfield 118, 3) := by decide +kernel
theorem dX6_readText_101 : decode cX6_readText 101 = .ok (.if_icmp .ge 59, 3) := by decide +kernel
theorem dX6_readText_104 : decode cX6_readText 104 = .ok (.aload_n 0, 1) := by decide +kernel
theorem dX6_readText_105 : decode cX6_readText 105 = .ok (.bipush 114, 2) := by decide +kernel
theorem dX6_readText_107 : decode cX6_readText 107 = .ok (.invokevirtual 148, 3) := by decide +kernel
theorem dX6_readText_110 : decode cX6_readText 110 = .ok (.ifCond .eq 10, 3) := by decide +kernel
theorem dX6_readText_113 : decode cX6_readText 113 = .ok (.aload_n 0, 1) := by decide +kernel
theorem dX6_readText_114 : decode cX6_readText 114 = .ok (.invokevirtual 158, 3) := by decide +kernel
theorem dX6_readText_117 : decode cX6_readText 117 = .ok (.goto (-31), 3) := by decide +kernel
theorem dX6_readText_120 : decode cX6_readText 120 = .ok (.aload_n 0, 1) := by decide +kernel
theorem dX6_readText_121 : decode cX6_readText 121 = .ok (.bipush 111, 2) := by decide +kernel
theorem dX6_readText_123 : decode cX6_readText 123 = .ok (.invokevirtual 148, 3) := by decide +kernel
theorem dX6_readText_126 : decode cX6_readText 126 = .ok (.ifCond .eq 10, 3) := by decide +kernel
theorem dX6_readText_129 : decode cX6_readText 129 = .ok (.aload_n 0, 1) := by decide +kernel
theorem dX6_readText_130 : decode cX6_readText 130 = .ok (.invokevirtual 161, 3) := by decide +kernel
theorem dX6_readText_133 : decode cX6_readText 133 = .ok (.goto (-47), 3) := by decide +kernel
theorem dX6_readText_136 : decode cX6_readText 136 = .ok (.aload_n 0, 1) := by decide +kernel
theorem dX6_readText_137 : decode cX6_readText 137 = .ok (.bipush 115, 2) := by decide +kernel
theorem dX6_readText_139 : decode cX6_readText 139 = .ok (.invokevirtual 148, 3) := by decide +kernel
theorem dX6_readText_142 : decode cX6_readText 142 = .ok (.ifCond .eq 10, 3) := by decide +kernel
theorem dX6_readText_145 : decode cX6_readText 145 = .ok (.aload_n 0, 1) := by decide +kernel
theorem dX6_readText_146 : decode cX6_readText 146 = .ok (.invokevirtual 164, 3) := by decide +kernel
theorem dX6_readText_149 : decode cX6_readText 149 = .ok (.goto (-63), 3) := by decide +kernel
theorem dX6_readText_152 : decode cX6_readText 152 = .ok (.aload_n 0, 1) := by decide +kernel
theorem dX6_readText_153 : decode cX6_readText 153 = .ok (.iconst 0, 1) := by decide +kernel
theorem dX6_readText_154 : decode cX6_readText 154 = .ok (.invokevirtual 134, 3) := by decide +kernel
theorem dX6_readText_157 : decode cX6_readText 157 = .ok (.goto (-71), 3) := by decide +kernel
theorem dX6_readText_160 : decode cX6_readText 160 = .ok (.aload_n 0, 1) := by decide +kernel
theorem dX6_readText_161 : decode cX6_readText 161 = .ok (.getfield 128, 3) := by decide +kernel
theorem dX6_readText_164 : decode cX6_readText 164 = .ok (.ifCond .eq 8, 3) := by decide +kernel
theorem dX6_readText_167 : decode cX6_readText 167 = .ok (.ldc 64, 2) := by decide +kernel
theorem dX6_readText_169 : decode cX6_readText 169 = .ok (.goto 7, 3) := by decide +kernel
theorem dX6_readText_172 : decode cX6_readText 172 = .ok (.aload_n 0, 1) := by decide +kernel
theorem dX6_readText_173 : decode cX6_readText 173 = .ok (.getfield 125, 3) := by decide +kernel
theorem dX6_readText_176 : decode cX6_readText 176 = .ok (.ireturn, 1) := by decide +kernel
theorem dX6_errorPosition_0 : decode cX6_errorPosition 0 = .ok (.aload_n 0, 1) := by decide +kernel
theorem dX6_errorPosition_1 : decode cX6_errorPosition 1 = .ok (.iconst 0, 1) := by decide +kernel
theorem dX6_errorPosition_2 : decode cX6_errorPosition 2 = .ok (.putfield 36, 3) := by decide +kernel
theorem dX6_errorPosition_5 : decode cX6_errorPosition 5 = .ok (.aload_n 0, 1) := by decide +kernel
theorem dX6_errorPosition_6 : decode cX6_errorPosition 6 = .ok (.invokevirtual 167, 3) := by decide +kernel
theorem dX6_errorPosition_9 : decode cX6_errorPosition 9 = .ok (.ireturn, 1) := by decide +kernel
theorem dX6_load_0 : decode cX6_load 0 = .ok (.aload_n 0, 1) := by decide +kernel
theorem dX6_load_1 : decode cX6_load 1 = .ok (.aload_n 0, 1) := by decide +kernel
theorem dX6_load_2 : decode cX6_load 2 = .ok (.invokevirtual 167, 3) := by decide +kernel
theorem dX6_load_5 : decode cX6_load 5 = .ok (.ldc 64, 2) := by decide +kernel
theorem dX6_load_7 : decode cX6_load 7 = .ok (.if_icmp .ne 7, 3) := by decide +kernel
theorem dX6_load_10 : decode cX6_load 10 = .ok (.iconst 0, 1) := by decide +kernel
theorem dX6_load_11 : decode cX6_load 11 = .ok (.goto 4, 3) := by decide +kernel
theorem dX6_load_14 : decode cX6_load 14 = .ok (.iconst 1, 1) := by decide +kernel
theorem dX6_load_15 : decode cX6_load 15 = .ok (.invokevirtual 121, 3) := by decide +kernel
theorem dX6_load_18 : decode cX6_load 18 = .ok (.ifCond .eq 5, 3) := by decide +kernel
theorem dX6_load_21 : decode cX6_load 21 = .ok (.iconst 0, 1) := by decide +kernel
theorem dX6_load_22 : decode cX6_load 22 = .ok (.ireturn, 1) := by decide +kernel
theorem dX6_load_23 : decode cX6_load 23 = .ok (.aload_n 0, 1) := by decide +kernel
theorem dX6_load_24 : decode cX6_load 24 = .ok (.getfield 13, 3) := by decide +kernel
theorem dX6_load_27 : decode cX6_load 27 = .ok (.iconst 0, 1) := by decide +kernel
theorem dX6_load_28 : decode cX6_load 28 = .ok (.aload_n 0, 1) := by decide +kernel
theorem dX6_load_29 : decode cX6_load 29 = .ok (.getfield 16, 3) := by decide +kernel
theorem dX6_load_32 : decode cX6_load 32 = .ok (.iconst 0, 1) := by decide +kernel
theorem dX6_load_33 : decode cX6_load 33 = .ok (.sipush 128, 3) := by decide +kernel
theorem dX6_load_36 : decode cX6_load 36 = .ok (.invokestatic 45, 3) := by decide +kernel
theorem dX6_load_39 : decode cX6_load 39 = .ok (.aload_n 0, 1) := by decide +kernel
theorem dX6_load_40 : decode cX6_load 40 = .ok (.iconst 0, 1) := by decide +kernel
theorem dX6_load_41 : decode cX6_load 41 = .ok (.putfield 42, 3) := by decide +kernel
theorem dX6_load_44 : decode cX6_load 44 = .ok (.aload_n 0, 1) := by decide +kernel
theorem dX6_load_45 : decode cX6_load 45 = .ok (.getfield 28, 3) := by decide +kernel
theorem dX6_load_48 : decode cX6_load 48 = .ok (.iconst 0, 1) := by decide +kernel
theorem dX6_load_49 : decode cX6_load 49 = .ok (.iconst 0, 1) := by decide +kernel
theorem dX6_load_50 : decode cX6_load 50 = .ok (.bastore, 1) := by decide +kernel
theorem dX6_load_51 : decode cX6_load 51 = .ok (.aload_n 0, 1) := by decide +kernel
theorem dX6_load_52 : decode cX6_load 52 = .ok (.getfield 28, 3) := by decide +kernel
theorem dX6_load_55 : decode cX6_load 55 = .ok (.iconst 1, 1) := by decide +kernel
theorem dX6_load_56 : decode cX6_load 56 = .ok (.iconst 0, 1) := by decide +kernel
theorem dX6_load_57 : decode cX6_load 57 = .ok (.bastore, 1) := by decide +kernel
theorem dX6_load_58 : decode cX6_load 58 = .ok (.aload_n 0, 1) := by decide +kernel
theorem dX6_load_59 : decode cX6_load 59 = .ok (.getfield 16, 3) := by decide +kernel
theorem dX6_load_62 : decode cX6_load 62 = .ok (.iconst 0, 1) := by decide +kernel
theorem dX6_load_63 : decode cX6_load 63 = .ok (.iaload, 1) := by decide +kernel
theorem dX6_load_64 : decode cX6_load 64 = .ok (.ireturn, 1) := by decide +kernel
theorem dX6_allHeat_0 : decode cX6_allHeat 0 = .ok (.iconst 0, 1) := by decide +kernel
theorem dX6_allHeat_1 : decode cX6_allHeat 1 = .ok (.istore_n 1, 1) := by decide +kernel
theorem dX6_allHeat_2 : decode cX6_allHeat 2 = .ok (.iconst 0, 1) := by decide +kernel
theorem dX6_allHeat_3 : decode cX6_allHeat 3 = .ok (.istore_n 2, 1) := by decide +kernel
theorem dX6_allHeat_4 : decode cX6_allHeat 4 = .ok (.iload_n 2, 1) := by decide +kernel
theorem dX6_allHeat_5 : decode cX6_allHeat 5 = .ok (.aload_n 0, 1) := by decide +kernel
theorem dX6_allHeat_6 : decode cX6_allHeat 6 = .ok (.iconst 0, 1) := by decide +kernel
theorem dX6_allHeat_7 : decode cX6_allHeat 7 = .ok (.iaload, 1) := by decide +kernel
theorem dX6_allHeat_8 : decode cX6_allHeat 8 = .ok (.iconst 2, 1) := by decide +kernel
theorem dX6_allHeat_9 : decode cX6_allHeat 9 = .ok (.iadd, 1) := by decide +kernel
theorem dX6_allHeat_10 : decode cX6_allHeat 10 = .ok (.if_icmp .ge 18, 3) := by decide +kernel
theorem dX6_allHeat_13 : decode cX6_allHeat 13 = .ok (.iload_n 1, 1) := by decide +kernel
theorem dX6_allHeat_14 : decode cX6_allHeat 14 = .ok (.aload_n 0, 1) := by decide +kernel
theorem dX6_allHeat_15 : decode cX6_allHeat 15 = .ok (.bipush 18, 2) := by decide +kernel
theorem dX6_allHeat_17 : decode cX6_allHeat 17 = .ok (.iload_n 2, 1) := by decide +kernel
theorem dX6_allHeat_18 : decode cX6_allHeat 18 = .ok (.iadd, 1) := by decide +kernel
theorem dX6_allHeat_19 : decode cX6_allHeat 19 = .ok (.iaload, 1) := by decide +kernel
theorem dX6_allHeat_20 : decode cX6_allHeat 20 = .ok (.iadd, 1) := by decide +kernel
theorem dX6_allHeat_21 : decode cX6_allHeat 21 = .ok (.istore_n 1, 1) := by decide +kernel
theorem dX6_allHeat_22 : decode cX6_allHeat 22 = .ok (.iinc 2 1, 3) := by decide +kernel
theorem dX6_allHeat_25 : decode cX6_allHeat 25 = .ok (.goto (-21), 3) := by decide +kernel
theorem dX6_allHeat_28 : decode cX6_allHeat 28 = .ok (.iload_n 1, 1) := by decide +kernel
theorem dX6_allHeat_29 : decode cX6_allHeat 29 = .ok (.ireturn, 1) := by decide +kernel
theorem dX6_allOf_0 : decode cX6_allOf 0 = .ok (.iconst 0, 1) := by decide +kernel
theorem dX6_allOf_1 : decode cX6_allOf 1 = .ok (.istore_n 2, 1) := by decide +kernel
theorem dX6_allOf_2 : decode cX6_allOf 2 = .ok (.iconst 0, 1) := by decide +kernel
theorem dX6_allOf_3 : decode cX6_allOf 3 = .ok (.istore_n 3, 1) := by decide +kernel
theorem dX6_allOf_4 : decode cX6_allOf 4 = .ok (.iload_n 3, 1) := by decide +kernel
theorem dX6_allOf_5 : decode cX6_allOf 5 = .ok (.aload_n 0, 1) := by decide +kernel
theorem dX6_allOf_6 : decode cX6_allOf 6 = .ok (.iconst 0, 1) := by decide +kernel
theorem dX6_allOf_7 : decode cX6_allOf 7 = .ok (.iaload, 1) := by decide +kernel
theorem dX6_allOf_8 : decode cX6_allOf 8 = .ok (.if_icmp .ge 19, 3) := by decide +kernel
theorem dX6_allOf_11 : decode cX6_allOf 11 = .ok (.iload_n 2, 1) := by decide +kernel
theorem dX6_allOf_12 : decode cX6_allOf 12 = .ok (.aload_n 0, 1) := by decide +kernel
theorem dX6_allOf_13 : decode cX6_allOf 13 = .ok (.iload_n 3, 1) := by decide +kernel
theorem dX6_allOf_14 : decode cX6_allOf 14 = .ok (.iload_n 1, 1) := by decide +kernel
theorem dX6_allOf_15 : decode cX6_allOf 15 = .ok (.invokestatic 53, 3) := by decide +kernel
theorem dX6_allOf_18 : decode cX6_allOf 18 = .ok (.iaload, 1) := by decide +kernel
theorem dX6_allOf_19 : decode cX6_allOf 19 = .ok (.iadd, 1) := by decide +kernel
theorem dX6_allOf_20 : decode cX6_allOf 20 = .ok (.istore_n 2, 1) := by decide +kernel
theorem dX6_allOf_21 : decode cX6_allOf 21 = .ok (.iinc 3 1, 3) := by decide +kernel
theorem dX6_allOf_24 : decode cX6_allOf 24 = .ok (.goto (-20), 3) := by decide +kernel
theorem dX6_allOf_27 : decode cX6_allOf 27 = .ok (.iload_n 2, 1) := by decide +kernel
theorem dX6_allOf_28 : decode cX6_allOf 28 = .ok (.ireturn, 1) := by decide +kernel
theorem dX6_about_0 : decode cX6_about 0 = .ok (.aload_n 0, 1) := by decide +kernel
theorem dX6_about_1 : decode cX6_about 1 = .ok (.iload_n 1, 1) := by decide +kernel
theorem dX6_about_2 : decode cX6_about 2 = .ok (.i2l, 1) := by decide +kernel
theorem dX6_about_3 : decode cX6_about 3 = .ok (.lconst 0, 1) := by decide +kernel
theorem dX6_about_4 : decode cX6_about 4 = .ok (.ldc2_w 171, 3) := by decide +kernel
theorem dX6_about_7 : decode cX6_about 7 = .ok (.invokestatic 49, 3) := by decide +kernel
theorem dX6_about_10 : decode cX6_about 10 = .ok (.ifCond .eq 7, 3) := by decide +kernel
theorem dX6_about_13 : decode cX6_about 13 = .ok (.iconst 0, 1) := by decide +kernel
theorem dX6_about_14 : decode cX6_about 14 = .ok (.goto 4, 3) := by decide +kernel
theorem dX6_about_17 : decode cX6_about 17 = .ok (.iconst 1, 1) := by decide +kernel
theorem dX6_about_18 : decode cX6_about 18 = .ok (.invokevirtual 121, 3) := by decide +kernel
theorem dX6_about_21 : decode cX6_about 21 = .ok (.ifCond .eq 5, 3) := by decide +kernel
theorem dX6_about_24 : decode cX6_about 24 = .ok (.iconst 0, 1) := by decide +kernel
theorem dX6_about_25 : decode cX6_about 25 = .ok (.ireturn, 1) := by decide +kernel
theorem dX6_about_26 : decode cX6_about 26 = .ok (.iload_n 1, 1) := by decide +kernel
theorem dX6_about_27 : decode cX6_about 27 = .ok (.tableswitch 158 0 11 #[61, 68, 75, 82, 89, 103, 110, 118, 126, 134, 142, 150], 61) := by decide +kernel
theorem dX6_about_88 : decode cX6_about 88 = .ok (.aload_n 0, 1) := by decide +kernel
theorem dX6_about_89 : decode cX6_about 89 = .ok (.getfield 16, 3) := by decide +kernel
theorem dX6_about_92 : decode cX6_about 92 = .ok (.iconst 0, 1) := by decide +kernel
theorem dX6_about_93 : decode cX6_about 93 = .ok (.iaload, 1) := by decide +kernel
theorem dX6_about_94 : decode cX6_about 94 = .ok (.ireturn, 1) := by decide +kernel
theorem dX6_about_95 : decode cX6_about 95 = .ok (.aload_n 0, 1) := by decide +kernel
theorem dX6_about_96 : decode cX6_about 96 = .ok (.getfield 16, 3) := by decide +kernel
theorem dX6_about_99 : decode cX6_about 99 = .ok (.iconst 1, 1) := by decide +kernel
theorem dX6_about_100 : decode cX6_about 100 = .ok (.iaload, 1) := by decide +kernel
theorem dX6_about_101 : decode cX6_about 101 = .ok (.ireturn, 1) := by decide +kernel
theorem dX6_about_102 : decode cX6_about 102 = .ok (.aload_n 0, 1) := by decide +kernel
theorem dX6_about_103 : decode cX6_about 103 = .ok (.getfield 16, 3) := by decide +kernel
theorem dX6_about_106 : decode cX6_about 106 = .ok (.iconst 2, 1) := by decide +kernel
theorem dX6_about_107 : decode cX6_about 107 = .ok (.iaload, 1) := by decide +kernel
theorem dX6_about_108 : decode cX6_about 108 = .ok (.ireturn, 1) := by decide +kernel
theorem dX6_about_109 : decode cX6_about 109 = .ok (.aload_n 0, 1) := by decide +kernel
theorem dX6_about_110 : decode cX6_about 110 = .ok (.getfield 16, 3) := by decide +kernel
theorem dX6_about_113 : decode cX6_about 113 = .ok (.iconst 3, 1) := by decide +kernel
theorem dX6_about_114 : decode cX6_about 114 = .ok (.iaload, 1) := by decide +kernel
theorem dX6_about_115 : decode cX6_about 115 = .ok (.ireturn, 1) := by decide +kernel
theorem dX6_about_116 : decode cX6_about 116 = .ok (.aload_n 0, 1) := by decide +kernel
theorem dX6_about_117 : decode cX6_about 117 = .ok (.getfield 16, 3) := by decide +kernel
theorem dX6_about_120 : decode cX6_about 120 = .ok (.iconst 1, 1) := by decide +kernel
theorem dX6_about_121 : decode cX6_about 121 = .ok (.iaload, 1) := by decide +kernel
theorem dX6_about_122 : decode cX6_about 122 = .ok (.aload_n 0, 1) := by decide +kernel
theorem dX6_about_123 : decode cX6_about 123 = .ok (.getfield 16, 3) := by decide +kernel
theorem dX6_about_126 : decode cX6_about 126 = .ok (.iconst 4, 1) := by decide +kernel
theorem dX6_about_127 : decode cX6_about 127 = .ok (.iaload, 1) := by decide +kernel
theorem dX6_about_128 : decode cX6_about 128 = .ok (.isub, 1) := by decide +kernel
theorem dX6_about_129 : decode cX6_about 129 = .ok (.ireturn, 1) := by decide +kernel
theorem dX6_about_130 : decode cX6_about 130 = .ok (.aload_n 0, 1) := by decide +kernel
theorem dX6_about_131 : decode cX6_about 131 = .ok (.getfield 16, 3) := by decide +kernel
theorem dX6_about_134 : decode cX6_about 134 = .ok (.iconst 5, 1) := by decide +kernel
theorem dX6_about_135 : decode cX6_about 135 = .ok (.iaload, 1) := by decide +kernel
theorem dX6_about_136 : decode cX6_about 136 = .ok (.ireturn, 1) := by decide +kernel
theorem dX6_about_137 : decode cX6_about 137 = .ok (.aload_n 0, 1) := by decide +kernel
theorem dX6_about_138 : decode cX6_about 138 = .ok (.getfield 16, 3) := by decide +kernel
theorem dX6_about_141 : decode cX6_about 141 = .ok (.bipush 6, 2) := by decide +kernel
theorem dX6_about_143 : decode cX6_about 143 = .ok (.iaload, 1) := by decide +kernel
theorem dX6_about_144 : decode cX6_about 144 = .ok (.ireturn, 1) := by decide +kernel
theorem dX6_about_145 : decode cX6_about 145 = .ok (.aload_n 0, 1) := by decide +kernel
theorem dX6_about_146 : decode cX6_about 146 = .ok (.getfield 16, 3) := by decide +kernel
theorem dX6_about_149 : decode cX6_about 149 = .ok (.bipush 7, 2) := by decide +kernel
theorem dX6_about_151 : decode cX6_about 151 = .ok (.iaload, 1) := by decide +kernel
theorem dX6_about_152 : decode cX6_about 152 = .ok (.ireturn, 1) := by decide +kernel
theorem dX6_about_153 : decode cX6_about 153 = .ok (.aload_n 0, 1) := by decide +kernel
theorem dX6_about_154 : decode cX6_about 154 = .ok (.getfield 16, 3) := by decide +kernel
theorem dX6_about_157 : decode cX6_about 157 = .ok (.invokestatic 80, 3) := by decide +kernel
theorem dX6_about_160 : decode cX6_about 160 = .ok (.ireturn, 1) := by decide +kernel
theorem dX6_about_161 : decode cX6_about 161 = .ok (.aload_n 0, 1) := by decide +kernel
theorem dX6_about_162 : decode cX6_about 162 = .ok (.getfield 16, 3) := by decide +kernel
theorem dX6_about_165 : decode cX6_about 165 = .ok (.bipush 8, 2) := by decide +kernel
theorem dX6_about_167 : decode cX6_about 167 = .ok (.iaload, 1) := by decide +kernel
theorem dX6_about_168 : decode cX6_about 168 = .ok (.ireturn, 1) := by decide +kernel
theorem dX6_about_169 : decode cX6_about 169 = .ok (.aload_n 0, 1) := by decide +kernel
theorem dX6_about_170 : decode cX6_about 170 = .ok (.getfield 16, 3) := by decide +kernel
theorem dX6_about_173 : decode cX6_about 173 = .ok (.invokestatic 173, 3) := by decide +kernel
theorem dX6_about_176 : decode cX6_about 176 = .ok (.ireturn, 1) := by decide +kernel
theorem dX6_about_177 : decode cX6_about 177 = .ok (.aload_n 0, 1) := by decide +kernel
theorem dX6_about_178 : decode cX6_about 178 = .ok (.getfield 16, 3) := by decide +kernel
theorem dX6_about_181 : decode cX6_about 181 = .ok (.bipush 74, 2) := by decide +kernel
theorem dX6_about_183 : decode cX6_about 183 = .ok (.iaload, 1) := by decide +kernel
theorem dX6_about_184 : decode cX6_about 184 = .ok (.ireturn, 1) := by decide +kernel
theorem dX6_about_185 : decode cX6_about 185 = .ok (.aload_n 0, 1) := by decide +kernel
theorem dX6_about_186 : decode cX6_about 186 = .ok (.getfield 16, 3) := by decide +kernel
theorem dX6_about_189 : decode cX6_about 189 = .ok (.iconst 5, 1) := by decide +kernel
theorem dX6_about_190 : decode cX6_about 190 = .ok (.invokestatic 176, 3) := by decide +kernel
theorem dX6_about_193 : decode cX6_about 193 = .ok (.ireturn, 1) := by decide +kernel
