theorem dX4_readOutside_0 : decode cX4_readOutside 0 = .ok (.aload_n 0, 1) := by decide +kernel
theorem dX4_readOutside_1 : decode cX4_readOutside 1 = .ok (.invokevirtual 34, 3) := by decide +kernel
theorem dX4_readOutside_4 : decode cX4_readOutside 4 = .ok (.istore_n 2, 1) := by decide +kernel
theorem dX4_readOutside_5 : decode cX4_readOutside 5 = .ok (.iload_n 2, 1) := by decide +kernel
theorem dX4_readOutside_6 : decode cX4_readOutside 6 = .ok (.bipush 43, 2) := by decide +kernel
theorem dX4_readOutside_8 : decode cX4_readOutside 8 = .ok (.if_icmp .eq 11, 3) := by decide +kernel
theorem dX4_readOutside_11 : decode cX4_readOutside 11 = .ok (.iload_n 2, 1) := by decide +kernel
theorem dX4_readOutside_12 : decode cX4_readOutside 12 = .ok (.bipush 45, 2) := by decide +kernel
theorem dX4_readOutside_14 : decode cX4_readOutside 14 = .ok (.if_icmp .eq 5, 3) := by decide +kernel
theorem dX4_readOutside_17 : decode cX4_readOutside 17 = .ok (.iconst 0, 1) := by decide +kernel
theorem dX4_readOutside_18 : decode cX4_readOutside 18 = .ok (.ireturn, 1) := by decide +kernel
theorem dX4_readOutside_19 : decode cX4_readOutside 19 = .ok (.aload_n 0, 1) := by decide +kernel
theorem dX4_readOutside_20 : decode cX4_readOutside 20 = .ok (.dup, 1) := by decide +kernel
theorem dX4_readOutside_21 : decode cX4_readOutside 21 = .ok (.getfield 28, 3) := by decide +kernel
theorem dX4_readOutside_24 : decode cX4_readOutside 24 = .ok (.iconst 1, 1) := by decide +kernel
theorem dX4_readOutside_25 : decode cX4_readOutside 25 = .ok (.iadd, 1) := by decide +kernel
theorem dX4_readOutside_26 : decode cX4_readOutside 26 = .ok (.putfield 28, 3) := by decide +kernel
theorem dX4_readOutside_29 : decode cX4_readOutside 29 = .ok (.iload_n 2, 1) := by decide +kernel
theorem dX4_readOutside_30 : decode cX4_readOutside 30 = .ok (.bipush 43, 2) := by decide +kernel
theorem dX4_readOutside_32 : decode cX4_readOutside 32 = .ok (.if_icmp .ne 14, 3) := by decide +kernel
theorem dX4_readOutside_35 : decode cX4_readOutside 35 = .ok (.aload_n 0, 1) := by decide +kernel
theorem dX4_readOutside_36 : decode cX4_readOutside 36 = .ok (.iconst 2, 1) := by decide +kernel
theorem dX4_readOutside_37 : decode cX4_readOutside 37 = .ok (.iconst 0, 1) := by decide +kernel
theorem dX4_readOutside_38 : decode cX4_readOutside 38 = .ok (.bipush 40, 2) := by decide +kernel
theorem dX4_readOutside_40 : decode cX4_readOutside 40 = .ok (.invokevirtual 52, 3) := by decide +kernel
theorem dX4_readOutside_43 : decode cX4_readOutside 43 = .ok (.goto 11, 3) := by decide +kernel
theorem dX4_readOutside_46 : decode cX4_readOutside 46 = .ok (.aload_n 0, 1) := by decide +kernel
theorem dX4_readOutside_47 : decode cX4_readOutside 47 = .ok (.iconst 2, 1) := by decide +kernel
theorem dX4_readOutside_48 : decode cX4_readOutside 48 = .ok (.iconst 1, 1) := by decide +kernel
theorem dX4_readOutside_49 : decode cX4_readOutside 49 = .ok (.bipush 20, 2) := by decide +kernel
theorem dX4_readOutside_51 : decode cX4_readOutside 51 = .ok (.invokevirtual 52, 3) := by decide +kernel
theorem dX4_readOutside_54 : decode cX4_readOutside 54 = .ok (.istore_n 3, 1) := by decide +kernel
theorem dX4_readOutside_55 : decode cX4_readOutside 55 = .ok (.iload_n 3, 1) := by decide +kernel
theorem dX4_readOutside_56 : decode cX4_readOutside 56 = .ok (.iconst (-1), 1) := by decide +kernel
theorem dX4_readOutside_57 : decode cX4_readOutside 57 = .ok (.if_icmp .ne 5, 3) := by decide +kernel
theorem dX4_readOutside_60 : decode cX4_readOutside 60 = .ok (.iconst 0, 1) := by decide +kernel
theorem dX4_readOutside_61 : decode cX4_readOutside 61 = .ok (.ireturn, 1) := by decide +kernel
theorem dX4_readOutside_62 : decode cX4_readOutside 62 = .ok (.aload_n 1, 1) := by decide +kernel
theorem dX4_readOutside_63 : decode cX4_readOutside 63 = .ok (.iload_n 2, 1) := by decide +kernel
theorem dX4_readOutside_64 : decode cX4_readOutside 64 = .ok (.bipush 43, 2) := by decide +kernel
theorem dX4_readOutside_66 : decode cX4_readOutside 66 = .ok (.if_icmp .ne 7, 3) := by decide +kernel
theorem dX4_readOutside_69 : decode cX4_readOutside 69 = .ok (.iload_n 3, 1) := by decide +kernel
theorem dX4_readOutside_70 : decode cX4_readOutside 70 = .ok (.goto 5, 3) := by decide +kernel
theorem dX4_readOutside_73 : decode cX4_readOutside 73 = .ok (.iload_n 3, 1) := by decide +kernel
theorem dX4_readOutside_74 : decode cX4_readOutside 74 = .ok (.ineg, 1) := by decide +kernel
theorem dX4_readOutside_75 : decode cX4_readOutside 75 = .ok (.putfield 71, 3) := by decide +kernel
theorem dX4_readOutside_78 : decode cX4_readOutside 78 = .ok (.iconst 1, 1) := by decide +kernel
theorem dX4_readOutside_79 : decode cX4_readOutside 79 = .ok (.ireturn, 1) := by decide +kernel
theorem dX4_readNumber_0 : decode cX4_readNumber 0 = .ok (.iconst 1, 1) := by decide +kernel
theorem dX4_readNumber_1 : decode cX4_readNumber 1 = .ok (.istore 4, 2) := by decide +kernel
theorem dX4_readNumber_3 : decode cX4_readNumber 3 = .ok (.iconst 1, 1) := by decide +kernel
theorem dX4_readNumber_4 : decode cX4_readNumber 4 = .ok (.istore 5, 2) := by decide +kernel
theorem dX4_readNumber_6 : decode cX4_readNumber 6 = .ok (.iload 5, 2) := by decide +kernel
theorem dX4_readNumber_8 : decode cX4_readNumber 8 = .ok (.iload_n 1, 1) := by decide +kernel
theorem dX4_readNumber_9 : decode cX4_readNumber 9 = .ok (.if_icmp .ge 16, 3) := by decide +kernel
theorem dX4_readNumber_12 : decode cX4_readNumber 12 = .ok (.iload 4, 2) := by decide +kernel
theorem dX4_readNumber_14 : decode cX4_readNumber 14 = .ok (.bipush 10, 2) := by decide +kernel
theorem dX4_readNumber_16 : decode cX4_readNumber 16 = .ok (.imul, 1) := by decide +kernel
theorem dX4_readNumber_17 : decode cX4_readNumber 17 = .ok (.istore 4, 2) := by decide +kernel
theorem dX4_readNumber_19 : decode cX4_readNumber 19 = .ok (.iinc 5 1, 3) := by decide +kernel
theorem dX4_readNumber_22 : decode cX4_readNumber 22 = .ok (.goto (-16), 3) := by decide +kernel
theorem dX4_readNumber_25 : decode cX4_readNumber 25 = .ok (.iconst 0, 1) := by decide +kernel
theorem dX4_readNumber_26 : decode cX4_readNumber 26 = .ok (.istore 5, 2) := by decide +kernel
theorem dX4_readNumber_28 : decode cX4_readNumber 28 = .ok (.iconst 0, 1) := by decide +kernel
theorem dX4_readNumber_29 : decode cX4_readNumber 29 = .ok (.istore 6, 2) := by decide +kernel
theorem dX4_readNumber_31 : decode cX4_readNumber 31 = .ok (.iload 6, 2) := by decide +kernel
theorem dX4_readNumber_33 : decode cX4_readNumber 33 = .ok (.iload_n 1, 1) := by decide +kernel
theorem dX4_readNumber_34 : decode cX4_readNumber 34 = .ok (.if_icmp .ge 84, 3) := by decide +kernel
theorem dX4_readNumber_37 : decode cX4_readNumber 37 = .ok (.aload_n 0, 1) := by decide +kernel
theorem dX4_readNumber_38 : decode cX4_readNumber 38 = .ok (.invokevirtual 34, 3) := by decide +kernel
theorem dX4_readNumber_41 : decode cX4_readNumber 41 = .ok (.istore 7, 2) := by decide +kernel
theorem dX4_readNumber_43 : decode cX4_readNumber 43 = .ok (.iload 7, 2) := by decide +kernel
theorem dX4_readNumber_45 : decode cX4_readNumber 45 = .ok (.bipush 48, 2) := by decide +kernel
theorem dX4_readNumber_47 : decode cX4_readNumber 47 = .ok (.if_icmp .lt 10, 3) := by decide +kernel
theorem dX4_readNumber_50 : decode cX4_readNumber 50 = .ok (.iload 7, 2) := by decide +kernel
theorem dX4_readNumber_52 : decode cX4_readNumber 52 = .ok (.bipush 57, 2) := by decide +kernel
theorem dX4_readNumber_54 : decode cX4_readNumber 54 = .ok (.if_icmp .le 5, 3) := by decide +kernel
theorem dX4_readNumber_57 : decode cX4_readNumber 57 = .ok (.iconst (-1), 1) := by decide +kernel
theorem dX4_readNumber_58 : decode cX4_readNumber 58 = .ok (.ireturn, 1) := by decide +kernel
theorem dX4_readNumber_59 : decode cX4_readNumber 59 = .ok (.iload 5, 2) := by decide +kernel
theorem dX4_readNumber_61 : decode cX4_readNumber 61 = .ok (.iload 7, 2) := by decide +kernel
theorem dX4_readNumber_63 : decode cX4_readNumber 63 = .ok (.bipush 48, 2) := by decide +kernel
theorem dX4_readNumber_65 : decode cX4_readNumber 65 = .ok (.isub, 1) := by decide +kernel
theorem dX4_readNumber_66 : decode cX4_readNumber 66 = .ok (.iload 4, 2) := by decide +kernel
theorem dX4_readNumber_68 : decode cX4_readNumber 68 = .ok (.imul, 1) := by decide +kernel
theorem dX4_readNumber_69 : decode cX4_readNumber 69 = .ok (.iadd, 1) := by decide +kernel
theorem dX4_readNumber_70 : decode cX4_readNumber 70 = .ok (.istore 8, 2) := by decide +kernel
theorem dX4_readNumber_72 : decode cX4_readNumber 72 = .ok (.iload 8, 2) := by decide +kernel
theorem dX4_readNumber_74 : decode cX4_readNumber 74 = .ok (.iload_n 3, 1) := by decide +kernel
theorem dX4_readNumber_75 : decode cX4_readNumber 75 = .ok (.if_icmp .gt 14, 3) := by decide +kernel
theorem dX4_readNumber_78 : decode cX4_readNumber 78 = .ok (.iload 8, 2) := by decide +kernel
theorem dX4_readNumber_80 : decode cX4_readNumber 80 = .ok (.iload 4, 2) := by decide +kernel
theorem dX4_readNumber_82 : decode cX4_readNumber 82 = .ok (.iadd, 1) := by decide +kernel
theorem dX4_readNumber_83 : decode cX4_readNumber 83 = .ok (.iconst 1, 1) := by decide +kernel
theorem dX4_readNumber_84 : decode cX4_readNumber 84 = .ok (.isub, 1) := by decide +kernel
theorem dX4_readNumber_85 : decode cX4_readNumber 85 = .ok (.iload_n 2, 1) := by decide +kernel
theorem dX4_readNumber_86 : decode cX4_readNumber 86 = .ok (.if_icmp .ge 5, 3) := by decide +kernel
theorem dX4_readNumber_89 : decode cX4_readNumber 89 = .ok (.iconst (-1), 1) := by decide +kernel
theorem dX4_readNumber_90 : decode cX4_readNumber 90 = .ok (.ireturn, 1) := by decide +kernel
theorem dX4_readNumber_91 : decode cX4_readNumber 91 = .ok (.iload 8, 2) := by decide +kernel
theorem dX4_readNumber_93 : decode cX4_readNumber 93 = .ok (.istore 5, 2) := by decide +kernel
theorem dX4_readNumber_95 : decode cX4_readNumber 95 = .ok (.iload 4, 2) := by decide +kernel
theorem dX4_readNumber_97 : decode cX4_readNumber 97 = .ok (.bipush 10, 2) := by decide +kernel
theorem dX4_readNumber_99 : decode cX4_readNumber 99 = .ok (.idiv, 1) := by decide +kernel
theorem dX4_readNumber_100 : decode cX4_readNumber 100 = .ok (.istore 4, 2) := by decide +kernel
theorem dX4_readNumber_102 : decode cX4_readNumber 102 = .ok (.aload_n 0, 1) := by decide +kernel
theorem dX4_readNumber_103 : decode cX4_readNumber 103 = .ok (.dup, 1) := by decide +kernel
theorem dX4_readNumber_104 : decode cX4_readNumber 104 = .ok (.getfield 28, 3) := by decide +kernel
theorem dX4_readNumber_107 : decode cX4_readNumber 107 = .ok (.iconst 1, 1) := by decide +kernel
theorem dX4_readNumber_108 : decode cX4_readNumber 108 = .ok (.iadd, 1) := by decide +kernel
theorem dX4_readNumber_109 : decode cX4_readNumber 109 = .ok (.putfield 28, 3) := by decide +kernel
theorem dX4_readNumber_112 : decode cX4_readNumber 112 = .ok (.iinc 6 1, 3) := by decide +kernel
theorem dX4_readNumber_115 : decode cX4_readNumber 115 = .ok (.goto (-84), 3) := by decide +kernel
theorem dX4_readNumber_118 : decode cX4_readNumber 118 = .ok (.iload 5, 2) := by decide +kernel
theorem dX4_readNumber_120 : decode cX4_readNumber 120 = .ok (.ireturn, 1) := by decide +kernel
theorem dX4_here_0 : decode cX4_here 0 = .ok (.aload_n 0, 1) := by decide +kernel
theorem dX4_here_1 : decode cX4_here 1 = .ok (.getfield 28, 3) := by decide +kernel
theorem dX4_here_4 : decode cX4_here 4 = .ok (.ifCond .lt 26, 3) := by decide +kernel
theorem dX4_here_7 : decode cX4_here 7 = .ok (.aload_n 0, 1) := by decide +kernel
theorem dX4_here_8 : decode cX4_here 8 = .ok (.getfield 28, 3) := by decide +kernel
theorem dX4_here_11 : decode cX4_here 11 = .ok (.aload_n 0, 1) := by decide +kernel
theorem dX4_here_12 : decode cX4_here 12 = .ok (.getfield 15, 3) := by decide +kernel
theorem dX4_here_15 : decode cX4_here 15 = .ok (.if_icmp .ge 15, 3) := by decide +kernel
theorem dX4_here_18 : decode cX4_here 18 = .ok (.aload_n 0, 1) := by decide +kernel
theorem dX4_here_19 : decode cX4_here 19 = .ok (.getfield 28, 3) := by decide +kernel
theorem dX4_here_22 : decode cX4_here 22 = .ok (.aload_n 0, 1) := by decide +kernel
theorem dX4_here_23 : decode cX4_here 23 = .ok (.getfield 9, 3) := by decide +kernel
theorem dX4_here_26 : decode cX4_here 26 = .ok (.arraylength, 1) := by decide +kernel
theorem dX4_here_27 : decode cX4_here 27 = .ok (.if_icmp .lt 5, 3) := by decide +kernel
theorem dX4_here_30 : decode cX4_here 30 = .ok (.iconst (-1), 1) := by decide +kernel
theorem dX4_here_31 : decode cX4_here 31 = .ok (.ireturn, 1) := by decide +kernel
theorem dX4_here_32 : decode cX4_here 32 = .ok (.aload_n 0, 1) := by decide +kernel
theorem dX4_here_33 : decode cX4_here 33 = .ok (.getfield 9, 3) := by decide +kernel
theorem dX4_here_36 : decode cX4_here 36 = .ok (.aload_n 0, 1) := by decide +kernel
theorem dX4_here_37 : decode cX4_here 37 = .ok (.getfield 28, 3) := by decide +kernel
theorem dX4_here_40 : decode cX4_here 40 = .ok (.caload, 1) := by decide +kernel
theorem dX4_here_41 : decode cX4_here 41 = .ok (.ireturn, 1) := by decide +kernel
theorem dX5_init_0 : decode cX5_init 0 = .ok (.aload_n 0, 1) := by decide +kernel
theorem dX5_init_1 : decode cX5_init 1 = .ok (.invokespecial 3, 3) := by decide +kernel
theorem dX5_init_4 : decode cX5_init 4 = .ok (.aload_n 0, 1) := by decide +kernel
theorem dX5_init_5 : decode cX5_init 5 = .ok (.bipush 80, 2) := by decide +kernel
theorem dX5_init_7 : decode cX5_init 7 = .ok (.newarray .char, 2) := by decide +kernel
theorem dX5_init_9 : decode cX5_init 9 = .ok (.putfield 9, 3) := by decide +kernel
theorem dX5_init_12 : decode cX5_init 12 = .ok (.aload_n 0, 1) := by decide +kernel
theorem dX5_init_13 : decode cX5_init 13 = .ok (.new 13, 3) := by decide +kernel
theorem dX5_init_16 : decode cX5_init 16 = .ok (.dup, 1) := by decide +kernel
theorem dX5_init_17 : decode cX5_init 17 = .ok (.invokespecial 15, 3) := by decide +kernel
theorem dX5_init_20 : decode cX5_init 20 = .ok (.putfield 16, 3) := by decide +kernel
theorem dX5_init_23 : decode cX5_init 23 = .ok (.aload_n 0, 1) := by decide +kernel
theorem dX5_init_24 : decode cX5_init 24 = .ok (.new 13, 3) := by decide +kernel
theorem dX5_init_27 : decode cX5_init 27 = .ok (.dup, 1) := by decide +kernel
theorem dX5_init_28 : decode cX5_init 28 = .ok (.invokespecial 15, 3) := by decide +kernel
theorem dX5_init_31 : decode cX5_init 31 = .ok (.putfield 20, 3) := by decide +kernel
theorem dX5_init_34 : decode cX5_init 34 = .ok (.aload_n 0, 1) := by decide +kernel
theorem dX5_init_35 : decode cX5_init 35 = .ok (.new 23, 3) := by decide +kernel
theorem dX5_init_38 : decode cX5_init 38 = .ok (.dup, 1) := by decide +kernel
theorem dX5_init_39 : decode cX5_init 39 = .ok (.invokespecial 25, 3) := by decide +kernel
theorem dX5_init_42 : decode cX5_init 42 = .ok (.putfield 26, 3) := by decide +kernel
theorem dX5_init_45 : decode cX5_init 45 = .ok (.aload_n 0, 1) := by decide +kernel
theorem dX5_init_46 : decode cX5_init 46 = .ok (.iconst 2, 1) := by decide +kernel
theorem dX5_init_47 : decode cX5_init 47 = .ok (.anewarray 13, 3) := by decide +kernel
theorem dX5_init_50 : decode cX5_init 50 = .ok (.putfield 30, 3) := by decide +kernel
theorem dX5_init_53 : decode cX5_init 53 = .ok (.aload_n 0, 1) := by decide +kernel
theorem dX5_init_54 : decode cX5_init 54 = .ok (.iconst 2, 1) := by decide +kernel
theorem dX5_init_55 : decode cX5_init 55 = .ok (.newarray .boolean, 2) := by decide +kernel
theorem dX5_init_57 : decode cX5_init 57 = .ok (.putfield 34, 3) := by decide +kernel
theorem dX5_init_60 : decode cX5_init 60 = .ok (.iconst 0, 1) := by decide +kernel
theorem dX5_init_61 : decode cX5_init 61 = .ok (.istore_n 1, 1) := by decide +kernel
theorem dX5_init_62 : decode cX5_init 62 = .ok (.iload_n 1, 1) := by decide +kernel
theorem dX5_init_63 : decode cX5_init 63 = .ok (.aload_n 0, 1) := by decide +kernel
theorem dX5_init_64 : decode cX5_init 64 = .ok (.getfield 30, 3) := by decide +kernel
theorem dX5_init_67 : decode cX5_init 67 = .ok (.arraylength, 1) := by decide +kernel
theorem dX5_init_68 : decode cX5_init 68 = .ok (.if_icmp .ge 22, 3) := by decide +kernel
theorem dX5_init_71 : decode cX5_init 71 = .ok (.aload_n 0, 1) := by decide +kernel
theorem dX5_init_72 : decode cX5_init 72 = .ok (.getfield 30, 3) := by decide +kernel
theorem dX5_init_75 : decode cX5_init 75 = .ok (.iload_n 1, 1) := by decide +kernel
theorem dX5_init_76 : decode cX5_init 76 = .ok (.new 13, 3) := by decide +kernel
theorem dX5_init_79 : decode cX5_init 79 = .ok (.dup, 1) := by decide +kernel
theorem dX5_init_80 : decode cX5_init 80 = .ok (.invokespecial 15, 3) := by decide +kernel
theorem dX5_init_83 : decode cX5_init 83 = .ok (.aastore, 1) := by decide +kernel
theorem dX5_init_84 : decode cX5_init 84 = .ok (.iinc 1 1, 3) := by decide +kernel
theorem dX5_init_87 : decode cX5_init 87 = .ok (.goto (-25), 3) := by decide +kernel
theorem dX5_init_90 : decode cX5_init 90 = .ok (.return_, 1) := by decide +kernel
theorem dX5_append_0 : decode cX5_append 0 = .ok (.iload_n 1, 1) := by decide +kernel
theorem dX5_append_1 : decode cX5_append 1 = .ok (.ifCond .lt 10, 3) := by decide +kernel
theorem dX5_append_4 : decode cX5_append 4 = .ok (.iload_n 1, 1) := by decide +kernel
theorem dX5_append_5 : decode cX5_append 5 = .ok (.sipush 255, 3) := by decide +kernel
theorem dX5_append_8 : decode cX5_append 8 = .ok (.if_icmp .le 13, 3) := by decide +kernel
theorem dX5_append_11 : decode cX5_append 11 = .ok (.new 38, 3) := by decide +kernel
theorem dX5_append_14 : decode cX5_append 14 = .ok (.dup, 1) := by decide +kernel
theorem dX5_append_15 : decode cX5_append 15 = .ok (.ldc 40, 2) := by decide +kernel
theorem dX5_append_17 : decode cX5_append 17 = .ok (.invokespecial 42, 3) := by decide +kernel
theorem dX5_append_20 : decode cX5_append 20 = .ok (.athrow, 1) := by decide +kernel
theorem dX5_append_21 : decode cX5_append 21 = .ok (.aload_n 0, 1) := by decide +kernel
theorem dX5_append_22 : decode cX5_append 22 = .ok (.getfield 45, 3) := by decide +kernel
theorem dX5_append_25 : decode cX5_append 25 = .ok (.ifCond .lt 15, 3) := by decide +kernel
theorem dX5_append_28 : decode cX5_append 28 = .ok (.aload_n 0, 1) := by decide +kernel
theorem dX5_append_29 : decode cX5_append 29 = .ok (.getfield 45, 3) := by decide +kernel
theorem dX5_append_32 : decode cX5_append 32 = .ok (.aload_n 0, 1) := by decide +kernel
theorem dX5_append_33 : decode cX5_append 33 = .ok (.getfield 9, 3) := by decide +kernel
theorem dX5_append_36 : decode cX5_append 36 = .ok (.arraylength, 1) := by decide +kernel
theorem dX5_append_37 : decode cX5_append 37 = .ok (.if_icmp .lt 13, 3) := by decide +kernel
theorem dX5_append_40 : decode cX5_append 40 = .ok (.new 49, 3) := by decide +kernel
theorem dX5_append_43 : decode cX5_append 43 = .ok (.dup, 1) := by decide +kernel
theorem dX5_append_44 : decode cX5_append 44 = .ok (.ldc 51, 2) := by decide +kernel
theorem dX5_append_46 : decode cX5_append 46 = .ok (.invokespecial 53, 3) := by decide +kernel
theorem dX5_append_49 : decode cX5_append 49 = .ok (.athrow, 1) := by decide +kernel
theorem dX5_append_50 : decode cX5_append 50 = .ok (.aload_n 0, 1) := by decide +kernel
theorem dX5_append_51 : decode cX5_append 51 = .ok (.getfield 9, 3) := by decide +kernel
theorem dX5_append_54 : decode cX5_append 54 = .ok (.aload_n 0, 1) := by decide +kernel
theorem dX5_append_55 : decode cX5_append 55 = .ok (.getfield 45, 3) := by decide +kernel
theorem dX5_append_58 : decode cX5_append 58 = .ok (.iload_n 1, 1) := by decide +kernel
theorem dX5_append_59 : decode cX5_append 59 = .ok (.i2c, 1) := by decide +kernel
theorem dX5_append_60 : decode cX5_append 60 = .ok (.castore, 1) := by decide +kernel
theorem dX5_append_61 : decode cX5_append 61 = .ok (.aload_n 0, 1) := by decide +kernel
theorem dX5_append_62 : decode cX5_append 62 = .ok (.dup, 1) := by decide +kernel
theorem dX5_append_63 : decode cX5_append 63 = .ok (.getfield 45, 3) := by decide +kernel
theorem dX5_append_66 : decode cX5_append 66 = .ok (.iconst 1, 1) := by decide +kernel
theorem dX5_append_67 : decode cX5_append 67 = .ok (.iadd, 1) := by decide +kernel
theorem dX5_append_68 : decode cX5_append 68 = .ok (.putfield 45, 3) := by decide +kernel
theorem dX5_append_71 : decode cX5_append 71 = .ok (.aload_n 0, 1) := by decide +kernel
theorem dX5_append_72 : decode cX5_append 72 = .ok (.getfield 45, 3) := by decide +kernel
theorem dX5_append_75 : decode cX5_append 75 = .ok (.ireturn, 1) := by decide +kernel
theorem dX5_clearText_0 : decode cX5_clearText 0 = .ok (.aload_n 0, 1) := by decide +kernel
theorem dX5_clearText_1 : decode cX5_clearText 1 = .ok (.getfield 45, 3) := by decide +kernel
theorem dX5_clearText_4 : decode cX5_clearText 4 = .ok (.istore_n 1, 1) := by decide +kernel
theorem dX5_clearText_5 : decode cX5_clearText 5 = .ok (.aload_n 0, 1) := by decide +kernel
theorem dX5_clearText_6 : decode cX5_clearText 6 = .ok (.iconst 0, 1) := by decide +kernel
theorem dX5_clearText_7 : decode cX5_clearText 7 = .ok (.putfield 45, 3) := by decide +kernel
theorem dX5_clearText_10 : decode cX5_clearText 10 = .ok (.iload_n 1, 1) := by decide +kernel
theorem dX5_clearText_11 : decode cX5_clearText 11 = .ok (.ireturn, 1) := by decide +kernel
theorem dX5_errorPosition_0 : decode cX5_errorPosition 0 = .ok (.new 54, 3) := by decide +kernel
theorem dX5_errorPosition_3 : decode cX5_errorPosition 3 = .ok (.dup, 1) := by decide +kernel
theorem dX5_errorPosition_4 : decode cX5_errorPosition 4 = .ok (.aload_n 0, 1) := by decide +kernel
theorem dX5_errorPosition_5 : decode cX5_errorPosition 5 = .ok (.getfield 9, 3) := by decide +kernel
theorem dX5_errorPosition_8 : decode cX5_errorPosition 8 = .ok (.aload_n 0, 1) := by decide +kernel
theorem dX5_errorPosition_9 : decode cX5_errorPosition 9 = .ok (.getfield 45, 3) := by decide +kernel
theorem dX5_errorPosition_12 : decode cX5_errorPosition 12 = .ok (.invokespecial 56, 3) := by decide +kernel
theorem dX5_errorPosition_15 : decode cX5_errorPosition 15 = .ok (.astore_n 1, 1) := by decide +kernel
theorem dX5_errorPosition_16 : decode cX5_errorPosition 16 = .ok (.aload_n 1, 1) := by decide +kernel
theorem dX5_errorPosition_17 : decode cX5_errorPosition 17 = .ok (.aload_n 0, 1) := by decide +kernel
theorem dX5_errorPosition_18 : decode cX5_errorPosition 18 = .ok (.getfield 20, 3) := by decide +kernel
theorem dX5_errorPosition_21 : decode cX5_errorPosition 21 = .ok (.invokevirtual 59, 3) := by decide +kernel
theorem dX5_errorPosition_24 : decode cX5_errorPosition 24 = .ok (.ifCond .eq 8, 3) := by decide +kernel
theorem dX5_errorPosition_27 : decode cX5_errorPosition 27 = .ok (.ldc 63, 2) := by decide +kernel
theorem dX5_errorPosition_29 : decode cX5_errorPosition 29 = .ok (.goto 7, 3) := by decide +kernel
theorem dX5_errorPosition_32 : decode cX5_errorPosition 32 = .ok (.aload_n 1, 1) := by decide +kernel
theorem dX5_errorPosition_33 : decode cX5_errorPosition 33 = .ok (.getfield 64, 3) := by decide +kernel
theorem dX5_errorPosition_36 : decode cX5_errorPosition 36 = .ok (.ireturn, 1) := by decide +kernel
theorem dX5_load_0 : decode cX5_load 0 = .ok (.new 54, 3) := by decide +kernel
theorem dX5_load_3 : decode cX5_load 3 = .ok (.dup, 1) := by decide +kernel
theorem dX5_load_4 : decode cX5_load 4 = .ok (.aload_n 0, 1) := by decide +kernel
theorem dX5_load_5 : decode cX5_load 5 = .ok (.getfield 9, 3) := by decide +kernel
theorem dX5_load_8 : decode cX5_load 8 = .ok (.aload_n 0, 1) := by decide +kernel
theorem dX5_load_9 : decode cX5_load 9 = .ok (.getfield 45, 3) := by decide +kernel
theorem dX5_load_12 : decode cX5_load 12 = .ok (.invokespecial 56, 3) := by decide +kernel
theorem dX5_load_15 : decode cX5_load 15 = .ok (.astore_n 1, 1) := by decide +kernel
theorem dX5_load_16 : decode cX5_load 16 = .ok (.aload_n 1, 1) := by decide +kernel
theorem dX5_load_17 : decode cX5_load 17 = .ok (.aload_n 0, 1) := by decide +kernel
theorem dX5_load_18 : decode cX5_load 18 = .ok (.getfield 20, 3) := by decide +kernel
theorem dX5_load_21 : decode cX5_load 21 = .ok (.invokevirtual 59, 3) := by decide +kernel
theorem dX5_load_24 : decode cX5_load 24 = .ok (.ifCond .ne 13, 3) := by decide +kernel
theorem dX5_load_27 : decode cX5_load 27 = .ok (.new 49, 3) := by decide +kernel
theorem dX5_load_30 : decode cX5_load 30 = .ok (.dup, 1) := by decide +kernel
theorem dX5_load_31 : decode cX5_load 31 = .ok (.ldc 67, 2) := by decide +kernel
theorem dX5_load_33 : decode cX5_load 33 = .ok (.invokespecial 53, 3) := by decide +kernel
theorem dX5_load_36 : decode cX5_load 36 = .ok (.athrow, 1) := by decide +kernel
theorem dX5_load_37 : decode cX5_load 37 = .ok (.aload_n 0, 1) := by decide +kernel
theorem dX5_load_38 : decode cX5_load 38 = .ok (.getfield 16, 3) := by decide +kernel
theorem dX5_load_41 : decode cX5_load 41 = .ok (.aload_n 0, 1) := by decide +kernel
theorem dX5_load_42 : decode cX5_load 42 = .ok (.getfield 20, 3) := by decide +kernel
theorem dX5_load_45 : decode cX5_load 45 = .ok (.invokevirtual 69, 3) := by decide +kernel
theorem dX5_load_48 : decode cX5_load 48 = .ok (.aload_n 0, 1) := by decide +kernel
theorem dX5_load_49 : decode cX5_load 49 = .ok (.getfield 26, 3) := by decide +kernel
theorem dX5_load_52 : decode cX5_load 52 = .ok (.invokevirtual 73, 3) := by decide +kernel
theorem dX5_load_55 : decode cX5_load 55 = .ok (.iconst 0, 1) := by decide +kernel
theorem dX5_load_56 : decode cX5_load 56 = .ok (.istore_n 2, 1) := by decide +kernel
theorem dX5_load_57 : decode cX5_load 57 = .ok (.iload_n 2, 1) := by decide +kernel
theorem dX5_load_58 : decode cX5_load 58 = .ok (.aload_n 0, 1) := by decide +kernel
theorem dX5_load_59 : decode cX5_load 59 = .ok (.getfield 34, 3) := by decide +kernel
theorem dX5_load_62 : decode cX5_load 62 = .ok (.arraylength, 1) := by decide +kernel
theorem dX5_load_63 : decode cX5_load 63 = .ok (.if_icmp .ge 16, 3) := by decide +kernel
theorem dX5_load_66 : decode cX5_load 66 = .ok (.aload_n 0, 1) := by decide +kernel
theorem dX5_load_67 : decode cX5_load 67 = .ok (.getfield 34, 3) := by decide +kernel
theorem dX5_load_70 : decode cX5_load 70 = .ok (.iload_n 2, 1) := by decide +kernel
theorem dX5_load_71 : decode cX5_load 71 = .ok (.iconst 0, 1) := by decide +kernel
theorem dX5_load_72 : decode cX5_load 72 = .ok (.bastore, 1) := by decide +kernel
theorem dX5_load_73 : decode cX5_load 73 = .ok (.iinc 2 1, 3) := by decide +kernel
theorem dX5_load_76 : decode cX5_load 76 = .ok (.goto (-19), 3) := by decide +kernel
theorem dX5_load_79 : decode cX5_load 79 = .ok (.aload_n 0, 1) := by decide +kernel
theorem dX5_load_80 : decode cX5_load 80 = .ok (.getfield 16, 3) := by decide +kernel
theorem dX5_load_83 : decode cX5_load 83 = .ok (.getfield 76, 3) := by decide +kernel
theorem dX5_load_86 : decode cX5_load 86 = .ok (.ireturn, 1) := by decide +kernel
theorem dX5_about_0 : decode cX5_about 0 = .ok (.iload_n 1, 1) := by decide +kernel
theorem dX5_about_1 : decode cX5_about 1 = .ok (.tableswitch 190 0 12 #[67, 75, 83, 91, 107, 115, 123, 139, 147, 155, 163, 171, 182], 67) := by decide +kernel
theorem dX5_about_68 : decode cX5_about 68 = .ok (.aload_n 0, 1) := by decide +kernel
theorem dX5_about_69 : decode cX5_about 69 = .ok (.getfield 16, 3) := by decide +kernel
theorem dX5_about_72 : decode cX5_about 72 = .ok (.getfield 76, 3) := by decide +kernel
theorem dX5_about_75 : decode cX5_about 75 = .ok (.ireturn, 1) := by decide +kernel
theorem dX5_about_76 : decode cX5_about 76 = .ok (.aload_n 0, 1) := by decide +kernel
theorem dX5_about_77 : decode cX5_about 77 = .ok (.getfield 16, 3) := by decide +kernel
theorem dX5_about_80 : decode cX5_about 80 = .ok (.getfield 79, 3) := by decide +kernel
theorem dX5_about_83 : decode cX5_about 83 = .ok (.ireturn, 1) := by decide +kernel
theorem dX5_about_84 : decode cX5_about 84 = .ok (.aload_n 0, 1) := by decide +kernel
theorem dX5_about_85 : decode cX5_about 85 = .ok (.getfield 16, 3) := by decide +kernel
theorem dX5_about_88 : decode cX5_about 88 = .ok (.getfield 82, 3) := by decide +kernel
theorem dX5_about_91 : decode cX5_about 91 = .ok (.ireturn, 1) := by decide +kernel
theorem dX5_about_92 : decode cX5_about 92 = .ok (.aload_n 0, 1) := by decide +kernel
theorem dX5_about_93 : decode cX5_about 93 = .ok (.getfield 16, 3) := by decide +kernel
theorem dX5_about_96 : decode cX5_about 96 = .ok (.getfield 85, 3) := by decide +kernel
theorem dX5_about_99 : decode cX5_about 99 = .ok (.ifCond .eq 7, 3) := by decide +kernel
theorem dX5_about_102 : decode cX5_about 102 = .ok (.iconst 1, 1) := by decide +kernel
theorem dX5_about_103 : decode cX5_about 103 = .ok (.goto 4, 3) := by decide +kernel
theorem dX5_about_106 : decode cX5_about 106 = .ok (.iconst 0, 1) := by decide +kernel
theorem dX5_about_107 : decode cX5_about 107 = .ok (.ireturn, 1) := by decide +kernel
theorem dX5_about_108 : decode cX5_about 108 = .ok (.aload_n 0, 1) := by decide +kernel
theorem dX5_about_109 : decode cX5_about 109 = .ok (.getfield 16, 3) := by decide +kernel
theorem dX5_about_112 : decode cX5_about 112 = .ok (.getfield 89, 3) := by decide +kernel
theorem dX5_about_115 : decode cX5_about 115 = .ok (.ireturn, 1) := by decide +kernel
theorem dX5_about_116 : decode cX5_about 116 = .ok (.aload_n 0, 1) := by decide +kernel
theorem dX5_about_117 : decode cX5_about 117 = .ok (.getfield 16, 3) := by decide +kernel
theorem dX5_about_120 : decode cX5_about 120 = .ok (.getfield 92, 3) := by decide +kernel
theorem dX5_about_123 : decode cX5_about 123 = .ok (.ireturn, 1) := by decide +kernel
theorem dX5_about_124 : decode cX5_about 124 = .ok (.aload_n 0, 1) := by decide +kernel
theorem dX5_about_125 : decode cX5_about 125 = .ok (.getfield 16, 3) := by decide +kernel
theorem dX5_about_128 : decode cX5_about 128 = .ok (.getfield 95, 3) := by decide +kernel
theorem dX5_about_131 : decode cX5_about 131 = .ok (.ifCond .eq 7, 3) := by decide +kernel
theorem dX5_about_134 : decode cX5_about 134 = .ok (.iconst 1, 1) := by decide +kernel
theorem dX5_about_135 : decode cX5_about 135 = .ok (.goto 4, 3) := by decide +kernel
theorem dX5_about_138 : decode cX5_about 138 = .ok (.iconst 0, 1) := by decide +kernel
theorem dX5_about_139 : decode cX5_about 139 = .ok (.ireturn, 1) := by decide +kernel
theorem dX5_about_140 : decode cX5_about 140 = .ok (.aload_n 0, 1) := by decide +kernel
theorem dX5_about_141 : decode cX5_about 141 = .ok (.getfield 16, 3) := by decide +kernel
theorem dX5_about_144 : decode cX5_about 144 = .ok (.getfield 98, 3) := by decide +kernel
theorem dX5_about_147 : decode cX5_about 147 = .ok (.ireturn, 1) := by decide +kernel
theorem dX5_about_148 : decode cX5_about 148 = .ok (.aload_n 0, 1) := by decide +kernel
theorem dX5_about_149 : decode cX5_about 149 = .ok (.getfield 16, 3) := by decide +kernel
theorem dX5_about_152 : decode cX5_about 152 = .ok (.invokevirtual 101, 3) := by decide +kernel
theorem dX5_about_155 : decode cX5_about 155 = .ok (.ireturn, 1) := by decide +kernel
theorem dX5_about_156 : decode cX5_about 156 = .ok (.aload_n 0, 1) := by decide +kernel
theorem dX5_about_157 : decode cX5_about 157 = .ok (.getfield 16, 3) := by decide +kernel
theorem dX5_about_160 : decode cX5_about 160 = .ok (.getfield 105, 3) := by decide +kernel
theorem dX5_about_163 : decode cX5_about 163 = .ok (.ireturn, 1) := by decide +kernel
theorem dX5_about_164 : decode cX5_about 164 = .ok (.aload_n 0, 1) := by decide +kernel
theorem dX5_about_165 : decode cX5_about 165 = .ok (.getfield 16, 3) := by decide +kernel
theorem dX5_about_168 : decode cX5_about 168 = .ok (.invokevirtual 108, 3) := by decide +kernel
theorem dX5_about_171 : decode cX5_about 171 = .ok (.ireturn, 1) := by decide +kernel
theorem dX5_about_172 : decode cX5_about 172 = .ok (.aload_n 0, 1) := by decide +kernel
theorem dX5_about_173 : decode cX5_about 173 = .ok (.getfield 16, 3) := by decide +kernel
theorem dX5_about_176 : decode cX5_about 176 = .ok (.getfield 111, 3) := by decide +kernel
theorem dX5_about_179 : decode cX5_about 179 = .ok (.getfield 115, 3) := by decide +kernel
theorem dX5_about_182 : decode cX5_about 182 = .ok (.ireturn, 1) := by decide +kernel
theorem dX5_about_183 : decode cX5_about 183 = .ok (.aload_n 0, 1) := by decide +kernel
theorem dX5_about_184 : decode cX5_about 184 = .ok (.getfield 16, 3) := by decide +kernel
theorem dX5_about_187 : decode cX5_about 187 = .ok (.invokevirtual 120, 3) := by decide +kernel
theorem dX5_about_190 : decode cX5_about 190 = .ok (.ireturn, 1) := by decide +kernel
theorem dX5_about_191 : decode cX5_about 191 = .ok (.new 38, 3) := by decide +kernel
theorem dX5_about_194 : decode cX5_about 194 = .ok (.dup, 1) := by decide +kernel
theorem dX5_about_195 : decode cX5_about 195 = .ok (.ldc 123, 2) := by decide +kernel
theorem dX5_about_197 : decode cX5_about 197 = .ok (.invokespecial 42, 3) := by decide +kernel
theorem dX5_about_200 : decode cX5_about 200 = .ok (.athrow, 1) := by decide +kernel
theorem dX5_setting_0 : decode cX5_setting 0 = .ok (.iload_n 1, 1) := by decide +kernel
theorem dX5_setting_1 : decode cX5_setting 1 = .ok (.ifCond .lt 9, 3) := by decide +kernel
theorem dX5_setting_4 : decode cX5_setting 4 = .ok (.iload_n 1, 1) := by decide +kernel
theorem dX5_setting_5 : decode cX5_setting 5 = .ok (.bipush 9, 2) := by decide +kernel
theorem dX5_setting_7 : decode cX5_setting 7 = .ok (.if_icmp .lt 13, 3) := by decide +kernel
theorem dX5_setting_10 : decode cX5_setting 10 = .ok (.new 38, 3) := by decide +kernel
theorem dX5_setting_13 : decode cX5_setting 13 = .ok (.dup, 1) := by decide +kernel
theorem dX5_setting_14 : decode cX5_setting 14 = .ok (.ldc 125, 2) := by decide +kernel
theorem dX5_setting_16 : decode cX5_setting 16 = .ok (.invokespecial 42, 3) := by decide +kernel
theorem dX5_setting_19 : decode cX5_setting 19 = .ok (.athrow, 1) := by decide +kernel
theorem dX5_setting_20 : decode cX5_setting 20 = .ok (.aload_n 0, 1) := by decide +kernel
theorem dX5_setting_21 : decode cX5_setting 21 = .ok (.getfield 16, 3) := by decide +kernel
theorem dX5_setting_24 : decode cX5_setting 24 = .ok (.iload_n 1, 1) := by decide +kernel
theorem dX5_setting_25 : decode cX5_setting 25 = .ok (.invokevirtual 127, 3) := by decide +kernel
theorem dX5_setting_28 : decode cX5_setting 28 = .ok (.ireturn, 1) := by decide +kernel
theorem dX5_place_0 : decode cX5_place 0 = .ok (.aload_n 0, 1) := by decide +kernel
theorem dX5_place_1 : decode cX5_place 1 = .ok (.getfield 16, 3) := by decide +kernel
theorem dX5_place_4 : decode cX5_place 4 = .ok (.iload_n 1, 1) := by decide +kernel
theorem dX5_place_5 : decode cX5_place 5 = .ok (.invokevirtual 131, 3) := by decide +kernel
theorem dX5_place_8 : decode cX5_place 8 = .ok (.ifCond .ne 13, 3) := by decide +kernel
theorem dX5_place_11 : decode cX5_place 11 = .ok (.new 135, 3) := by decide +kernel
theorem dX5_place_14 : decode cX5_place 14 = .ok (.dup, 1) := by decide +kernel
theorem dX5_place_15 : decode cX5_place 15 = .ok (.ldc 137, 2) := by decide +kernel
theorem dX5_place_17 : decode cX5_place 17 = .ok (.invokespecial 139, 3) := by decide +kernel
theorem dX5_place_20 : decode cX5_place 20 = .ok (.athrow, 1) := by decide +kernel
theorem dX5_place_21 : decode cX5_place 21 = .ok (.iload_n 2, 1) := by decide +kernel
theorem dX5_place_22 : decode cX5_place 22 = .ok (.tableswitch 53 0 2 #[26, 35, 44], 26) := by decide +kernel
theorem dX5_place_48 : decode cX5_place 48 = .ok (.aload_n 0, 1) := by decide +kernel
theorem dX5_place_49 : decode cX5_place 49 = .ok (.getfield 16, 3) := by decide +kernel
theorem dX5_place_52 : decode cX5_place 52 = .ok (.iload_n 1, 1) := by decide +kernel
theorem dX5_place_53 : decode cX5_place 53 = .ok (.invokevirtual 140, 3) := by decide +kernel
theorem dX5_place_56 : decode cX5_place 56 = .ok (.ireturn, 1) := by decide +kernel
theorem dX5_place_57 : decode cX5_place 57 = .ok (.aload_n 0, 1) := by decide +kernel
theorem dX5_place_58 : decode cX5_place 58 = .ok (.getfield 16, 3) := by decide +kernel
theorem dX5_place_61 : decode cX5_place 61 = .ok (.iload_n 1, 1) := by decide +kernel
theorem dX5_place_62 : decode cX5_place 62 = .ok (.invokevirtual 143, 3) := by decide +kernel
theorem dX5_place_65 : decode cX5_place 65 = .ok (.ireturn, 1) := by decide +kernel
theorem dX5_place_66 : decode cX5_place 66 = .ok (.aload_n 0, 1) := by decide +kernel
theorem dX5_place_67 : decode cX5_place 67 = .ok (.getfield 16, 3) := by decide +kernel
theorem dX5_place_70 : decode cX5_place 70 = .ok (.iload_n 1, 1) := by decide +kernel
theorem dX5_place_71 : decode cX5_place 71 = .ok (.invokevirtual 146, 3) := by decide +kernel
theorem dX5_place_74 : decode cX5_place 74 = .ok (.ireturn, 1) := by decide +kernel
theorem dX5_place_75 : decode cX5_place 75 = .ok (.new 38, 3) := by decide +kernel
theorem dX5_place_78 : decode cX5_place 78 = .ok (.dup, 1) := by decide +kernel
theorem dX5_place_79 : decode cX5_place 79 = .ok (.ldc 149, 2) := by decide +kernel
theorem dX5_place_81 : decode cX5_place 81 = .ok (.invokespecial 42, 3) := by decide +kernel
theorem dX5_place_84 : decode cX5_place 84 = .ok (.athrow, 1) := by decide +kernel
theorem dX5_room_0 : decode cX5_room 0 = .ok (.aload_n 0, 1) := by decide +kernel
theorem dX5_room_1 : decode cX5_room 1 = .ok (.getfield 16, 3) := by decide +kernel
theorem dX5_room_4 : decode cX5_room 4 = .ok (.iload_n 1, 1) := by decide +kernel
theorem dX5_room_5 : decode cX5_room 5 = .ok (.invokevirtual 151, 3) := by decide +kernel
theorem dX5_room_8 : decode cX5_room 8 = .ok (.ifCond .ne 13, 3) := by decide +kernel
theorem dX5_room_11 : decode cX5_room 11 = .ok (.new 135, 3) := by decide +kernel
theorem dX5_room_14 : decode cX5_room 14 = .ok (.dup, 1) := by decide +kernel
theorem dX5_room_15 : decode cX5_room 15 = .ok (.ldc 154, 2) := by decide +kernel
theorem dX5_room_17 : decode cX5_room 17 = .ok (.invokespecial 139, 3) := by decide +kernel
theorem dX5_room_20 : decode cX5_room 20 = .ok (.athrow, 1) := by decide +kernel
theorem dX5_room_21 : decode cX5_room 21 = .ok (.aload_n 0, 1) := by decide +kernel
theorem dX5_room_22 : decode cX5_room 22 = .ok (.getfield 16, 3) := by decide +kernel
theorem dX5_room_25 : decode cX5_room 25 = .ok (.getfield 156, 3) := by decide +kernel
theorem dX5_room_28 : decode cX5_room 28 = .ok (.iload_n 1, 1) := by decide +kernel
theorem dX5_room_29 : decode cX5_room 29 = .ok (.aaload, 1) := by decide +kernel
theorem dX5_room_30 : decode cX5_room 30 = .ok (.astore_n 3, 1) := by decide +kernel
theorem dX5_room_31 : decode cX5_room 31 = .ok (.iload_n 2, 1) := by decide +kernel
theorem dX5_room_32 : decode cX5_room 32 = .ok (.tableswitch 87 0 6 #[44, 49, 54, 59, 72, 77, 82], 44) := by decide +kernel
theorem dX5_room_76 : decode cX5_room 76 = .ok (.aload_n 3, 1) := by decide +kernel
theorem dX5_room_77 : decode cX5_room 77 = .ok (.getfield 160, 3) := by decide +kernel
theorem dX5_room_80 : decode cX5_room 80 = .ok (.ireturn, 1) := by decide +kernel
theorem dX5_room_81 : decode cX5_room 81 = .ok (.aload_n 3, 1) := by decide +kernel
theorem dX5_room_82 : decode cX5_room 82 = .ok (.getfield 165, 3) := by decide +kernel
theorem dX5_room_85 : decode cX5_room 85 = .ok (.ireturn, 1) := by decide +kernel
theorem dX5_room_86 : decode cX5_room 86 = .ok (.aload_n 3, 1) := by decide +kernel
theorem dX5_room_87 : decode cX5_room 87 = .ok (.getfield 168, 3) := by decide +kernel
theorem dX5_room_90 : decode cX5_room 90 = .ok (.ireturn, 1) := by decide +kernel
theorem dX5_room_91 : decode cX5_room 91 = .ok (.aload_n 3, 1) := by decide +kernel
theorem dX5_room_92 : decode cX5_room 92 = .ok (.getfield 171, 3) := by decide +kernel
theorem dX5_room_95 : decode cX5_room 95 = .ok (.ifCond .eq 7, 3) := by decide +kernel
theorem dX5_room_98 : decode cX5_room 98 = .ok (.iconst 1, 1) := by decide +kernel
theorem dX5_room_99 : decode cX5_room 99 = .ok (.goto 4, 3) := by decide +kernel
theorem dX5_room_102 : decode cX5_room 102 = .ok (.iconst 0, 1) := by decide +kernel
theorem dX5_room_103 : decode cX5_room 103 = .ok (.ireturn, 1) := by decide +kernel
theorem dX5_room_104 : decode cX5_room 104 = .ok (.aload_n 3, 1) := by decide +kernel
theorem dX5_room_105 : decode cX5_room 105 = .ok (.getfield 174, 3) := by decide +kernel
theorem dX5_room_108 : decode cX5_room 108 = .ok (.ireturn, 1) := by decide +kernel
theorem dX5_room_109 : decode cX5_room 109 = .ok (.aload_n 3, 1) := by decide +kernel
theorem dX5_room_110 : decode cX5_room 110 = .ok (.getfield 177, 3) := by decide +kernel
theorem dX5_room_113 : decode cX5_room 113 = .ok (.ireturn, 1) := by decide +kernel
theorem dX5_room_114 : decode cX5_room 114 = .ok (.aload_n 3, 1) := by decide +kernel
theorem dX5_room_115 : decode cX5_room 115 = .ok (.getfield 180, 3) := by decide +kernel
theorem dX5_room_118 : decode cX5_room 118 = .ok (.ireturn, 1) := by decide +kernel
theorem dX5_room_119 : decode cX5_room 119 = .ok (.new 38, 3) := by decide +kernel
theorem dX5_room_122 : decode cX5_room 122 = .ok (.dup, 1) := by decide +kernel
theorem dX5_room_123 : decode cX5_room 123 = .ok (.ldc 183, 2) := by decide +kernel
theorem dX5_room_125 : decode cX5_room 125 = .ok (.invokespecial 42, 3) := by decide +kernel
theorem dX5_room_128 : decode cX5_room 128 = .ok (.athrow, 1) := by decide +kernel
theorem dX5_moved_0 : decode cX5_moved 0 = .ok (.iload_n 1, 1) := by decide +kernel
theorem dX5_moved_1 : decode cX5_moved 1 = .ok (.ifCond .lt 19, 3) := by decide +kernel
theorem dX5_moved_4 : decode cX5_moved 4 = .ok (.iload_n 1, 1) := by decide +kernel
theorem dX5_moved_5 : decode cX5_moved 5 = .ok (.bipush 10, 2) := by decide +kernel
theorem dX5_moved_7 : decode cX5_moved 7 = .ok (.if_icmp .ge 13, 3) := by decide +kernel
theorem dX5_moved_10 : decode cX5_moved 10 = .ok (.iload_n 2, 1) := by decide +kernel
theorem dX5_moved_11 : decode cX5_moved 11 = .ok (.ifCond .lt 9, 3) := by decide +kernel
theorem dX5_moved_14 : decode cX5_moved 14 = .ok (.iload_n 2, 1) := by decide +kernel
theorem dX5_moved_15 : decode cX5_moved 15 = .ok (.bipush 10, 2) := by decide +kernel
theorem dX5_moved_17 : decode cX5_moved 17 = .ok (.if_icmp .lt 13, 3) := by decide +kernel
theorem dX5_moved_20 : decode cX5_moved 20 = .ok (.new 38, 3) := by decide +kernel
theorem dX5_moved_23 : decode cX5_moved 23 = .ok (.dup, 1) := by decide +kernel
theorem dX5_moved_24 : decode cX5_moved 24 = .ok (.ldc 185, 2) := by decide +kernel
theorem dX5_moved_26 : decode cX5_moved 26 = .ok (.invokespecial 42, 3) := by decide +kernel
theorem dX5_moved_29 : decode cX5_moved 29 = .ok (.athrow, 1) := by decide +kernel
theorem dX5_moved_30 : decode cX5_moved 30 = .ok (.aload_n 0, 1) := by decide +kernel
theorem dX5_moved_31 : decode cX5_moved 31 = .ok (.getfield 16, 3) := by decide +kernel
theorem dX5_moved_34 : decode cX5_moved 34 = .ok (.getfield 111, 3) := by decide +kernel
theorem dX5_moved_37 : decode cX5_moved 37 = .ok (.iload_n 1, 1) := by decide +kernel
theorem dX5_moved_38 : decode cX5_moved 38 = .ok (.iload_n 2, 1) := by decide +kernel
theorem dX5_moved_39 : decode cX5_moved 39 = .ok (.invokevirtual 187, 3) := by decide +kernel
theorem dX5_moved_42 : decode cX5_moved 42 = .ok (.ireturn, 1) := by decide +kernel
theorem dX5_way_0 : decode cX5_way 0 = .ok (.aload_n 0, 1) := by decide +kernel
theorem dX5_way_1 : decode cX5_way 1 = .ok (.getfield 16, 3) := by decide +kernel
theorem dX5_way_4 : decode cX5_way 4 = .ok (.getfield 111, 3) := by decide +kernel
theorem dX5_way_7 : decode cX5_way 7 = .ok (.iload_n 1, 1) := by decide +kernel
theorem dX5_way_8 : decode cX5_way 8 = .ok (.invokevirtual 191, 3) := by decide +kernel
theorem dX5_way_11 : decode cX5_way 11 = .ok (.ifCond .ne 13, 3) := by decide +kernel
theorem dX5_way_14 : decode cX5_way 14 = .ok (.new 135, 3) := by decide +kernel
theorem dX5_way_17 : decode cX5_way 17 = .ok (.dup, 1) := by decide +kernel
theorem dX5_way_18 : decode cX5_way 18 = .ok (.ldc 194, 2) := by decide +kernel
theorem dX5_way_20 : decode cX5_way 20 = .ok (.invokespecial 139, 3) := by decide +kernel
theorem dX5_way_23 : decode cX5_way 23 = .ok (.athrow, 1) := by decide +kernel
theorem dX5_way_24 : decode cX5_way 24 = .ok (.iload_n 2, 1) := by decide +kernel
theorem dX5_way_25 : decode cX5_way 25 = .ok (.tableswitch 66 0 2 #[27, 40, 53], 27) := by decide +kernel
theorem dX5_way_52 : decode cX5_way 52 = .ok (.aload_n 0, 1) := by decide +kernel
theorem dX5_way_53 : decode cX5_way 53 = .ok (.getfield 16, 3) := by decide +kernel
theorem dX5_way_56 : decode cX5_way 56 = .ok (.getfield 111, 3) := by decide +kernel
theorem dX5_way_59 : decode cX5_way 59 = .ok (.getfield 196, 3) := by decide +kernel
theorem dX5_way_62 : decode cX5_way 62 = .ok (.iload_n 1, 1) := by decide +kernel
theorem dX5_way_63 : decode cX5_way 63 = .ok (.iaload, 1) := by decide +kernel
theorem dX5_way_64 : decode cX5_way 64 = .ok (.ireturn, 1) := by decide +kernel
theorem dX5_way_65 : decode cX5_way 65 = .ok (.aload_n 0, 1) := by decide +kernel
theorem dX5_way_66 : decode cX5_way 66 = .ok (.getfield 16, 3) := by decide +kernel
theorem dX5_way_69 : decode cX5_way 69 = .ok (.getfield 111, 3) := by decide +kernel
theorem dX5_way_72 : decode cX5_way 72 = .ok (.getfield 200, 3) := by decide +kernel
theorem dX5_way_75 : decode cX5_way 75 = .ok (.iload_n 1, 1) := by decide +kernel
theorem dX5_way_76 : decode cX5_way 76 = .ok (.iaload, 1) := by decide +kernel
theorem dX5_way_77 : decode cX5_way 77 = .ok (.ireturn, 1) := by decide +kernel
theorem dX5_way_78 : decode cX5_way 78 = .ok (.aload_n 0, 1) := by decide +kernel
theorem dX5_way_79 : decode cX5_way 79 = .ok (.getfield 16, 3) := by decide +kernel
theorem dX5_way_82 : decode cX5_way 82 = .ok (.getfield 111, 3) := by decide +kernel
theorem dX5_way_85 : decode cX5_way 85 = .ok (.getfield 203, 3) := by decide +kernel
theorem dX5_way_88 : decode cX5_way 88 = .ok (.iload_n 1, 1) := by decide +kernel
theorem dX5_way_89 : decode cX5_way 89 = .ok (.iaload, 1) := by decide +kernel
theorem dX5_way_90 : decode cX5_way 90 = .ok (.ireturn, 1) := by decide +kernel
theorem dX5_way_91 : decode cX5_way 91 = .ok (.new 38, 3) := by decide +kernel
theorem dX5_way_94 : decode cX5_way 94 = .ok (.dup, 1) := by decide +kernel
theorem dX5_way_95 : decode cX5_way 95 = .ok (.ldc 206, 2) := by decide +kernel
theorem dX5_way_97 : decode cX5_way 97 = .ok (.invokespecial 42, 3) := by decide +kernel
theorem dX5_way_100 : decode cX5_way 100 = .ok (.athrow, 1) := by decide +kernel
theorem dX5_addRoom_0 : decode cX5_addRoom 0 = .ok (.iload_n 1, 1) := by decide +kernel
theorem dX5_addRoom_1 : decode cX5_addRoom 1 = .ok (.iconst 1, 1) := by decide +kernel
theorem dX5_addRoom_2 : decode cX5_addRoom 2 = .ok (.if_icmp .lt 31, 3) := by decide +kernel
theorem dX5_addRoom_5 : decode cX5_addRoom 5 = .ok (.iload_n 1, 1) := by decide +kernel
theorem dX5_addRoom_6 : decode cX5_addRoom 6 = .ok (.bipush 9, 2) := by decide +kernel
theorem dX5_addRoom_8 : decode cX5_addRoom 8 = .ok (.if_icmp .gt 25, 3) := by decide +kernel
theorem dX5_addRoom_11 : decode cX5_addRoom 11 = .ok (.iload_n 2, 1) := by decide +kernel
theorem dX5_addRoom_12 : decode cX5_addRoom 12 = .ok (.invokestatic 208, 3) := by decide +kernel
theorem dX5_addRoom_15 : decode cX5_addRoom 15 = .ok (.ifCond .eq 18, 3) := by decide +kernel
theorem dX5_addRoom_18 : decode cX5_addRoom 18 = .ok (.iload_n 3, 1) := by decide +kernel
theorem dX5_addRoom_19 : decode cX5_addRoom 19 = .ok (.invokestatic 211, 3) := by decide +kernel
theorem dX5_addRoom_22 : decode cX5_addRoom 22 = .ok (.ifCond .eq 11, 3) := by decide +kernel
theorem dX5_addRoom_25 : decode cX5_addRoom 25 = .ok (.iload 4, 2) := by decide +kernel
theorem dX5_addRoom_27 : decode cX5_addRoom 27 = .ok (.invokestatic 214, 3) := by decide +kernel
theorem dX5_addRoom_30 : decode cX5_addRoom 30 = .ok (.ifCond .ne 13, 3) := by decide +kernel
theorem dX5_addRoom_33 : decode cX5_addRoom 33 = .ok (.new 38, 3) := by decide +kernel
theorem dX5_addRoom_36 : decode cX5_addRoom 36 = .ok (.dup, 1) := by decide +kernel
theorem dX5_addRoom_37 : decode cX5_addRoom 37 = .ok (.ldc 217, 2) := by decide +kernel
theorem dX5_addRoom_39 : decode cX5_addRoom 39 = .ok (.invokespecial 42, 3) := by decide +kernel
theorem dX5_addRoom_42 : decode cX5_addRoom 42 = .ok (.athrow, 1) := by decide +kernel
theorem dX5_addRoom_43 : decode cX5_addRoom 43 = .ok (.aload_n 0, 1) := by decide +kernel
theorem dX5_addRoom_44 : decode cX5_addRoom 44 = .ok (.getfield 16, 3) := by decide +kernel
theorem dX5_addRoom_47 : decode cX5_addRoom 47 = .ok (.invokevirtual 219, 3) := by decide +kernel
theorem dX5_addRoom_50 : decode cX5_addRoom 50 = .ok (.ifCond .eq 13, 3) := by decide +kernel
theorem dX5_addRoom_53 : decode cX5_addRoom 53 = .ok (.new 49, 3) := by decide +kernel
theorem dX5_addRoom_56 : decode cX5_addRoom 56 = .ok (.dup, 1) := by decide +kernel
theorem dX5_addRoom_57 : decode cX5_addRoom 57 = .ok (.ldc 223, 2) := by decide +kernel
theorem dX5_addRoom_59 : decode cX5_addRoom 59 = .ok (.invokespecial 53, 3) := by decide +kernel
theorem dX5_addRoom_62 : decode cX5_addRoom 62 = .ok (.athrow, 1) := by decide +kernel
theorem dX5_addRoom_63 : decode cX5_addRoom 63 = .ok (.aload_n 0, 1) := by decide +kernel
theorem dX5_addRoom_64 : decode cX5_addRoom 64 = .ok (.getfield 26, 3) := by decide +kernel
theorem dX5_addRoom_67 : decode cX5_addRoom 67 = .ok (.aload_n 0, 1) := by decide +kernel
theorem dX5_addRoom_68 : decode cX5_addRoom 68 = .ok (.getfield 16, 3) := by decide +kernel
theorem dX5_addRoom_71 : decode cX5_addRoom 71 = .ok (.invokevirtual 225, 3) := by decide +kernel
theorem dX5_addRoom_74 : decode cX5_addRoom 74 = .ok (.aload_n 0, 1) := by decide +kernel
theorem dX5_addRoom_75 : decode cX5_addRoom 75 = .ok (.getfield 16, 3) := by decide +kernel
theorem dX5_addRoom_78 : decode cX5_addRoom 78 = .ok (.iload_n 1, 1) := by decide +kernel
theorem dX5_addRoom_79 : decode cX5_addRoom 79 = .ok (.iload_n 2, 1) := by decide +kernel
theorem dX5_addRoom_80 : decode cX5_addRoom 80 = .ok (.iload_n 3, 1) := by decide +kernel
theorem dX5_addRoom_81 : decode cX5_addRoom 81 = .ok (.iload 4, 2) := by decide +kernel
theorem dX5_addRoom_83 : decode cX5_addRoom 83 = .ok (.invokevirtual 228, 3) := by decide +kernel
theorem dX5_addRoom_86 : decode cX5_addRoom 86 = .ok (.aload_n 0, 1) := by decide +kernel
theorem dX5_addRoom_87 : decode cX5_addRoom 87 = .ok (.getfield 16, 3) := by decide +kernel
theorem dX5_addRoom_90 : decode cX5_addRoom 90 = .ok (.getfield 76, 3) := by decide +kernel
theorem dX5_addRoom_93 : decode cX5_addRoom 93 = .ok (.iconst 1, 1) := by decide +kernel
theorem dX5_addRoom_94 : decode cX5_addRoom 94 = .ok (.isub, 1) := by decide +kernel
theorem dX5_addRoom_95 : decode cX5_addRoom 95 = .ok (.ireturn, 1) := by decide +kernel
theorem dX5_setRoom_0 : decode cX5_setRoom 0 = .ok (.aload_n 0, 1) := by decide +kernel
theorem dX5_setRoom_1 : decode cX5_setRoom 1 = .ok (.getfield 16, 3) := by decide +kernel
theorem dX5_setRoom_4 : decode cX5_setRoom 4 = .ok (.iload_n 1, 1) := by decide +kernel
theorem dX5_setRoom_5 : decode cX5_setRoom 5 = .ok (.invokevirtual 151, 3) := by decide +kernel
theorem dX5_setRoom_8 : decode cX5_setRoom 8 = .ok (.ifCond .ne 13, 3) := by decide +kernel
theorem dX5_setRoom_11 : decode cX5_setRoom 11 = .ok (.new 135, 3) := by decide +kernel
theorem dX5_setRoom_14 : decode cX5_setRoom 14 = .ok (.dup, 1) := by decide +kernel
theorem dX5_setRoom_15 : decode cX5_setRoom 15 = .ok (.ldc 154, 2) := by decide +kernel
theorem dX5_setRoom_17 : decode cX5_setRoom 17 = .ok (.invokespecial 139, 3) := by decide +kernel
theorem dX5_setRoom_20 : decode cX5_setRoom 20 = .ok (.athrow, 1) := by decide +kernel
theorem dX5_setRoom_21 : decode cX5_setRoom 21 = .ok (.iload_n 2, 1) := by decide +kernel
theorem dX5_setRoom_22 : decode cX5_setRoom 22 = .ok (.iload_n 3, 1) := by decide +kernel
theorem dX5_setRoom_23 : decode cX5_setRoom 23 = .ok (.invokestatic 232, 3) := by decide +kernel
theorem dX5_setRoom_26 : decode cX5_setRoom 26 = .ok (.ifCond .ne 13, 3) := by decide +kernel
theorem dX5_setRoom_29 : decode cX5_setRoom 29 = .ok (.new 38, 3) := by decide +kernel
theorem dX5_setRoom_32 : decode cX5_setRoom 32 = .ok (.dup, 1) := by decide +kernel
theorem dX5_setRoom_33 : decode cX5_setRoom 33 = .ok (.ldc 236, 2) := by decide +kernel
theorem dX5_setRoom_35 : decode cX5_setRoom 35 = .ok (.invokespecial 42, 3) := by decide +kernel
theorem dX5_setRoom_38 : decode cX5_setRoom 38 = .ok (.athrow, 1) := by decide +kernel
theorem dX5_setRoom_39 : decode cX5_setRoom 39 = .ok (.aload_n 0, 1) := by decide +kernel
theorem dX5_setRoom_40 : decode cX5_setRoom 40 = .ok (.getfield 26, 3) := by decide +kernel
theorem dX5_setRoom_43 : decode cX5_setRoom 43 = .ok (.aload_n 0, 1) := by decide +kernel
theorem dX5_setRoom_44 : decode cX5_setRoom 44 = .ok (.getfield 16, 3) := by decide +kernel
theorem dX5_setRoom_47 : decode cX5_setRoom 47 = .ok (.invokevirtual 225, 3) := by decide +kernel
theorem dX5_setRoom_50 : decode cX5_setRoom 50 = .ok (.aload_n 0, 1) := by decide +kernel
theorem dX5_setRoom_51 : decode cX5_setRoom 51 = .ok (.getfield 16, 3) := by decide +kernel
theorem dX5_setRoom_54 : decode cX5_setRoom 54 = .ok (.getfield 156, 3) := by decide +kernel
theorem dX5_setRoom_57 : decode cX5_setRoom 57 = .ok (.iload_n 1, 1) := by decide +kernel
theorem dX5_setRoom_58 : decode cX5_setRoom 58 = .ok (.aaload, 1) := by decide +kernel
theorem dX5_setRoom_59 : decode cX5_setRoom 59 = .ok (.iload_n 2, 1) := by decide +kernel
theorem dX5_setRoom_60 : decode cX5_setRoom 60 = .ok (.iload_n 3, 1) := by decide +kernel
theorem dX5_setRoom_61 : decode cX5_setRoom 61 = .ok (.invokevirtual 238, 3) := by decide +kernel
theorem dX5_setRoom_64 : decode cX5_setRoom 64 = .ok (.ireturn, 1) := by decide +kernel
theorem dX5_window_0 : decode cX5_window 0 = .ok (.aload_n 0, 1) := by decide +kernel
theorem dX5_window_1 : decode cX5_window 1 = .ok (.getfield 16, 3) := by decide +kernel
theorem dX5_window_4 : decode cX5_window 4 = .ok (.iload_n 1, 1) := by decide +kernel
theorem dX5_window_5 : decode cX5_window 5 = .ok (.invokevirtual 151, 3) := by decide +kernel
theorem dX5_window_8 : decode cX5_window 8 = .ok (.ifCond .ne 13, 3) := by decide +kernel
theorem dX5_window_11 : decode cX5_window 11 = .ok (.new 135, 3) := by decide +kernel
theorem dX5_window_14 : decode cX5_window 14 = .ok (.dup, 1) := by decide +kernel
theorem dX5_window_15 : decode cX5_window 15 = .ok (.ldc 154, 2) := by decide +kernel
theorem dX5_window_17 : decode cX5_window 17 = .ok (.invokespecial 139, 3) := by decide +kernel
theorem dX5_window_20 : decode cX5_window 20 = .ok (.athrow, 1) := by decide +kernel
theorem dX5_window_21 : decode cX5_window 21 = .ok (.aload_n 0, 1) := by decide +kernel
theorem dX5_window_22 : decode cX5_window 22 = .ok (.getfield 26, 3) := by decide +kernel
theorem dX5_window_25 : decode cX5_window 25 = .ok (.aload_n 0, 1) := by decide +kernel
theorem dX5_window_26 : decode cX5_window 26 = .ok (.getfield 16, 3) := by decide +kernel
theorem dX5_window_29 : decode cX5_window 29 = .ok (.invokevirtual 225, 3) := by decide +kernel
theorem dX5_window_32 : decode cX5_window 32 = .ok (.aload_n 0, 1) := by decide +kernel
theorem dX5_window_33 : decode cX5_window 33 = .ok (.getfield 16, 3) := by decide +kernel
theorem dX5_window_36 : decode cX5_window 36 = .ok (.getfield 156, 3) := by decide +kernel
theorem dX5_window_39 : decode cX5_window 39 = .ok (.iload_n 1, 1) := by decide +kernel
theorem dX5_window_40 : decode cX5_window 40 = .ok (.aaload, 1) := by decide +kernel
theorem dX5_window_41 : decode cX5_window 41 = .ok (.iload_n 2, 1) := by decide +kernel
theorem dX5_window_42 : decode cX5_window 42 = .ok (.putfield 171, 3) := by decide +kernel
theorem dX5_window_45 : decode cX5_window 45 = .ok (.aload_n 0, 1) := by decide +kernel
theorem dX5_window_46 : decode cX5_window 46 = .ok (.getfield 16, 3) := by decide +kernel
theorem dX5_window_49 : decode cX5_window 49 = .ok (.invokevirtual 241, 3) := by decide +kernel
theorem dX5_window_52 : decode cX5_window 52 = .ok (.ireturn, 1) := by decide +kernel
theorem dX5_set_0 : decode cX5_set 0 = .ok (.iload_n 1, 1) := by decide +kernel
theorem dX5_set_1 : decode cX5_set 1 = .ok (.iload_n 2, 1) := by decide +kernel
theorem dX5_set_2 : decode cX5_set 2 = .ok (.invokestatic 244, 3) := by decide +kernel
theorem dX5_set_5 : decode cX5_set 5 = .ok (.ifCond .ne 13, 3) := by decide +kernel
theorem dX5_set_8 : decode cX5_set 8 = .ok (.new 38, 3) := by decide +kernel
theorem dX5_set_11 : decode cX5_set 11 = .ok (.dup, 1) := by decide +kernel
theorem dX5_set_12 : decode cX5_set 12 = .ok (.ldc 247, 2) := by decide +kernel
theorem dX5_set_14 : decode cX5_set 14 = .ok (.invokespecial 42, 3) := by decide +kernel
theorem dX5_set_17 : decode cX5_set 17 = .ok (.athrow, 1) := by decide +kernel
theorem dX5_set_18 : decode cX5_set 18 = .ok (.aload_n 0, 1) := by decide +kernel
theorem dX5_set_19 : decode cX5_set 19 = .ok (.getfield 26, 3) := by decide +kernel
theorem dX5_set_22 : decode cX5_set 22 = .ok (.aload_n 0, 1) := by decide +kernel
theorem dX5_set_23 : decode cX5_set 23 = .ok (.getfield 16, 3) := by decide +kernel
theorem dX5_set_26 : decode cX5_set 26 = .ok (.invokevirtual 225, 3) := by decide +kernel
theorem dX5_set_29 : decode cX5_set 29 = .ok (.aload_n 0, 1) := by decide +kernel
theorem dX5_set_30 : decode cX5_set 30 = .ok (.getfield 16, 3) := by decide +kernel
theorem dX5_set_33 : decode cX5_set 33 = .ok (.iload_n 1, 1) := by decide +kernel
theorem dX5_set_34 : decode cX5_set 34 = .ok (.invokevirtual 127, 3) := by decide +kernel
theorem dX5_set_37 : decode cX5_set 37 = .ok (.istore_n 3, 1) := by decide +kernel
theorem dX5_set_38 : decode cX5_set 38 = .ok (.aload_n 0, 1) := by decide +kernel
theorem dX5_set_39 : decode cX5_set 39 = .ok (.getfield 16, 3) := by decide +kernel
theorem dX5_set_42 : decode cX5_set 42 = .ok (.iload_n 1, 1) := by decide +kernel
theorem dX5_set_43 : decode cX5_set 43 = .ok (.iload_n 2, 1) := by decide +kernel
theorem dX5_set_44 : decode cX5_set 44 = .ok (.invokevirtual 249, 3) := by decide +kernel
theorem dX5_set_47 : decode cX5_set 47 = .ok (.iload_n 3, 1) := by decide +kernel
theorem dX5_set_48 : decode cX5_set 48 = .ok (.ireturn, 1) := by decide +kernel
theorem dX5_outside_0 : decode cX5_outside 0 = .ok (.iload_n 1, 1) := by decide +kernel
theorem dX5_outside_1 : decode cX5_outside 1 = .ok (.invokestatic 253, 3) := by decide +kernel
theorem dX5_outside_4 : decode cX5_outside 4 = .ok (.ifCond .ne 14, 3) := by decide +kernel
theorem dX5_outside_7 : decode cX5_outside 7 = .ok (.new 38, 3) := by decide +kernel
theorem dX5_outside_10 : decode cX5_outside 10 = .ok (.dup, 1) := by decide +kernel
theorem dX5_outside_11 : decode cX5_outside 11 = .ok (.ldc_w 256, 3) := by decide +kernel
theorem dX5_outside_14 : decode cX5_outside 14 = .ok (.invokespecial 42, 3) := by decide +kernel
theorem dX5_outside_17 : decode cX5_outside 17 = .ok (.athrow, 1) := by decide +kernel
theorem dX5_outside_18 : decode cX5_outside 18 = .ok (.aload_n 0, 1) := by decide +kernel
theorem dX5_outside_19 : decode cX5_outside 19 = .ok (.getfield 26, 3) := by decide +kernel
theorem dX5_outside_22 : decode cX5_outside 22 = .ok (.aload_n 0, 1) := by decide +kernel
theorem dX5_outside_23 : decode cX5_outside 23 = .ok (.getfield 16, 3) := by decide +kernel
theorem dX5_outside_26 : decode cX5_outside 26 = .ok (.invokevirtual 225, 3) := by decide +kernel
theorem dX5_outside_29 : decode cX5_outside 29 = .ok (.aload_n 0, 1) := by decide +kernel
theorem dX5_outside_30 : decode cX5_outside 30 = .ok (.getfield 16, 3) := by decide +kernel
theorem dX5_outside_33 : decode cX5_outside 33 = .ok (.getfield 82, 3) := by decide +kernel
theorem dX5_outside_36 : decode cX5_outside 36 = .ok (.istore_n 2, 1) := by decide +kernel
theorem dX5_outside_37 : decode cX5_outside 37 = .ok (.aload_n 0, 1) := by decide +kernel
theorem dX5_outside_38 : decode cX5_outside 38 = .ok (.getfield 16, 3) := by decide +kernel
theorem dX5_outside_41 : decode cX5_outside 41 = .ok (.iload_n 1, 1) := by decide +kernel
theorem dX5_outside_42 : decode cX5_outside 42 = .ok (.putfield 82, 3) := by decide +kernel
theorem dX5_outside_45 : decode cX5_outside 45 = .ok (.iload_n 2, 1) := by decide +kernel
theorem dX5_outside_46 : decode cX5_outside 46 = .ok (.ireturn, 1) := by decide +kernel
theorem dX5_pass_0 : decode cX5_pass 0 = .ok (.iload_n 1, 1) := by decide +kernel
theorem dX5_pass_1 : decode cX5_pass 1 = .ok (.invokestatic 258, 3) := by decide +kernel
theorem dX5_pass_4 : decode cX5_pass 4 = .ok (.ifCond .ne 14, 3) := by decide +kernel
theorem dX5_pass_7 : decode cX5_pass 7 = .ok (.new 38, 3) := by decide +kernel
theorem dX5_pass_10 : decode cX5_pass 10 = .ok (.dup, 1) := by decide +kernel
theorem dX5_pass_11 : decode cX5_pass 11 = .ok (.ldc_w 261, 3) := by decide +kernel
theorem dX5_pass_14 : decode cX5_pass 14 = .ok (.invokespecial 42, 3) := by decide +kernel
theorem dX5_pass_17 : decode cX5_pass 17 = .ok (.athrow, 1) := by decide +kernel
theorem dX5_pass_18 : decode cX5_pass 18 = .ok (.aload_n 0, 1) := by decide +kernel
theorem dX5_pass_19 : decode cX5_pass 19 = .ok (.getfield 26, 3) := by decide +kernel
theorem dX5_pass_22 : decode cX5_pass 22 = .ok (.aload_n 0, 1) := by decide +kernel
theorem dX5_pass_23 : decode cX5_pass 23 = .ok (.getfield 16, 3) := by decide +kernel
theorem dX5_pass_26 : decode cX5_pass 26 = .ok (.invokevirtual 225, 3) := by decide +kernel
theorem dX5_pass_29 : decode cX5_pass 29 = .ok (.aload_n 0, 1) := by decide +kernel
theorem dX5_pass_30 : decode cX5_pass 30 = .ok (.getfield 16, 3) := by decide +kernel
theorem dX5_pass_33 : decode cX5_pass 33 = .ok (.invokevirtual 120, 3) := by decide +kernel
theorem dX5_pass_36 : decode cX5_pass 36 = .ok (.istore_n 2, 1) := by decide +kernel
theorem dX5_pass_37 : decode cX5_pass 37 = .ok (.aload_n 0, 1) := by decide +kernel
theorem dX5_pass_38 : decode cX5_pass 38 = .ok (.getfield 16, 3) := by decide +kernel
theorem dX5_pass_41 : decode cX5_pass 41 = .ok (.iload_n 1, 1) := by decide +kernel
theorem dX5_pass_42 : decode cX5_pass 42 = .ok (.invokevirtual 263, 3) := by decide +kernel
theorem dX5_pass_45 : decode cX5_pass 45 = .ok (.aload_n 0, 1) := by decide +kernel
theorem dX5_pass_46 : decode cX5_pass 46 = .ok (.getfield 16, 3) := by decide +kernel
theorem dX5_pass_49 : decode cX5_pass 49 = .ok (.invokevirtual 120, 3) := by decide +kernel
theorem dX5_pass_52 : decode cX5_pass 52 = .ok (.iload_n 2, 1) := by decide +kernel
theorem dX5_pass_53 : decode cX5_pass 53 = .ok (.isub, 1) := by decide +kernel
theorem dX5_pass_54 : decode cX5_pass 54 = .ok (.ireturn, 1) := by decide +kernel
theorem dX5_undo_0 : decode cX5_undo 0 = .ok (.aload_n 0, 1) := by decide +kernel
theorem dX5_undo_1 : decode cX5_undo 1 = .ok (.getfield 26, 3) := by decide +kernel
theorem dX5_undo_4 : decode cX5_undo 4 = .ok (.invokevirtual 267, 3) := by decide +kernel
theorem dX5_undo_7 : decode cX5_undo 7 = .ok (.ifCond .eq 14, 3) := by decide +kernel
theorem dX5_undo_10 : decode cX5_undo 10 = .ok (.new 49, 3) := by decide +kernel
theorem dX5_undo_13 : decode cX5_undo 13 = .ok (.dup, 1) := by decide +kernel
theorem dX5_undo_14 : decode cX5_undo 14 = .ok (.ldc_w 270, 3) := by decide +kernel
theorem dX5_undo_17 : decode cX5_undo 17 = .ok (.invokespecial 53, 3) := by decide +kernel
theorem dX5_undo_20 : decode cX5_undo 20 = .ok (.athrow, 1) := by decide +kernel
theorem dX5_undo_21 : decode cX5_undo 21 = .ok (.aload_n 0, 1) := by decide +kernel
theorem dX5_undo_22 : decode cX5_undo 22 = .ok (.getfield 26, 3) := by decide +kernel
theorem dX5_undo_25 : decode cX5_undo 25 = .ok (.aload_n 0, 1) := by decide +kernel
theorem dX5_undo_26 : decode cX5_undo 26 = .ok (.getfield 16, 3) := by decide +kernel
theorem dX5_undo_29 : decode cX5_undo 29 = .ok (.invokevirtual 272, 3) := by decide +kernel
theorem dX5_undo_32 : decode cX5_undo 32 = .ok (.aload_n 0, 1) := by decide +kernel
theorem dX5_undo_33 : decode cX5_undo 33 = .ok (.getfield 26, 3) := by decide +kernel
theorem dX5_undo_36 : decode cX5_undo 36 = .ok (.getfield 275, 3) := by decide +kernel
theorem dX5_undo_39 : decode cX5_undo 39 = .ok (.ireturn, 1) := by decide +kernel
theorem dX5_ahead_0 : decode cX5_ahead 0 = .ok (.aload_n 0, 1) := by decide +kernel
theorem dX5_ahead_1 : decode cX5_ahead 1 = .ok (.getfield 16, 3) := by decide +kernel
theorem dX5_ahead_4 : decode cX5_ahead 4 = .ok (.iload_n 1, 1) := by decide +kernel
theorem dX5_ahead_5 : decode cX5_ahead 5 = .ok (.invokevirtual 131, 3) := by decide +kernel
theorem dX5_ahead_8 : decode cX5_ahead 8 = .ok (.ifCond .ne 13, 3) := by decide +kernel
theorem dX5_ahead_11 : decode cX5_ahead 11 = .ok (.new 135, 3) := by decide +kernel
theorem dX5_ahead_14 : decode cX5_ahead 14 = .ok (.dup, 1) := by decide +kernel
theorem dX5_ahead_15 : decode cX5_ahead 15 = .ok (.ldc 137, 2) := by decide +kernel
theorem dX5_ahead_17 : decode cX5_ahead 17 = .ok (.invokespecial 139, 3) := by decide +kernel
theorem dX5_ahead_20 : decode cX5_ahead 20 = .ok (.athrow, 1) := by decide +kernel
theorem dX5_ahead_21 : decode cX5_ahead 21 = .ok (.iload_n 2, 1) := by decide +kernel
theorem dX5_ahead_22 : decode cX5_ahead 22 = .ok (.ifCond .lt 10, 3) := by decide +kernel
theorem dX5_ahead_25 : decode cX5_ahead 25 = .ok (.iload_n 2, 1) := by decide +kernel
theorem dX5_ahead_26 : decode cX5_ahead 26 = .ok (.sipush 240, 3) := by decide +kernel
theorem dX5_ahead_29 : decode cX5_ahead 29 = .ok (.if_icmp .le 14, 3) := by decide +kernel
theorem dX5_ahead_32 : decode cX5_ahead 32 = .ok (.new 38, 3) := by decide +kernel
theorem dX5_ahead_35 : decode cX5_ahead 35 = .ok (.dup, 1) := by decide +kernel
theorem dX5_ahead_36 : decode cX5_ahead 36 = .ok (.ldc_w 276, 3) := by decide +kernel
theorem dX5_ahead_39 : decode cX5_ahead 39 = .ok (.invokespecial 42, 3) := by decide +kernel
theorem dX5_ahead_42 : decode cX5_ahead 42 = .ok (.athrow, 1) := by decide +kernel
theorem dX5_ahead_43 : decode cX5_ahead 43 = .ok (.aload_n 0, 1) := by decide +kernel
theorem dX5_ahead_44 : decode cX5_ahead 44 = .ok (.getfield 20, 3) := by decide +kernel
theorem dX5_ahead_47 : decode cX5_ahead 47 = .ok (.aload_n 0, 1) := by decide +kernel
theorem dX5_ahead_48 : decode cX5_ahead 48 = .ok (.getfield 16, 3) := by decide +kernel
theorem dX5_ahead_51 : decode cX5_ahead 51 = .ok (.invokevirtual 69, 3) := by decide +kernel
theorem dX5_ahead_54 : decode cX5_ahead 54 = .ok (.aload_n 0, 1) := by decide +kernel
theorem dX5_ahead_55 : decode cX5_ahead 55 = .ok (.getfield 20, 3) := by decide +kernel
theorem dX5_ahead_58 : decode cX5_ahead 58 = .ok (.iload_n 2, 1) := by decide +kernel
theorem dX5_ahead_59 : decode cX5_ahead 59 = .ok (.invokevirtual 263, 3) := by decide +kernel
theorem dX5_ahead_62 : decode cX5_ahead 62 = .ok (.aload_n 0, 1) := by decide +kernel
theorem dX5_ahead_63 : decode cX5_ahead 63 = .ok (.getfield 20, 3) := by decide +kernel
theorem dX5_ahead_66 : decode cX5_ahead 66 = .ok (.iload_n 1, 1) := by decide +kernel
theorem dX5_ahead_67 : decode cX5_ahead 67 = .ok (.invokevirtual 143, 3) := by decide +kernel
theorem dX5_ahead_70 : decode cX5_ahead 70 = .ok (.ireturn, 1) := by decide +kernel
theorem dX5_minutesTo_0 : decode cX5_minutesTo 0 = .ok (.aload_n 0, 1) := by decide +kernel
theorem dX5_minutesTo_1 : decode cX5_minutesTo 1 = .ok (.getfield 16, 3) := by decide +kernel
theorem dX5_minutesTo_4 : decode cX5_minutesTo 4 = .ok (.iload_n 1, 1) := by decide +kernel
theorem dX5_minutesTo_5 : decode cX5_minutesTo 5 = .ok (.invokevirtual 151, 3) := by decide +kernel
theorem dX5_minutesTo_8 : decode cX5_minutesTo 8 = .ok (.ifCond .ne 13, 3) := by decide +kernel
theorem dX5_minutesTo_11 : decode cX5_minutesTo 11 = .ok (.new 135, 3) := by decide +kernel
theorem dX5_minutesTo_14 : decode cX5_minutesTo 14 = .ok (.dup, 1) := by decide +kernel
theorem dX5_minutesTo_15 : decode cX5_minutesTo 15 = .ok (.ldc 154, 2) := by decide +kernel
theorem dX5_minutesTo_17 : decode cX5_minutesTo 17 = .ok (.invokespecial 139, 3) := by decide +kernel
theorem dX5_minutesTo_20 : decode cX5_minutesTo 20 = .ok (.athrow, 1) := by decide +kernel
theorem dX5_minutesTo_21 : decode cX5_minutesTo 21 = .ok (.aload_n 0, 1) := by decide +kernel
theorem dX5_minutesTo_22 : decode cX5_minutesTo 22 = .ok (.getfield 20, 3) := by decide +kernel
theorem dX5_minutesTo_25 : decode cX5_minutesTo 25 = .ok (.aload_n 0, 1) := by decide +kernel
theorem dX5_minutesTo_26 : decode cX5_minutesTo 26 = .ok (.getfield 16, 3) := by decide +kernel
theorem dX5_minutesTo_29 : decode cX5_minutesTo 29 = .ok (.invokevirtual 69, 3) := by decide +kernel
theorem dX5_minutesTo_32 : decode cX5_minutesTo 32 = .ok (.iconst 0, 1) := by decide +kernel
theorem dX5_minutesTo_33 : decode cX5_minutesTo 33 = .ok (.istore_n 2, 1) := by decide +kernel
theorem dX5_minutesTo_34 : decode cX5_minutesTo 34 = .ok (.iload_n 2, 1) := by decide +kernel
theorem dX5_minutesTo_35 : decode cX5_minutesTo 35 = .ok (.sipush 240, 3) := by decide +kernel
theorem dX5_minutesTo_38 : decode cX5_minutesTo 38 = .ok (.if_icmp .ge 30, 3) := by decide +kernel
theorem dX5_minutesTo_41 : decode cX5_minutesTo 41 = .ok (.aload_n 0, 1) := by decide +kernel
theorem dX5_minutesTo_42 : decode cX5_minutesTo 42 = .ok (.getfield 20, 3) := by decide +kernel
theorem dX5_minutesTo_45 : decode cX5_minutesTo 45 = .ok (.iload_n 1, 1) := by decide +kernel
theorem dX5_minutesTo_46 : decode cX5_minutesTo 46 = .ok (.invokevirtual 278, 3) := by decide +kernel
theorem dX5_minutesTo_49 : decode cX5_minutesTo 49 = .ok (.ifCond .eq 5, 3) := by decide +kernel
theorem dX5_minutesTo_52 : decode cX5_minutesTo 52 = .ok (.iload_n 2, 1) := by decide +kernel
theorem dX5_minutesTo_53 : decode cX5_minutesTo 53 = .ok (.ireturn, 1) := by decide +kernel
theorem dX5_minutesTo_54 : decode cX5_minutesTo 54 = .ok (.aload_n 0, 1) := by decide +kernel
theorem dX5_minutesTo_55 : decode cX5_minutesTo 55 = .ok (.getfield 20, 3) := by decide +kernel
theorem dX5_minutesTo_58 : decode cX5_minutesTo 58 = .ok (.iconst 1, 1) := by decide +kernel
theorem dX5_minutesTo_59 : decode cX5_minutesTo 59 = .ok (.invokevirtual 263, 3) := by decide +kernel
theorem dX5_minutesTo_62 : decode cX5_minutesTo 62 = .ok (.iinc 2 1, 3) := by decide +kernel
theorem dX5_minutesTo_65 : decode cX5_minutesTo 65 = .ok (.goto (-31), 3) := by decide +kernel
theorem dX5_minutesTo_68 : decode cX5_minutesTo 68 = .ok (.aload_n 0, 1) := by decide +kernel
theorem dX5_minutesTo_69 : decode cX5_minutesTo 69 = .ok (.getfield 20, 3) := by decide +kernel
theorem dX5_minutesTo_72 : decode cX5_minutesTo 72 = .ok (.iload_n 1, 1) := by decide +kernel
theorem dX5_minutesTo_73 : decode cX5_minutesTo 73 = .ok (.invokevirtual 278, 3) := by decide +kernel
theorem dX5_minutesTo_76 : decode cX5_minutesTo 76 = .ok (.ifCond .eq 9, 3) := by decide +kernel
theorem dX5_minutesTo_79 : decode cX5_minutesTo 79 = .ok (.sipush 240, 3) := by decide +kernel
theorem dX5_minutesTo_82 : decode cX5_minutesTo 82 = .ok (.goto 5, 3) := by decide +kernel
theorem dX5_minutesTo_85 : decode cX5_minutesTo 85 = .ok (.ldc 63, 2) := by decide +kernel
theorem dX5_minutesTo_87 : decode cX5_minutesTo 87 = .ok (.ireturn, 1) := by decide +kernel
theorem dX5_whyOff_0 : decode cX5_whyOff 0 = .ok (.aload_n 0, 1) := by decide +kernel
theorem dX5_whyOff_1 : decode cX5_whyOff 1 = .ok (.getfield 20, 3) := by decide +kernel
theorem dX5_whyOff_4 : decode cX5_whyOff 4 = .ok (.aload_n 0, 1) := by decide +kernel
theorem dX5_whyOff_5 : decode cX5_whyOff 5 = .ok (.getfield 16, 3) := by decide +kernel
theorem dX5_whyOff_8 : decode cX5_whyOff 8 = .ok (.invokevirtual 69, 3) := by decide +kernel
theorem dX5_whyOff_11 : decode cX5_whyOff 11 = .ok (.aload_n 0, 1) := by decide +kernel
theorem dX5_whyOff_12 : decode cX5_whyOff 12 = .ok (.getfield 20, 3) := by decide +kernel
theorem dX5_whyOff_15 : decode cX5_whyOff 15 = .ok (.invokevirtual 281, 3) := by decide +kernel
theorem dX5_whyOff_18 : decode cX5_whyOff 18 = .ok (.aload_n 0, 1) := by decide +kernel
theorem dX5_whyOff_19 : decode cX5_whyOff 19 = .ok (.getfield 20, 3) := by decide +kernel
theorem dX5_whyOff_22 : decode cX5_whyOff 22 = .ok (.invokevirtual 284, 3) := by decide +kernel
theorem dX5_whyOff_25 : decode cX5_whyOff 25 = .ok (.aload_n 0, 1) := by decide +kernel
theorem dX5_whyOff_26 : decode cX5_whyOff 26 = .ok (.getfield 20, 3) := by decide +kernel
theorem dX5_whyOff_29 : decode cX5_whyOff 29 = .ok (.getfield 85, 3) := by decide +kernel
theorem dX5_whyOff_32 : decode cX5_whyOff 32 = .ok (.ifCond .eq 5, 3) := by decide +kernel
theorem dX5_whyOff_35 : decode cX5_whyOff 35 = .ok (.iconst 0, 1) := by decide +kernel
theorem dX5_whyOff_36 : decode cX5_whyOff 36 = .ok (.ireturn, 1) := by decide +kernel
theorem dX5_whyOff_37 : decode cX5_whyOff 37 = .ok (.aload_n 0, 1) := by decide +kernel
theorem dX5_whyOff_38 : decode cX5_whyOff 38 = .ok (.getfield 20, 3) := by decide +kernel
theorem dX5_whyOff_41 : decode cX5_whyOff 41 = .ok (.getfield 95, 3) := by decide +kernel
theorem dX5_whyOff_44 : decode cX5_whyOff 44 = .ok (.ifCond .eq 5, 3) := by decide +kernel
theorem dX5_whyOff_47 : decode cX5_whyOff 47 = .ok (.iconst 1, 1) := by decide +kernel
theorem dX5_whyOff_48 : decode cX5_whyOff 48 = .ok (.ireturn, 1) := by decide +kernel
theorem dX5_whyOff_49 : decode cX5_whyOff 49 = .ok (.aload_n 0, 1) := by decide +kernel
theorem dX5_whyOff_50 : decode cX5_whyOff 50 = .ok (.getfield 20, 3) := by decide +kernel
theorem dX5_whyOff_53 : decode cX5_whyOff 53 = .ok (.iconst 0, 1) := by decide +kernel
theorem dX5_whyOff_54 : decode cX5_whyOff 54 = .ok (.invokevirtual 143, 3) := by decide +kernel
theorem dX5_whyOff_57 : decode cX5_whyOff 57 = .ok (.aload_n 0, 1) := by decide +kernel
theorem dX5_whyOff_58 : decode cX5_whyOff 58 = .ok (.getfield 20, 3) := by decide +kernel
theorem dX5_whyOff_61 : decode cX5_whyOff 61 = .ok (.iconst 1, 1) := by decide +kernel
theorem dX5_whyOff_62 : decode cX5_whyOff 62 = .ok (.invokevirtual 127, 3) := by decide +kernel
theorem dX5_whyOff_65 : decode cX5_whyOff 65 = .ok (.if_icmp .lt 5, 3) := by decide +kernel
theorem dX5_whyOff_68 : decode cX5_whyOff 68 = .ok (.iconst 2, 1) := by decide +kernel
theorem dX5_whyOff_69 : decode cX5_whyOff 69 = .ok (.ireturn, 1) := by decide +kernel
theorem dX5_whyOff_70 : decode cX5_whyOff 70 = .ok (.aload_n 0, 1) := by decide +kernel
theorem dX5_whyOff_71 : decode cX5_whyOff 71 = .ok (.getfield 20, 3) := by decide +kernel
theorem dX5_whyOff_74 : decode cX5_whyOff 74 = .ok (.iconst 0, 1) := by decide +kernel
theorem dX5_whyOff_75 : decode cX5_whyOff 75 = .ok (.invokevirtual 127, 3) := by decide +kernel
theorem dX5_whyOff_78 : decode cX5_whyOff 78 = .ok (.ifCond .ne 7, 3) := by decide +kernel
theorem dX5_whyOff_81 : decode cX5_whyOff 81 = .ok (.iconst 3, 1) := by decide +kernel
theorem dX5_whyOff_82 : decode cX5_whyOff 82 = .ok (.goto 4, 3) := by decide +kernel
theorem dX5_whyOff_85 : decode cX5_whyOff 85 = .ok (.iconst 4, 1) := by decide +kernel
theorem dX5_whyOff_86 : decode cX5_whyOff 86 = .ok (.ireturn, 1) := by decide +kernel
theorem dX5_whyShare_0 : decode cX5_whyShare 0 = .ok (.aload_n 0, 1) := by decide +kernel
theorem dX5_whyShare_1 : decode cX5_whyShare 1 = .ok (.getfield 20, 3) := by decide +kernel
theorem dX5_whyShare_4 : decode cX5_whyShare 4 = .ok (.aload_n 0, 1) := by decide +kernel
theorem dX5_whyShare_5 : decode cX5_whyShare 5 = .ok (.getfield 16, 3) := by decide +kernel
theorem dX5_whyShare_8 : decode cX5_whyShare 8 = .ok (.invokevirtual 69, 3) := by decide +kernel
theorem dX5_whyShare_11 : decode cX5_whyShare 11 = .ok (.aload_n 0, 1) := by decide +kernel
theorem dX5_whyShare_12 : decode cX5_whyShare 12 = .ok (.getfield 20, 3) := by decide +kernel
theorem dX5_whyShare_15 : decode cX5_whyShare 15 = .ok (.invokevirtual 281, 3) := by decide +kernel
theorem dX5_whyShare_18 : decode cX5_whyShare 18 = .ok (.aload_n 0, 1) := by decide +kernel
theorem dX5_whyShare_19 : decode cX5_whyShare 19 = .ok (.getfield 20, 3) := by decide +kernel
theorem dX5_whyShare_22 : decode cX5_whyShare 22 = .ok (.invokevirtual 284, 3) := by decide +kernel
theorem dX5_whyShare_25 : decode cX5_whyShare 25 = .ok (.aload_n 0, 1) := by decide +kernel
theorem dX5_whyShare_26 : decode cX5_whyShare 26 = .ok (.getfield 20, 3) := by decide +kernel
theorem dX5_whyShare_29 : decode cX5_whyShare 29 = .ok (.invokevirtual 287, 3) := by decide +kernel
theorem dX5_whyShare_32 : decode cX5_whyShare 32 = .ok (.aload_n 0, 1) := by decide +kernel
theorem dX5_whyShare_33 : decode cX5_whyShare 33 = .ok (.getfield 20, 3) := by decide +kernel
theorem dX5_whyShare_36 : decode cX5_whyShare 36 = .ok (.getfield 92, 3) := by decide +kernel
theorem dX5_whyShare_39 : decode cX5_whyShare 39 = .ok (.bipush 100, 2) := by decide +kernel
theorem dX5_whyShare_41 : decode cX5_whyShare 41 = .ok (.if_icmp .ne 5, 3) := by decide +kernel
theorem dX5_whyShare_44 : decode cX5_whyShare 44 = .ok (.iconst 0, 1) := by decide +kernel
theorem dX5_whyShare_45 : decode cX5_whyShare 45 = .ok (.ireturn, 1) := by decide +kernel
theorem dX5_whyShare_46 : decode cX5_whyShare 46 = .ok (.aload_n 0, 1) := by decide +kernel
theorem dX5_whyShare_47 : decode cX5_whyShare 47 = .ok (.getfield 20, 3) := by decide +kernel
theorem dX5_whyShare_50 : decode cX5_whyShare 50 = .ok (.getfield 95, 3) := by decide +kernel
theorem dX5_whyShare_53 : decode cX5_whyShare 53 = .ok (.ifCond .eq 5, 3) := by decide +kernel
theorem dX5_whyShare_56 : decode cX5_whyShare 56 = .ok (.iconst 1, 1) := by decide +kernel
theorem dX5_whyShare_57 : decode cX5_whyShare 57 = .ok (.ireturn, 1) := by decide +kernel
theorem dX5_whyShare_58 : decode cX5_whyShare 58 = .ok (.aload_n 0, 1) := by decide +kernel
theorem dX5_whyShare_59 : decode cX5_whyShare 59 = .ok (.getfield 20, 3) := by decide +kernel
theorem dX5_whyShare_62 : decode cX5_whyShare 62 = .ok (.invokevirtual 290, 3) := by decide +kernel
theorem dX5_whyShare_65 : decode cX5_whyShare 65 = .ok (.ifCond .ne 5, 3) := by decide +kernel
theorem dX5_whyShare_68 : decode cX5_whyShare 68 = .ok (.iconst 2, 1) := by decide +kernel
theorem dX5_whyShare_69 : decode cX5_whyShare 69 = .ok (.ireturn, 1) := by decide +kernel
theorem dX5_whyShare_70 : decode cX5_whyShare 70 = .ok (.aload_n 0, 1) := by decide +kernel
theorem dX5_whyShare_71 : decode cX5_whyShare 71 = .ok (.getfield 20, 3) := by decide +kernel
theorem dX5_whyShare_74 : decode cX5_whyShare 74 = .ok (.invokevirtual 293, 3) := by decide +kernel
theorem dX5_whyShare_77 : decode cX5_whyShare 77 = .ok (.ifCond .eq 17, 3) := by decide +kernel
theorem dX5_whyShare_80 : decode cX5_whyShare 80 = .ok (.aload_n 0, 1) := by decide +kernel
theorem dX5_whyShare_81 : decode cX5_whyShare 81 = .ok (.getfield 20, 3) := by decide +kernel
theorem dX5_whyShare_84 : decode cX5_whyShare 84 = .ok (.invokevirtual 290, 3) := by decide +kernel
theorem dX5_whyShare_87 : decode cX5_whyShare 87 = .ok (.bipush 20, 2) := by decide +kernel
theorem dX5_whyShare_89 : decode cX5_whyShare 89 = .ok (.if_icmp .le 5, 3) := by decide +kernel
theorem dX5_whyShare_92 : decode cX5_whyShare 92 = .ok (.iconst 3, 1) := by decide +kernel
theorem dX5_whyShare_93 : decode cX5_whyShare 93 = .ok (.ireturn, 1) := by decide +kernel
theorem dX5_whyShare_94 : decode cX5_whyShare 94 = .ok (.aload_n 0, 1) := by decide +kernel
theorem dX5_whyShare_95 : decode cX5_whyShare 95 = .ok (.getfield 20, 3) := by decide +kernel
theorem dX5_whyShare_98 : decode cX5_whyShare 98 = .ok (.invokevirtual 293, 3) := by decide +kernel
theorem dX5_whyShare_101 : decode cX5_whyShare 101 = .ok (.ifCond .ne 15, 3) := by decide +kernel
theorem dX5_whyShare_104 : decode cX5_whyShare 104 = .ok (.aload_n 0, 1) := by decide +kernel
theorem dX5_whyShare_105 : decode cX5_whyShare 105 = .ok (.getfield 20, 3) := by decide +kernel
theorem dX5_whyShare_108 : decode cX5_whyShare 108 = .ok (.invokevirtual 290, 3) := by decide +kernel
theorem dX5_whyShare_111 : decode cX5_whyShare 111 = .ok (.bipush 100, 2) := by decide +kernel
theorem dX5_whyShare_113 : decode cX5_whyShare 113 = .ok (.if_icmp .ge 7, 3) := by decide +kernel
theorem dX5_whyShare_116 : decode cX5_whyShare 116 = .ok (.iconst 4, 1) := by decide +kernel
theorem dX5_whyShare_117 : decode cX5_whyShare 117 = .ok (.goto 4, 3) := by decide +kernel
theorem dX5_whyShare_120 : decode cX5_whyShare 120 = .ok (.iconst 5, 1) := by decide +kernel
theorem dX5_whyShare_121 : decode cX5_whyShare 121 = .ok (.ireturn, 1) := by decide +kernel
theorem dX5_bestSlope_0 : decode cX5_bestSlope 0 = .ok (.iload_n 1, 1) := by decide +kernel
theorem dX5_bestSlope_1 : decode cX5_bestSlope 1 = .ok (.iconst 1, 1) := by decide +kernel
theorem dX5_bestSlope_2 : decode cX5_bestSlope 2 = .ok (.if_icmp .lt 10, 3) := by decide +kernel
theorem dX5_bestSlope_5 : decode cX5_bestSlope 5 = .ok (.iload_n 1, 1) := by decide +kernel
theorem dX5_bestSlope_6 : decode cX5_bestSlope 6 = .ok (.sipush 240, 3) := by decide +kernel
theorem dX5_bestSlope_9 : decode cX5_bestSlope 9 = .ok (.if_icmp .le 14, 3) := by decide +kernel
theorem dX5_bestSlope_12 : decode cX5_bestSlope 12 = .ok (.new 38, 3) := by decide +kernel
theorem dX5_bestSlope_15 : decode cX5_bestSlope 15 = .ok (.dup, 1) := by decide +kernel
theorem dX5_bestSlope_16 : decode cX5_bestSlope 16 = .ok (.ldc_w 296, 3) := by decide +kernel
theorem dX5_bestSlope_19 : decode cX5_bestSlope 19 = .ok (.invokespecial 42, 3) := by decide +kernel
theorem dX5_bestSlope_22 : decode cX5_bestSlope 22 = .ok (.athrow, 1) := by decide +kernel
theorem dX5_bestSlope_23 : decode cX5_bestSlope 23 = .ok (.aload_n 0, 1) := by decide +kernel
theorem dX5_bestSlope_24 : decode cX5_bestSlope 24 = .ok (.getfield 16, 3) := by decide +kernel
theorem dX5_bestSlope_27 : decode cX5_bestSlope 27 = .ok (.getfield 76, 3) := by decide +kernel
theorem dX5_bestSlope_30 : decode cX5_bestSlope 30 = .ok (.ifCond .ne 6, 3) := by decide +kernel
theorem dX5_bestSlope_33 : decode cX5_bestSlope 33 = .ok (.ldc 63, 2) := by decide +kernel
theorem dX5_bestSlope_35 : decode cX5_bestSlope 35 = .ok (.ireturn, 1) := by decide +kernel
theorem dX5_bestSlope_36 : decode cX5_bestSlope 36 = .ok (.ldc 63, 2) := by decide +kernel
theorem dX5_bestSlope_38 : decode cX5_bestSlope 38 = .ok (.istore_n 2, 1) := by decide +kernel
theorem dX5_bestSlope_39 : decode cX5_bestSlope 39 = .ok (.iconst (-1), 1) := by decide +kernel
theorem dX5_bestSlope_40 : decode cX5_bestSlope 40 = .ok (.istore_n 3, 1) := by decide +kernel
theorem dX5_bestSlope_41 : decode cX5_bestSlope 41 = .ok (.iconst 4, 1) := by decide +kernel
theorem dX5_bestSlope_42 : decode cX5_bestSlope 42 = .ok (.invokestatic 298, 3) := by decide +kernel
theorem dX5_bestSlope_45 : decode cX5_bestSlope 45 = .ok (.istore 4, 2) := by decide +kernel
theorem dX5_bestSlope_47 : decode cX5_bestSlope 47 = .ok (.iload 4, 2) := by decide +kernel
theorem dX5_bestSlope_49 : decode cX5_bestSlope 49 = .ok (.iconst 4, 1) := by decide +kernel
theorem dX5_bestSlope_50 : decode cX5_bestSlope 50 = .ok (.invokestatic 301, 3) := by decide +kernel
theorem dX5_bestSlope_53 : decode cX5_bestSlope 53 = .ok (.if_icmp .gt 59, 3) := by decide +kernel
theorem dX5_bestSlope_56 : decode cX5_bestSlope 56 = .ok (.aload_n 0, 1) := by decide +kernel
theorem dX5_bestSlope_57 : decode cX5_bestSlope 57 = .ok (.getfield 20, 3) := by decide +kernel
theorem dX5_bestSlope_60 : decode cX5_bestSlope 60 = .ok (.aload_n 0, 1) := by decide +kernel
theorem dX5_bestSlope_61 : decode cX5_bestSlope 61 = .ok (.getfield 16, 3) := by decide +kernel
theorem dX5_bestSlope_64 : decode cX5_bestSlope 64 = .ok (.invokevirtual 69, 3) := by decide +kernel
theorem dX5_bestSlope_67 : decode cX5_bestSlope 67 = .ok (.aload_n 0, 1) := by decide +kernel
theorem dX5_bestSlope_68 : decode cX5_bestSlope 68 = .ok (.getfield 20, 3) := by decide +kernel
theorem dX5_bestSlope_71 : decode cX5_bestSlope 71 = .ok (.iconst 4, 1) := by decide +kernel
theorem dX5_bestSlope_72 : decode cX5_bestSlope 72 = .ok (.iload 4, 2) := by decide +kernel
theorem dX5_bestSlope_74 : decode cX5_bestSlope 74 = .ok (.invokevirtual 249, 3) := by decide +kernel
theorem dX5_bestSlope_77 : decode cX5_bestSlope 77 = .ok (.aload_n 0, 1) := by decide +kernel
theorem dX5_bestSlope_78 : decode cX5_bestSlope 78 = .ok (.getfield 20, 3) := by decide +kernel
theorem dX5_bestSlope_81 : decode cX5_bestSlope 81 = .ok (.iload_n 1, 1) := by decide +kernel
theorem dX5_bestSlope_82 : decode cX5_bestSlope 82 = .ok (.invokevirtual 263, 3) := by decide +kernel
theorem dX5_bestSlope_85 : decode cX5_bestSlope 85 = .ok (.aload_n 0, 1) := by decide +kernel
theorem dX5_bestSlope_86 : decode cX5_bestSlope 86 = .ok (.getfield 20, 3) := by decide +kernel
theorem dX5_bestSlope_89 : decode cX5_bestSlope 89 = .ok (.invokevirtual 120, 3) := by decide +kernel
theorem dX5_bestSlope_92 : decode cX5_bestSlope 92 = .ok (.istore 5, 2) := by decide +kernel
theorem dX5_bestSlope_94 : decode cX5_bestSlope 94 = .ok (.iload 5, 2) := by decide +kernel
theorem dX5_bestSlope_96 : decode cX5_bestSlope 96 = .ok (.iload_n 3, 1) := by decide +kernel
theorem dX5_bestSlope_97 : decode cX5_bestSlope 97 = .ok (.if_icmp .le 9, 3) := by decide +kernel
theorem dX5_bestSlope_100 : decode cX5_bestSlope 100 = .ok (.iload 5, 2) := by decide +kernel
theorem dX5_bestSlope_102 : decode cX5_bestSlope 102 = .ok (.istore_n 3, 1) := by decide +kernel
theorem dX5_bestSlope_103 : decode cX5_bestSlope 103 = .ok (.iload 4, 2) := by decide +kernel
theorem dX5_bestSlope_105 : decode cX5_bestSlope 105 = .ok (.istore_n 2, 1) := by decide +kernel
theorem dX5_bestSlope_106 : decode cX5_bestSlope 106 = .ok (.iinc 4 1, 3) := by decide +kernel
theorem dX5_bestSlope_109 : decode cX5_bestSlope 109 = .ok (.goto (-62), 3) := by decide +kernel
theorem dX5_bestSlope_112 : decode cX5_bestSlope 112 = .ok (.iload_n 2, 1) := by decide +kernel
theorem dX5_bestSlope_113 : decode cX5_bestSlope 113 = .ok (.ireturn, 1) := by decide +kernel
theorem dX5_leastPower_0 : decode cX5_leastPower 0 = .ok (.iload_n 1, 1) := by decide +kernel
theorem dX5_leastPower_1 : decode cX5_leastPower 1 = .ok (.ifCond .lt 10, 3) := by decide +kernel
theorem dX5_leastPower_4 : decode cX5_leastPower 4 = .ok (.iload_n 1, 1) := by decide +kernel
theorem dX5_leastPower_5 : decode cX5_leastPower 5 = .ok (.sipush 240, 3) := by decide +kernel
theorem dX5_leastPower_8 : decode cX5_leastPower 8 = .ok (.if_icmp .le 14, 3) := by decide +kernel
theorem dX5_leastPower_11 : decode cX5_leastPower 11 = .ok (.new 38, 3) := by decide +kernel
theorem dX5_leastPower_14 : decode cX5_leastPower 14 = .ok (.dup, 1) := by decide +kernel
theorem dX5_leastPower_15 : decode cX5_leastPower 15 = .ok (.ldc_w 276, 3) := by decide +kernel
theorem dX5_leastPower_18 : decode cX5_leastPower 18 = .ok (.invokespecial 42, 3) := by decide +kernel
theorem dX5_leastPower_21 : decode cX5_leastPower 21 = .ok (.athrow, 1) := by decide +kernel
theorem dX5_leastPower_22 : decode cX5_leastPower 22 = .ok (.iconst 0, 1) := by decide +kernel
theorem dX5_leastPower_23 : decode cX5_leastPower 23 = .ok (.invokestatic 298, 3) := by decide +kernel
theorem dX5_leastPower_26 : decode cX5_leastPower 26 = .ok (.istore_n 2, 1) := by decide +kernel
theorem dX5_leastPower_27 : decode cX5_leastPower 27 = .ok (.iload_n 2, 1) := by decide +kernel
theorem dX5_leastPower_28 : decode cX5_leastPower 28 = .ok (.iconst 0, 1) := by decide +kernel
theorem dX5_leastPower_29 : decode cX5_leastPower 29 = .ok (.invokestatic 301, 3) := by decide +kernel
theorem dX5_leastPower_32 : decode cX5_leastPower 32 = .ok (.if_icmp .gt 42, 3) := by decide +kernel
theorem dX5_leastPower_35 : decode cX5_leastPower 35 = .ok (.aload_n 0, 1) := by decide +kernel
theorem dX5_leastPower_36 : decode cX5_leastPower 36 = .ok (.getfield 20, 3) := by decide +kernel
theorem dX5_leastPower_39 : decode cX5_leastPower 39 = .ok (.aload_n 0, 1) := by decide +kernel
theorem dX5_leastPower_40 : decode cX5_leastPower 40 = .ok (.getfield 16, 3) := by decide +kernel
theorem dX5_leastPower_43 : decode cX5_leastPower 43 = .ok (.invokevirtual 69, 3) := by decide +kernel
theorem dX5_leastPower_46 : decode cX5_leastPower 46 = .ok (.aload_n 0, 1) := by decide +kernel
theorem dX5_leastPower_47 : decode cX5_leastPower 47 = .ok (.getfield 20, 3) := by decide +kernel
theorem dX5_leastPower_50 : decode cX5_leastPower 50 = .ok (.iconst 0, 1) := by decide +kernel
theorem dX5_leastPower_51 : decode cX5_leastPower 51 = .ok (.iload_n 2, 1) := by decide +kernel
theorem dX5_leastPower_52 : decode cX5_leastPower 52 = .ok (.invokevirtual 249, 3) := by decide +kernel
theorem dX5_leastPower_55 : decode cX5_leastPower 55 = .ok (.aload_n 0, 1) := by decide +kernel
theorem dX5_leastPower_56 : decode cX5_leastPower 56 = .ok (.getfield 20, 3) := by decide +kernel
theorem dX5_leastPower_59 : decode cX5_leastPower 59 = .ok (.iload_n 1, 1) := by decide +kernel
theorem dX5_leastPower_60 : decode cX5_leastPower 60 = .ok (.invokestatic 304, 3) := by decide +kernel
theorem dX5_leastPower_63 : decode cX5_leastPower 63 = .ok (.ifCond .eq 5, 3) := by decide +kernel
theorem dX5_leastPower_66 : decode cX5_leastPower 66 = .ok (.iload_n 2, 1) := by decide +kernel
theorem dX5_leastPower_67 : decode cX5_leastPower 67 = .ok (.ireturn, 1) := by decide +kernel
theorem dX5_leastPower_68 : decode cX5_leastPower 68 = .ok (.iinc 2 10, 3) := by decide +kernel
theorem dX5_leastPower_71 : decode cX5_leastPower 71 = .ok (.goto (-44), 3) := by decide +kernel
theorem dX5_leastPower_74 : decode cX5_leastPower 74 = .ok (.ldc 63, 2) := by decide +kernel
theorem dX5_leastPower_76 : decode cX5_leastPower 76 = .ok (.ireturn, 1) := by decide +kernel
theorem dX5_heatFor_0 : decode cX5_heatFor 0 = .ok (.iload_n 1, 1) := by decide +kernel
theorem dX5_heatFor_1 : decode cX5_heatFor 1 = .ok (.ifCond .lt 10, 3) := by decide +kernel
theorem dX5_heatFor_4 : decode cX5_heatFor 4 = .ok (.iload_n 1, 1) := by decide +kernel
theorem dX5_heatFor_5 : decode cX5_heatFor 5 = .ok (.sipush 240, 3) := by decide +kernel
theorem dX5_heatFor_8 : decode cX5_heatFor 8 = .ok (.if_icmp .le 14, 3) := by decide +kernel
theorem dX5_heatFor_11 : decode cX5_heatFor 11 = .ok (.new 38, 3) := by decide +kernel
theorem dX5_heatFor_14 : decode cX5_heatFor 14 = .ok (.dup, 1) := by decide +kernel
theorem dX5_heatFor_15 : decode cX5_heatFor 15 = .ok (.ldc_w 276, 3) := by decide +kernel
theorem dX5_heatFor_18 : decode cX5_heatFor 18 = .ok (.invokespecial 42, 3) := by decide +kernel
theorem dX5_heatFor_21 : decode cX5_heatFor 21 = .ok (.athrow, 1) := by decide +kernel
theorem dX5_heatFor_22 : decode cX5_heatFor 22 = .ok (.aload_n 0, 1) := by decide +kernel
theorem dX5_heatFor_23 : decode cX5_heatFor 23 = .ok (.getfield 20, 3) := by decide +kernel
theorem dX5_heatFor_26 : decode cX5_heatFor 26 = .ok (.aload_n 0, 1) := by decide +kernel
theorem dX5_heatFor_27 : decode cX5_heatFor 27 = .ok (.getfield 16, 3) := by decide +kernel
theorem dX5_heatFor_30 : decode cX5_heatFor 30 = .ok (.invokevirtual 69, 3) := by decide +kernel
theorem dX5_heatFor_33 : decode cX5_heatFor 33 = .ok (.aload_n 0, 1) := by decide +kernel
theorem dX5_heatFor_34 : decode cX5_heatFor 34 = .ok (.getfield 20, 3) := by decide +kernel
theorem dX5_heatFor_37 : decode cX5_heatFor 37 = .ok (.iload_n 1, 1) := by decide +kernel
theorem dX5_heatFor_38 : decode cX5_heatFor 38 = .ok (.invokevirtual 263, 3) := by decide +kernel
theorem dX5_heatFor_41 : decode cX5_heatFor 41 = .ok (.aload_n 0, 1) := by decide +kernel
theorem dX5_heatFor_42 : decode cX5_heatFor 42 = .ok (.getfield 20, 3) := by decide +kernel
theorem dX5_heatFor_45 : decode cX5_heatFor 45 = .ok (.invokevirtual 308, 3) := by decide +kernel
theorem dX5_heatFor_48 : decode cX5_heatFor 48 = .ok (.aload_n 0, 1) := by decide +kernel
theorem dX5_heatFor_49 : decode cX5_heatFor 49 = .ok (.getfield 16, 3) := by decide +kernel
theorem dX5_heatFor_52 : decode cX5_heatFor 52 = .ok (.invokevirtual 308, 3) := by decide +kernel
theorem dX5_heatFor_55 : decode cX5_heatFor 55 = .ok (.isub, 1) := by decide +kernel
theorem dX5_heatFor_56 : decode cX5_heatFor 56 = .ok (.ireturn, 1) := by decide +kernel
theorem dX5_runScript_0 : decode cX5_runScript 0 = .ok (.iload_n 1, 1) := by decide +kernel
theorem dX5_runScript_1 : decode cX5_runScript 1 = .ok (.iconst 1, 1) := by decide +kernel
theorem dX5_runScript_2 : decode cX5_runScript 2 = .ok (.if_icmp .lt 8, 3) := by decide +kernel
theorem dX5_runScript_5 : decode cX5_runScript 5 = .ok (.iload_n 1, 1) := by decide +kernel
theorem dX5_runScript_6 : decode cX5_runScript 6 = .ok (.iconst 4, 1) := by decide +kernel
theorem dX5_runScript_7 : decode cX5_runScript 7 = .ok (.if_icmp .le 14, 3) := by decide +kernel
theorem dX5_runScript_10 : decode cX5_runScript 10 = .ok (.new 38, 3) := by decide +kernel
theorem dX5_runScript_13 : decode cX5_runScript 13 = .ok (.dup, 1) := by decide +kernel
theorem dX5_runScript_14 : decode cX5_runScript 14 = .ok (.ldc_w 311, 3) := by decide +kernel
theorem dX5_runScript_17 : decode cX5_runScript 17 = .ok (.invokespecial 42, 3) := by decide +kernel
theorem dX5_runScript_20 : decode cX5_runScript 20 = .ok (.athrow, 1) := by decide +kernel
theorem dX5_runScript_21 : decode cX5_runScript 21 = .ok (.lload_n 2, 1) := by decide +kernel
theorem dX5_runScript_22 : decode cX5_runScript 22 = .ok (.lconst 0, 1) := by decide +kernel
theorem dX5_runScript_23 : decode cX5_runScript 23 = .ok (.lcmp, 1) := by decide +kernel
theorem dX5_runScript_24 : decode cX5_runScript 24 = .ok (.ifCond .lt 12, 3) := by decide +kernel
theorem dX5_runScript_27 : decode cX5_runScript 27 = .ok (.lload_n 2, 1) := by decide +kernel
theorem dX5_runScript_28 : decode cX5_runScript 28 = .ok (.iload_n 1, 1) := by decide +kernel
theorem dX5_runScript_29 : decode cX5_runScript 29 = .ok (.invokestatic 313, 3) := by decide +kernel
theorem dX5_runScript_32 : decode cX5_runScript 32 = .ok (.lcmp, 1) := by decide +kernel
theorem dX5_runScript_33 : decode cX5_runScript 33 = .ok (.ifCond .le 14, 3) := by decide +kernel
theorem dX5_runScript_36 : decode cX5_runScript 36 = .ok (.new 38, 3) := by decide +kernel
theorem dX5_runScript_39 : decode cX5_runScript 39 = .ok (.dup, 1) := by decide +kernel
theorem dX5_runScript_40 : decode cX5_runScript 40 = .ok (.ldc_w 317, 3) := by decide +kernel
theorem dX5_runScript_43 : decode cX5_runScript 43 = .ok (.invokespecial 42, 3) := by decide +kernel
theorem dX5_runScript_46 : decode cX5_runScript 46 = .ok (.athrow, 1) := by decide +kernel
theorem dX5_runScript_47 : decode cX5_runScript 47 = .ok (.aload_n 0, 1) := by decide +kernel
theorem dX5_runScript_48 : decode cX5_runScript 48 = .ok (.getfield 20, 3) := by decide +kernel
theorem dX5_runScript_51 : decode cX5_runScript 51 = .ok (.aload_n 0, 1) := by decide +kernel
theorem dX5_runScript_52 : decode cX5_runScript 52 = .ok (.getfield 16, 3) := by decide +kernel
theorem dX5_runScript_55 : decode cX5_runScript 55 = .ok (.invokevirtual 69, 3) := by decide +kernel
theorem dX5_runScript_58 : decode cX5_runScript 58 = .ok (.iconst 0, 1) := by decide +kernel
theorem dX5_runScript_59 : decode cX5_runScript 59 = .ok (.istore 4, 2) := by decide +kernel
theorem dX5_runScript_61 : decode cX5_runScript 61 = .ok (.iload 4, 2) := by decide +kernel
theorem dX5_runScript_63 : decode cX5_runScript 63 = .ok (.iload_n 1, 1) := by decide +kernel
theorem dX5_runScript_64 : decode cX5_runScript 64 = .ok (.if_icmp .ge 29, 3) := by decide +kernel
theorem dX5_runScript_67 : decode cX5_runScript 67 = .ok (.aload_n 0, 1) := by decide +kernel
theorem dX5_runScript_68 : decode cX5_runScript 68 = .ok (.getfield 20, 3) := by decide +kernel
theorem dX5_runScript_71 : decode cX5_runScript 71 = .ok (.iload_n 1, 1) := by decide +kernel
theorem dX5_runScript_72 : decode cX5_runScript 72 = .ok (.lload_n 2, 1) := by decide +kernel
theorem dX5_runScript_73 : decode cX5_runScript 73 = .ok (.iload 4, 2) := by decide +kernel
theorem dX5_runScript_75 : decode cX5_runScript 75 = .ok (.invokestatic 319, 3) := by decide +kernel
theorem dX5_runScript_78 : decode cX5_runScript 78 = .ok (.invokestatic 323, 3) := by decide +kernel
theorem dX5_runScript_81 : decode cX5_runScript 81 = .ok (.ifCond .ne 6, 3) := by decide +kernel
theorem dX5_runScript_84 : decode cX5_runScript 84 = .ok (.iload 4, 2) := by decide +kernel
theorem dX5_runScript_86 : decode cX5_runScript 86 = .ok (.ireturn, 1) := by decide +kernel
theorem dX5_runScript_87 : decode cX5_runScript 87 = .ok (.iinc 4 1, 3) := by decide +kernel
theorem dX5_runScript_90 : decode cX5_runScript 90 = .ok (.goto (-29), 3) := by decide +kernel
theorem dX5_runScript_93 : decode cX5_runScript 93 = .ok (.ldc 63, 2) := by decide +kernel
theorem dX5_runScript_95 : decode cX5_runScript 95 = .ok (.ireturn, 1) := by decide +kernel
theorem dX5_simulate_0 : decode cX5_simulate 0 = .ok (.iload_n 3, 1) := by decide +kernel
theorem dX5_simulate_1 : decode cX5_simulate 1 = .ok (.iconst 1, 1) := by decide +kernel
theorem dX5_simulate_2 : decode cX5_simulate 2 = .ok (.if_icmp .lt 9, 3) := by decide +kernel
theorem dX5_simulate_5 : decode cX5_simulate 5 = .ok (.iload_n 3, 1) := by decide +kernel
theorem dX5_simulate_6 : decode cX5_simulate 6 = .ok (.bipush 60, 2) := by decide +kernel
theorem dX5_simulate_8 : decode cX5_simulate 8 = .ok (.if_icmp .le 14, 3) := by decide +kernel
theorem dX5_simulate_11 : decode cX5_simulate 11 = .ok (.new 38, 3) := by decide +kernel
theorem dX5_simulate_14 : decode cX5_simulate 14 = .ok (.dup, 1) := by decide +kernel
theorem dX5_simulate_15 : decode cX5_simulate 15 = .ok (.ldc_w 326, 3) := by decide +kernel
theorem dX5_simulate_18 : decode cX5_simulate 18 = .ok (.invokespecial 42, 3) := by decide +kernel
theorem dX5_simulate_21 : decode cX5_simulate 21 = .ok (.athrow, 1) := by decide +kernel
theorem dX5_simulate_22 : decode cX5_simulate 22 = .ok (.aload_n 0, 1) := by decide +kernel
theorem dX5_simulate_23 : decode cX5_simulate 23 = .ok (.getfield 20, 3) := by decide +kernel
theorem dX5_simulate_26 : decode cX5_simulate 26 = .ok (.aload_n 0, 1) := by decide +kernel
theorem dX5_simulate_27 : decode cX5_simulate 27 = .ok (.getfield 16, 3) := by decide +kernel
theorem dX5_simulate_30 : decode cX5_simulate 30 = .ok (.invokevirtual 69, 3) := by decide +kernel
theorem dX5_simulate_33 : decode cX5_simulate 33 = .ok (.lload_n 1, 1) := by decide +kernel
theorem dX5_simulate_34 : decode cX5_simulate 34 = .ok (.lstore 4, 2) := by decide +kernel
theorem dX5_simulate_36 : decode cX5_simulate 36 = .ok (.iconst 0, 1) := by decide +kernel
theorem dX5_simulate_37 : decode cX5_simulate 37 = .ok (.istore 6, 2) := by decide +kernel
theorem dX5_simulate_39 : decode cX5_simulate 39 = .ok (.iload 6, 2) := by decide +kernel
theorem dX5_simulate_41 : decode cX5_simulate 41 = .ok (.iload_n 3, 1) := by decide +kernel
theorem dX5_simulate_42 : decode cX5_simulate 42 = .ok (.if_icmp .ge 99, 3) := by decide +kernel
theorem dX5_simulate_45 : decode cX5_simulate 45 = .ok (.lload 4, 2) := by decide +kernel
theorem dX5_simulate_47 : decode cX5_simulate 47 = .ok (.ldc2_w 328, 3) := by decide +kernel
theorem dX5_simulate_50 : decode cX5_simulate 50 = .ok (.lmul, 1) := by decide +kernel
theorem dX5_simulate_51 : decode cX5_simulate 51 = .ok (.ldc2_w 330, 3) := by decide +kernel
theorem dX5_simulate_54 : decode cX5_simulate 54 = .ok (.ladd, 1) := by decide +kernel
theorem dX5_simulate_55 : decode cX5_simulate 55 = .ok (.lstore 4, 2) := by decide +kernel
theorem dX5_simulate_57 : decode cX5_simulate 57 = .ok (.lload 4, 2) := by decide +kernel
theorem dX5_simulate_59 : decode cX5_simulate 59 = .ok (.bipush 33, 2) := by decide +kernel
theorem dX5_simulate_61 : decode cX5_simulate 61 = .ok (.lushr, 1) := by decide +kernel
theorem dX5_simulate_62 : decode cX5_simulate 62 = .ok (.l2i, 1) := by decide +kernel
theorem dX5_simulate_63 : decode cX5_simulate 63 = .ok (.istore 7, 2) := by decide +kernel
theorem dX5_simulate_65 : decode cX5_simulate 65 = .ok (.aload_n 0, 1) := by decide +kernel
theorem dX5_simulate_66 : decode cX5_simulate 66 = .ok (.getfield 20, 3) := by decide +kernel
theorem dX5_simulate_69 : decode cX5_simulate 69 = .ok (.iload 7, 2) := by decide +kernel
theorem dX5_simulate_71 : decode cX5_simulate 71 = .ok (.bipush 61, 2) := by decide +kernel
theorem dX5_simulate_73 : decode cX5_simulate 73 = .ok (.irem, 1) := by decide +kernel
theorem dX5_simulate_74 : decode cX5_simulate 74 = .ok (.bipush 20, 2) := by decide +kernel
theorem dX5_simulate_76 : decode cX5_simulate 76 = .ok (.isub, 1) := by decide +kernel
theorem dX5_simulate_77 : decode cX5_simulate 77 = .ok (.putfield 82, 3) := by decide +kernel
theorem dX5_simulate_80 : decode cX5_simulate 80 = .ok (.aload_n 0, 1) := by decide +kernel
theorem dX5_simulate_81 : decode cX5_simulate 81 = .ok (.getfield 20, 3) := by decide +kernel
theorem dX5_simulate_84 : decode cX5_simulate 84 = .ok (.getfield 76, 3) := by decide +kernel
theorem dX5_simulate_87 : decode cX5_simulate 87 = .ok (.ifCond .le 39, 3) := by decide +kernel
theorem dX5_simulate_90 : decode cX5_simulate 90 = .ok (.aload_n 0, 1) := by decide +kernel
theorem dX5_simulate_91 : decode cX5_simulate 91 = .ok (.getfield 20, 3) := by decide +kernel
theorem dX5_simulate_94 : decode cX5_simulate 94 = .ok (.iload 7, 2) := by decide +kernel
theorem dX5_simulate_96 : decode cX5_simulate 96 = .ok (.bipush 64, 2) := by decide +kernel
theorem dX5_simulate_98 : decode cX5_simulate 98 = .ok (.idiv, 1) := by decide +kernel
theorem dX5_simulate_99 : decode cX5_simulate 99 = .ok (.aload_n 0, 1) := by decide +kernel
theorem dX5_simulate_100 : decode cX5_simulate 100 = .ok (.getfield 20, 3) := by decide +kernel
theorem dX5_simulate_103 : decode cX5_simulate 103 = .ok (.getfield 76, 3) := by decide +kernel
theorem dX5_simulate_106 : decode cX5_simulate 106 = .ok (.irem, 1) := by decide +kernel
theorem dX5_simulate_107 : decode cX5_simulate 107 = .ok (.iload 7, 2) := by decide +kernel
theorem dX5_simulate_109 : decode cX5_simulate 109 = .ok (.sipush 512, 3) := by decide +kernel
theorem dX5_simulate_112 : decode cX5_simulate 112 = .ok (.idiv, 1) := by decide +kernel
theorem dX5_simulate_113 : decode cX5_simulate 113 = .ok (.iconst 4, 1) := by decide +kernel
theorem dX5_simulate_114 : decode cX5_simulate 114 = .ok (.irem, 1) := by decide +kernel
theorem dX5_simulate_115 : decode cX5_simulate 115 = .ok (.ifCond .ne 7, 3) := by decide +kernel
theorem dX5_simulate_118 : decode cX5_simulate 118 = .ok (.iconst 1, 1) := by decide +kernel
theorem dX5_simulate_119 : decode cX5_simulate 119 = .ok (.goto 4, 3) := by decide +kernel
theorem dX5_simulate_122 : decode cX5_simulate 122 = .ok (.iconst 0, 1) := by decide +kernel
theorem dX5_simulate_123 : decode cX5_simulate 123 = .ok (.invokevirtual 332, 3) := by decide +kernel
theorem dX5_simulate_126 : decode cX5_simulate 126 = .ok (.aload_n 0, 1) := by decide +kernel
theorem dX5_simulate_127 : decode cX5_simulate 127 = .ok (.getfield 20, 3) := by decide +kernel
theorem dX5_simulate_130 : decode cX5_simulate 130 = .ok (.bipush 10, 2) := by decide +kernel
theorem dX5_simulate_132 : decode cX5_simulate 132 = .ok (.invokevirtual 263, 3) := by decide +kernel
theorem dX5_simulate_135 : decode cX5_simulate 135 = .ok (.iinc 6 1, 3) := by decide +kernel
theorem dX5_simulate_138 : decode cX5_simulate 138 = .ok (.goto (-99), 3) := by decide +kernel
theorem dX5_simulate_141 : decode cX5_simulate 141 = .ok (.aload_n 0, 1) := by decide +kernel
theorem dX5_simulate_142 : decode cX5_simulate 142 = .ok (.getfield 20, 3) := by decide +kernel
theorem dX5_simulate_145 : decode cX5_simulate 145 = .ok (.invokevirtual 120, 3) := by decide +kernel
theorem dX5_simulate_148 : decode cX5_simulate 148 = .ok (.aload_n 0, 1) := by decide +kernel
theorem dX5_simulate_149 : decode cX5_simulate 149 = .ok (.getfield 16, 3) := by decide +kernel
theorem dX5_simulate_152 : decode cX5_simulate 152 = .ok (.invokevirtual 120, 3) := by decide +kernel
theorem dX5_simulate_155 : decode cX5_simulate 155 = .ok (.isub, 1) := by decide +kernel
theorem dX5_simulate_156 : decode cX5_simulate 156 = .ok (.i2l, 1) := by decide +kernel
theorem dX5_simulate_157 : decode cX5_simulate 157 = .ok (.lstore 6, 2) := by decide +kernel
theorem dX5_simulate_159 : decode cX5_simulate 159 = .ok (.ldc2_w 336, 3) := by decide +kernel
theorem dX5_simulate_162 : decode cX5_simulate 162 = .ok (.lload 6, 2) := by decide +kernel
theorem dX5_simulate_164 : decode cX5_simulate 164 = .ok (.lmul, 1) := by decide +kernel
theorem dX5_simulate_165 : decode cX5_simulate 165 = .ok (.aload_n 0, 1) := by decide +kernel
theorem dX5_simulate_166 : decode cX5_simulate 166 = .ok (.getfield 20, 3) := by decide +kernel
theorem dX5_simulate_169 : decode cX5_simulate 169 = .ok (.invokevirtual 308, 3) := by decide +kernel
theorem dX5_simulate_172 : decode cX5_simulate 172 = .ok (.aload_n 0, 1) := by decide +kernel
theorem dX5_simulate_173 : decode cX5_simulate 173 = .ok (.getfield 16, 3) := by decide +kernel
theorem dX5_simulate_176 : decode cX5_simulate 176 = .ok (.invokevirtual 308, 3) := by decide +kernel
theorem dX5_simulate_179 : decode cX5_simulate 179 = .ok (.isub, 1) := by decide +kernel
theorem dX5_simulate_180 : decode cX5_simulate 180 = .ok (.i2l, 1) := by decide +kernel
theorem dX5_simulate_181 : decode cX5_simulate 181 = .ok (.ladd, 1) := by decide +kernel
theorem dX5_simulate_182 : decode cX5_simulate 182 = .ok (.lreturn, 1) := by decide +kernel
theorem dX5_save_0 : decode cX5_save 0 = .ok (.iload_n 1, 1) := by decide +kernel
theorem dX5_save_1 : decode cX5_save 1 = .ok (.ifCond .lt 21, 3) := by decide +kernel
theorem dX5_save_4 : decode cX5_save 4 = .ok (.iload_n 1, 1) := by decide +kernel
theorem dX5_save_5 : decode cX5_save 5 = .ok (.aload_n 0, 1) := by decide +kernel
theorem dX5_save_6 : decode cX5_save 6 = .ok (.getfield 30, 3) := by decide +kernel
theorem dX5_save_9 : decode cX5_save 9 = .ok (.arraylength, 1) := by decide +kernel
theorem dX5_save_10 : decode cX5_save 10 = .ok (.if_icmp .ge 12, 3) := by decide +kernel
theorem dX5_save_13 : decode cX5_save 13 = .ok (.iload_n 1, 1) := by decide +kernel
theorem dX5_save_14 : decode cX5_save 14 = .ok (.aload_n 0, 1) := by decide +kernel
theorem dX5_save_15 : decode cX5_save 15 = .ok (.getfield 34, 3) := by decide +kernel
theorem dX5_save_18 : decode cX5_save 18 = .ok (.arraylength, 1) := by decide +kernel
theorem dX5_save_19 : decode cX5_save 19 = .ok (.if_icmp .lt 14, 3) := by decide +kernel
theorem dX5_save_22 : decode cX5_save 22 = .ok (.new 135, 3) := by decide +kernel
theorem dX5_save_25 : decode cX5_save 25 = .ok (.dup, 1) := by decide +kernel
theorem dX5_save_26 : decode cX5_save 26 = .ok (.ldc_w 338, 3) := by decide +kernel
theorem dX5_save_29 : decode cX5_save 29 = .ok (.invokespecial 139, 3) := by decide +kernel
theorem dX5_save_32 : decode cX5_save 32 = .ok (.athrow, 1) := by decide +kernel
theorem dX5_save_33 : decode cX5_save 33 = .ok (.aload_n 0, 1) := by decide +kernel
theorem dX5_save_34 : decode cX5_save 34 = .ok (.getfield 30, 3) := by decide +kernel
theorem dX5_save_37 : decode cX5_save 37 = .ok (.iload_n 1, 1) := by decide +kernel
theorem dX5_save_38 : decode cX5_save 38 = .ok (.aaload, 1) := by decide +kernel
theorem dX5_save_39 : decode cX5_save 39 = .ok (.aload_n 0, 1) := by decide +kernel
theorem dX5_save_40 : decode cX5_save 40 = .ok (.getfield 16, 3) := by decide +kernel
theorem dX5_save_43 : decode cX5_save 43 = .ok (.invokevirtual 69, 3) := by decide +kernel
theorem dX5_save_46 : decode cX5_save 46 = .ok (.aload_n 0, 1) := by decide +kernel
theorem dX5_save_47 : decode cX5_save 47 = .ok (.getfield 34, 3) := by decide +kernel
theorem dX5_save_50 : decode cX5_save 50 = .ok (.iload_n 1, 1) := by decide +kernel
theorem dX5_save_51 : decode cX5_save 51 = .ok (.iconst 1, 1) := by decide +kernel
theorem dX5_save_52 : decode cX5_save 52 = .ok (.bastore, 1) := by decide +kernel
theorem dX5_save_53 : decode cX5_save 53 = .ok (.aload_n 0, 1) := by decide +kernel
theorem dX5_save_54 : decode cX5_save 54 = .ok (.getfield 16, 3) := by decide +kernel
theorem dX5_save_57 : decode cX5_save 57 = .ok (.getfield 79, 3) := by decide +kernel
theorem dX5_save_60 : decode cX5_save 60 = .ok (.ireturn, 1) := by decide +kernel
theorem dX5_restore_0 : decode cX5_restore 0 = .ok (.iload_n 1, 1) := by decide +kernel
theorem dX5_restore_1 : decode cX5_restore 1 = .ok (.ifCond .lt 21, 3) := by decide +kernel
theorem dX5_restore_4 : decode cX5_restore 4 = .ok (.iload_n 1, 1) := by decide +kernel
theorem dX5_restore_5 : decode cX5_restore 5 = .ok (.aload_n 0, 1) := by decide +kernel
theorem dX5_restore_6 : decode cX5_restore 6 = .ok (.getfield 30, 3) := by decide +kernel
theorem dX5_restore_9 : decode cX5_restore 9 = .ok (.arraylength, 1) := by decide +kernel
theorem dX5_restore_10 : decode cX5_restore 10 = .ok (.if_icmp .ge 12, 3) := by decide +kernel
theorem dX5_restore_13 : decode cX5_restore 13 = .ok (.iload_n 1, 1) := by decide +kernel
theorem dX5_restore_14 : decode cX5_restore 14 = .ok (.aload_n 0, 1) := by decide +kernel
theorem dX5_restore_15 : decode cX5_restore 15 = .ok (.getfield 34, 3) := by decide +kernel
theorem dX5_restore_18 : decode cX5_restore 18 = .ok (.arraylength, 1) := by decide +kernel
theorem dX5_restore_19 : decode cX5_restore 19 = .ok (.if_icmp .lt 14, 3) := by decide +kernel
theorem dX5_restore_22 : decode cX5_restore 22 = .ok (.new 135, 3) := by decide +kernel
theorem dX5_restore_25 : decode cX5_restore 25 = .ok (.dup, 1) := by decide +kernel
theorem dX5_restore_26 : decode cX5_restore 26 = .ok (.ldc_w 338, 3) := by decide +kernel
theorem dX5_restore_29 : decode cX5_restore 29 = .ok (.invokespecial 139, 3) := by decide +kernel
theorem dX5_restore_32 : decode cX5_restore 32 = .ok (.athrow, 1) := by decide +kernel
theorem dX5_restore_33 : decode cX5_restore 33 = .ok (.aload_n 0, 1) := by decide +kernel
theorem dX5_restore_34 : decode cX5_restore 34 = .ok (.getfield 34, 3) := by decide +kernel
theorem dX5_restore_37 : decode cX5_restore 37 = .ok (.iload_n 1, 1) := by decide +kernel
theorem dX5_restore_38 : decode cX5_restore 38 = .ok (.baload, 1) := by decide +kernel
theorem dX5_restore_39 : decode cX5_restore 39 = .ok (.ifCond .ne 14, 3) := by decide +kernel
theorem dX5_restore_42 : decode cX5_restore 42 = .ok (.new 49, 3) := by decide +kernel
theorem dX5_restore_45 : decode cX5_restore 45 = .ok (.dup, 1) := by decide +kernel
theorem dX5_restore_46 : decode cX5_restore 46 = .ok (.ldc_w 340, 3) := by decide +kernel
theorem dX5_restore_49 : decode cX5_restore 49 = .ok (.invokespecial 53, 3) := by decide +kernel
theorem dX5_restore_52 : decode cX5_restore 52 = .ok (.athrow, 1) := by decide +kernel
theorem dX5_restore_53 : decode cX5_restore 53 = .ok (.aload_n 0, 1) := by decide +kernel
theorem dX5_restore_54 : decode cX5_restore 54 = .ok (.getfield 16, 3) := by decide +kernel
theorem dX5_restore_57 : decode cX5_restore 57 = .ok (.aload_n 0, 1) := by decide +kernel
theorem dX5_restore_58 : decode cX5_restore 58 = .ok (.getfield 30, 3) := by decide +kernel
theorem dX5_restore_61 : decode cX5_restore 61 = .ok (.iload_n 1, 1) := by decide +kernel
theorem dX5_restore_62 : decode cX5_restore 62 = .ok (.aaload, 1) := by decide +kernel
theorem dX5_restore_63 : decode cX5_restore 63 = .ok (.invokevirtual 69, 3) := by decide +kernel
theorem dX5_restore_66 : decode cX5_restore 66 = .ok (.aload_n 0, 1) := by decide +kernel
theorem dX5_restore_67 : decode cX5_restore 67 = .ok (.getfield 26, 3) := by decide +kernel
theorem dX5_restore_70 : decode cX5_restore 70 = .ok (.invokevirtual 73, 3) := by decide +kernel
theorem dX5_restore_73 : decode cX5_restore 73 = .ok (.aload_n 0, 1) := by decide +kernel
theorem dX5_restore_74 : decode cX5_restore 74 = .ok (.getfield 16, 3) := by decide +kernel
theorem dX5_restore_77 : decode cX5_restore 77 = .ok (.getfield 79, 3) := by decide +kernel
theorem dX5_restore_80 : decode cX5_restore 80 = .ok (.ireturn, 1) := by decide +kernel
theorem dX5_lowestSetting_0 : decode cX5_lowestSetting 0 = .ok (.iload_n 0, 1) := by decide +kernel
theorem dX5_lowestSetting_1 : decode cX5_lowestSetting 1 = .ok (.ifCond .lt 19, 3) := by decide +kernel
theorem dX5_lowestSetting_4 : decode cX5_lowestSetting 4 = .ok (.iload_n 0, 1) := by decide +kernel
theorem dX5_lowestSetting_5 : decode cX5_lowestSetting 5 = .ok (.getstatic 342, 3) := by decide +kernel
theorem dX5_lowestSetting_8 : decode cX5_lowestSetting 8 = .ok (.arraylength, 1) := by decide +kernel
theorem dX5_lowestSetting_9 : decode cX5_lowestSetting 9 = .ok (.if_icmp .ge 11, 3) := by decide +kernel
theorem dX5_lowestSetting_12 : decode cX5_lowestSetting 12 = .ok (.getstatic 342, 3) := by decide +kernel
theorem dX5_lowestSetting_15 : decode cX5_lowestSetting 15 = .ok (.iload_n 0, 1) := by decide +kernel
theorem dX5_lowestSetting_16 : decode cX5_lowestSetting 16 = .ok (.iaload, 1) := by decide +kernel
theorem dX5_lowestSetting_17 : decode cX5_lowestSetting 17 = .ok (.goto 4, 3) := by decide +kernel
theorem dX5_lowestSetting_20 : decode cX5_lowestSetting 20 = .ok (.iconst 1, 1) := by decide +kernel
theorem dX5_lowestSetting_21 : decode cX5_lowestSetting 21 = .ok (.ireturn, 1) := by decide +kernel
theorem dX5_highestSetting_0 : decode cX5_highestSetting 0 = .ok (.iload_n 0, 1) := by decide +kernel
theorem dX5_highestSetting_1 : decode cX5_highestSetting 1 = .ok (.ifCond .lt 19, 3) := by decide +kernel
theorem dX5_highestSetting_4 : decode cX5_highestSetting 4 = .ok (.iload_n 0, 1) := by decide +kernel
theorem dX5_highestSetting_5 : decode cX5_highestSetting 5 = .ok (.getstatic 345, 3) := by decide +kernel
theorem dX5_highestSetting_8 : decode cX5_highestSetting 8 = .ok (.arraylength, 1) := by decide +kernel
theorem dX5_highestSetting_9 : decode cX5_highestSetting 9 = .ok (.if_icmp .ge 11, 3) := by decide +kernel
theorem dX5_highestSetting_12 : decode cX5_highestSetting 12 = .ok (.getstatic 345, 3) := by decide +kernel
theorem dX5_highestSetting_15 : decode cX5_highestSetting 15 = .ok (.iload_n 0, 1) := by decide +kernel
theorem dX5_highestSetting_16 : decode cX5_highestSetting 16 = .ok (.iaload, 1) := by decide +kernel
theorem dX5_highestSetting_17 : decode cX5_highestSetting 17 = .ok (.goto 4, 3) := by decide +kernel
theorem dX5_highestSetting_20 : decode cX5_highestSetting 20 = .ok (.iconst 0, 1) := by decide +kernel
theorem dX5_highestSetting_21 : decode cX5_highestSetting 21 = .ok (.ireturn, 1) := by decide +kernel
theorem dX5_settingAllowed_0 : decode cX5_settingAllowed 0 = .ok (.iload_n 1, 1) := by decide +kernel
theorem dX5_settingAllowed_1 : decode cX5_settingAllowed 1 = .ok (.iload_n 0, 1) := by decide +kernel
theorem dX5_settingAllowed_2 : decode cX5_settingAllowed 2 = .ok (.invokestatic 298, 3) := by decide +kernel
theorem dX5_settingAllowed_5 : decode cX5_settingAllowed 5 = .ok (.if_icmp .lt 15, 3) := by decide +kernel
theorem dX5_settingAllowed_8 : decode cX5_settingAllowed 8 = .ok (.iload_n 1, 1) := by decide +kernel
theorem dX5_settingAllowed_9 : decode cX5_settingAllowed 9 = .ok (.iload_n 0, 1) := by decide +kernel
theorem dX5_settingAllowed_10 : decode cX5_settingAllowed 10 = .ok (.invokestatic 301, 3) := by decide +kernel
theorem dX5_settingAllowed_13 : decode cX5_settingAllowed 13 = .ok (.if_icmp .gt 7, 3) := by decide +kernel
theorem dX5_settingAllowed_16 : decode cX5_settingAllowed 16 = .ok (.iconst 1, 1) := by decide +kernel
theorem dX5_settingAllowed_17 : decode cX5_settingAllowed 17 = .ok (.goto 4, 3) := by decide +kernel
theorem dX5_settingAllowed_20 : decode cX5_settingAllowed 20 = .ok (.iconst 0, 1) := by decide +kernel
theorem dX5_settingAllowed_21 : decode cX5_settingAllowed 21 = .ok (.ireturn, 1) := by decide +kernel
theorem dX5_outsideAllowed_0 : decode cX5_outsideAllowed 0 = .ok (.iload_n 0, 1) := by decide +kernel
theorem dX5_outsideAllowed_1 : decode cX5_outsideAllowed 1 = .ok (.bipush (-20), 2) := by decide +kernel
theorem dX5_outsideAllowed_3 : decode cX5_outsideAllowed 3 = .ok (.if_icmp .lt 13, 3) := by decide +kernel
theorem dX5_outsideAllowed_6 : decode cX5_outsideAllowed 6 = .ok (.iload_n 0, 1) := by decide +kernel
theorem dX5_outsideAllowed_7 : decode cX5_outsideAllowed 7 = .ok (.bipush 40, 2) := by decide +kernel
theorem dX5_outsideAllowed_9 : decode cX5_outsideAllowed 9 = .ok (.if_icmp .gt 7, 3) := by decide +kernel
theorem dX5_outsideAllowed_12 : decode cX5_outsideAllowed 12 = .ok (.iconst 1, 1) := by decide +kernel
theorem dX5_outsideAllowed_13 : decode cX5_outsideAllowed 13 = .ok (.goto 4, 3) := by decide +kernel
theorem dX5_outsideAllowed_16 : decode cX5_outsideAllowed 16 = .ok (.iconst 0, 1) := by decide +kernel
theorem dX5_outsideAllowed_17 : decode cX5_outsideAllowed 17 = .ok (.ireturn, 1) := by decide +kernel
theorem dX5_passAllowed_0 : decode cX5_passAllowed 0 = .ok (.iload_n 0, 1) := by decide +kernel
theorem dX5_passAllowed_1 : decode cX5_passAllowed 1 = .ok (.iconst 1, 1) := by decide +kernel
theorem dX5_passAllowed_2 : decode cX5_passAllowed 2 = .ok (.if_icmp .lt 13, 3) := by decide +kernel
theorem dX5_passAllowed_5 : decode cX5_passAllowed 5 = .ok (.iload_n 0, 1) := by decide +kernel
theorem dX5_passAllowed_6 : decode cX5_passAllowed 6 = .ok (.bipush 60, 2) := by decide +kernel
theorem dX5_passAllowed_8 : decode cX5_passAllowed 8 = .ok (.if_icmp .gt 7, 3) := by decide +kernel
theorem dX5_passAllowed_11 : decode cX5_passAllowed 11 = .ok (.iconst 1, 1) := by decide +kernel
theorem dX5_passAllowed_12 : decode cX5_passAllowed 12 = .ok (.goto 4, 3) := by decide +kernel
theorem dX5_passAllowed_15 : decode cX5_passAllowed 15 = .ok (.iconst 0, 1) := by decide +kernel
theorem dX5_passAllowed_16 : decode cX5_passAllowed 16 = .ok (.ireturn, 1) := by decide +kernel
theorem dX5_wantedAllowed_0 : decode cX5_wantedAllowed 0 = .ok (.iload_n 0, 1) := by decide +kernel
theorem dX5_wantedAllowed_1 : decode cX5_wantedAllowed 1 = .ok (.bipush 10, 2) := by decide +kernel
theorem dX5_wantedAllowed_3 : decode cX5_wantedAllowed 3 = .ok (.if_icmp .lt 13, 3) := by decide +kernel
theorem dX5_wantedAllowed_6 : decode cX5_wantedAllowed 6 = .ok (.iload_n 0, 1) := by decide +kernel
theorem dX5_wantedAllowed_7 : decode cX5_wantedAllowed 7 = .ok (.bipush 25, 2) := by decide +kernel
theorem dX5_wantedAllowed_9 : decode cX5_wantedAllowed 9 = .ok (.if_icmp .gt 7, 3) := by decide +kernel
theorem dX5_wantedAllowed_12 : decode cX5_wantedAllowed 12 = .ok (.iconst 1, 1) := by decide +kernel
theorem dX5_wantedAllowed_13 : decode cX5_wantedAllowed 13 = .ok (.goto 4, 3) := by decide +kernel
theorem dX5_wantedAllowed_16 : decode cX5_wantedAllowed 16 = .ok (.iconst 0, 1) := by decide +kernel
theorem dX5_wantedAllowed_17 : decode cX5_wantedAllowed 17 = .ok (.ireturn, 1) := by decide +kernel
theorem dX5_radiatorsAllowed_0 : decode cX5_radiatorsAllowed 0 = .ok (.iload_n 0, 1) := by decide +kernel
theorem dX5_radiatorsAllowed_1 : decode cX5_radiatorsAllowed 1 = .ok (.iconst 1, 1) := by decide +kernel
theorem dX5_radiatorsAllowed_2 : decode cX5_radiatorsAllowed 2 = .ok (.if_icmp .lt 13, 3) := by decide +kernel
theorem dX5_radiatorsAllowed_5 : decode cX5_radiatorsAllowed 5 = .ok (.iload_n 0, 1) := by decide +kernel
theorem dX5_radiatorsAllowed_6 : decode cX5_radiatorsAllowed 6 = .ok (.bipush 9, 2) := by decide +kernel
theorem dX5_radiatorsAllowed_8 : decode cX5_radiatorsAllowed 8 = .ok (.if_icmp .gt 7, 3) := by decide +kernel
theorem dX5_radiatorsAllowed_11 : decode cX5_radiatorsAllowed 11 = .ok (.iconst 1, 1) := by decide +kernel
theorem dX5_radiatorsAllowed_12 : decode cX5_radiatorsAllowed 12 = .ok (.goto 4, 3) := by decide +kernel
theorem dX5_radiatorsAllowed_15 : decode cX5_radiatorsAllowed 15 = .ok (.iconst 0, 1) := by decide +kernel
theorem dX5_radiatorsAllowed_16 : decode cX5_radiatorsAllowed 16 = .ok (.ireturn, 1) := by decide +kernel
theorem dX5_leakAllowed_0 : decode cX5_leakAllowed 0 = .ok (.iload_n 0, 1) := by decide +kernel
theorem dX5_leakAllowed_1 : decode cX5_leakAllowed 1 = .ok (.ifCond .lt 13, 3) := by decide +kernel
theorem dX5_leakAllowed_4 : decode cX5_leakAllowed 4 = .ok (.iload_n 0, 1) := by decide +kernel
theorem dX5_leakAllowed_5 : decode cX5_leakAllowed 5 = .ok (.bipush 9, 2) := by decide +kernel
theorem dX5_leakAllowed_7 : decode cX5_leakAllowed 7 = .ok (.if_icmp .gt 7, 3) := by decide +kernel
theorem dX5_leakAllowed_10 : decode cX5_leakAllowed 10 = .ok (.iconst 1, 1) := by decide +kernel
theorem dX5_leakAllowed_11 : decode cX5_leakAllowed 11 = .ok (.goto 4, 3) := by decide +kernel
theorem dX5_leakAllowed_14 : decode cX5_leakAllowed 14 = .ok (.iconst 0, 1) := by decide +kernel
theorem dX5_leakAllowed_15 : decode cX5_leakAllowed 15 = .ok (.ireturn, 1) := by decide +kernel
theorem dX5_roomNumberAllowed_0 : decode cX5_roomNumberAllowed 0 = .ok (.iload_n 0, 1) := by decide +kernel
theorem dX5_roomNumberAllowed_1 : decode cX5_roomNumberAllowed 1 = .ok (.tableswitch 42 0 2 #[27, 32, 37], 27) := by decide +kernel
theorem dX5_roomNumberAllowed_28 : decode cX5_roomNumberAllowed 28 = .ok (.iload_n 1, 1) := by decide +kernel
theorem dX5_roomNumberAllowed_29 : decode cX5_roomNumberAllowed 29 = .ok (.invokestatic 208, 3) := by decide +kernel
theorem dX5_roomNumberAllowed_32 : decode cX5_roomNumberAllowed 32 = .ok (.ireturn, 1) := by decide +kernel
theorem dX5_roomNumberAllowed_33 : decode cX5_roomNumberAllowed 33 = .ok (.iload_n 1, 1) := by decide +kernel
theorem dX5_roomNumberAllowed_34 : decode cX5_roomNumberAllowed 34 = .ok (.invokestatic 211, 3) := by decide +kernel
theorem dX5_roomNumberAllowed_37 : decode cX5_roomNumberAllowed 37 = .ok (.ireturn, 1) := by decide +kernel
theorem dX5_roomNumberAllowed_38 : decode cX5_roomNumberAllowed 38 = .ok (.iload_n 1, 1) := by decide +kernel
theorem dX5_roomNumberAllowed_39 : decode cX5_roomNumberAllowed 39 = .ok (.invokestatic 214, 3) := by decide +kernel
theorem dX5_roomNumberAllowed_42 : decode cX5_roomNumberAllowed 42 = .ok (.ireturn, 1) := by decide +kernel
theorem dX5_roomNumberAllowed_43 : decode cX5_roomNumberAllowed 43 = .ok (.iconst 0, 1) := by decide +kernel
theorem dX5_roomNumberAllowed_44 : decode cX5_roomNumberAllowed 44 = .ok (.ireturn, 1) := by decide +kernel
theorem dX5_allRoomsGetWarm_0 : decode cX5_allRoomsGetWarm 0 = .ok (.iconst 1, 1) := by decide +kernel
theorem dX5_allRoomsGetWarm_1 : decode cX5_allRoomsGetWarm 1 = .ok (.aload_n 0, 1) := by decide +kernel
theorem dX5_allRoomsGetWarm_2 : decode cX5_allRoomsGetWarm 2 = .ok (.getfield 76, 3) := by decide +kernel
theorem dX5_allRoomsGetWarm_5 : decode cX5_allRoomsGetWarm 5 = .ok (.ishl, 1) := by decide +kernel
theorem dX5_allRoomsGetWarm_6 : decode cX5_allRoomsGetWarm 6 = .ok (.iconst 1, 1) := by decide +kernel
theorem dX5_allRoomsGetWarm_7 : decode cX5_allRoomsGetWarm 7 = .ok (.isub, 1) := by decide +kernel
theorem dX5_allRoomsGetWarm_8 : decode cX5_allRoomsGetWarm 8 = .ok (.istore_n 2, 1) := by decide +kernel
theorem dX5_allRoomsGetWarm_9 : decode cX5_allRoomsGetWarm 9 = .ok (.aload_n 0, 1) := by decide +kernel
theorem dX5_allRoomsGetWarm_10 : decode cX5_allRoomsGetWarm 10 = .ok (.invokevirtual 348, 3) := by decide +kernel
theorem dX5_allRoomsGetWarm_13 : decode cX5_allRoomsGetWarm 13 = .ok (.istore_n 3, 1) := by decide +kernel
theorem dX5_allRoomsGetWarm_14 : decode cX5_allRoomsGetWarm 14 = .ok (.iconst 0, 1) := by decide +kernel
theorem dX5_allRoomsGetWarm_15 : decode cX5_allRoomsGetWarm 15 = .ok (.istore 4, 2) := by decide +kernel
theorem dX5_allRoomsGetWarm_17 : decode cX5_allRoomsGetWarm 17 = .ok (.iload 4, 2) := by decide +kernel
theorem dX5_allRoomsGetWarm_19 : decode cX5_allRoomsGetWarm 19 = .ok (.iload_n 1, 1) := by decide +kernel
theorem dX5_allRoomsGetWarm_20 : decode cX5_allRoomsGetWarm 20 = .ok (.if_icmp .ge 26, 3) := by decide +kernel
theorem dX5_allRoomsGetWarm_23 : decode cX5_allRoomsGetWarm 23 = .ok (.iload_n 3, 1) := by decide +kernel
theorem dX5_allRoomsGetWarm_24 : decode cX5_allRoomsGetWarm 24 = .ok (.iload_n 2, 1) := by decide +kernel
theorem dX5_allRoomsGetWarm_25 : decode cX5_allRoomsGetWarm 25 = .ok (.if_icmp .eq 21, 3) := by decide +kernel
theorem dX5_allRoomsGetWarm_28 : decode cX5_allRoomsGetWarm 28 = .ok (.aload_n 0, 1) := by decide +kernel
theorem dX5_allRoomsGetWarm_29 : decode cX5_allRoomsGetWarm 29 = .ok (.iconst 1, 1) := by decide +kernel
theorem dX5_allRoomsGetWarm_30 : decode cX5_allRoomsGetWarm 30 = .ok (.invokevirtual 263, 3) := by decide +kernel
theorem dX5_allRoomsGetWarm_33 : decode cX5_allRoomsGetWarm 33 = .ok (.iload_n 3, 1) := by decide +kernel
theorem dX5_allRoomsGetWarm_34 : decode cX5_allRoomsGetWarm 34 = .ok (.aload_n 0, 1) := by decide +kernel
theorem dX5_allRoomsGetWarm_35 : decode cX5_allRoomsGetWarm 35 = .ok (.invokevirtual 348, 3) := by decide +kernel
theorem dX5_allRoomsGetWarm_38 : decode cX5_allRoomsGetWarm 38 = .ok (.ior, 1) := by decide +kernel
theorem dX5_allRoomsGetWarm_39 : decode cX5_allRoomsGetWarm 39 = .ok (.istore_n 3, 1) := by decide +kernel
theorem dX5_allRoomsGetWarm_40 : decode cX5_allRoomsGetWarm 40 = .ok (.iinc 4 1, 3) := by decide +kernel
theorem dX5_allRoomsGetWarm_43 : decode cX5_allRoomsGetWarm 43 = .ok (.goto (-26), 3) := by decide +kernel
theorem dX5_allRoomsGetWarm_46 : decode cX5_allRoomsGetWarm 46 = .ok (.iload_n 3, 1) := by decide +kernel
theorem dX5_allRoomsGetWarm_47 : decode cX5_allRoomsGetWarm 47 = .ok (.iload_n 2, 1) := by decide +kernel
theorem dX5_allRoomsGetWarm_48 : decode cX5_allRoomsGetWarm 48 = .ok (.if_icmp .ne 7, 3) := by decide +kernel
theorem dX5_allRoomsGetWarm_51 : decode cX5_allRoomsGetWarm 51 = .ok (.iconst 1, 1) := by decide +kernel
theorem dX5_allRoomsGetWarm_52 : decode cX5_allRoomsGetWarm 52 = .ok (.goto 4, 3) := by decide +kernel
theorem dX5_allRoomsGetWarm_55 : decode cX5_allRoomsGetWarm 55 = .ok (.iconst 0, 1) := by decide +kernel
theorem dX5_allRoomsGetWarm_56 : decode cX5_allRoomsGetWarm 56 = .ok (.ireturn, 1) := by decide +kernel
theorem dX5_longestScript_0 : decode cX5_longestScript 0 = .ok (.lconst 1, 1) := by decide +kernel
theorem dX5_longestScript_1 : decode cX5_longestScript 1 = .ok (.lstore_n 1, 1) := by decide +kernel
theorem dX5_longestScript_2 : decode cX5_longestScript 2 = .ok (.iconst 0, 1) := by decide +kernel
theorem dX5_longestScript_3 : decode cX5_longestScript 3 = .ok (.istore_n 3, 1) := by decide +kernel
theorem dX5_longestScript_4 : decode cX5_longestScript 4 = .ok (.iload_n 3, 1) := by decide +kernel
theorem dX5_longestScript_5 : decode cX5_longestScript 5 = .ok (.iload_n 0, 1) := by decide +kernel
theorem dX5_longestScript_6 : decode cX5_longestScript 6 = .ok (.if_icmp .ge 15, 3) := by decide +kernel
theorem dX5_longestScript_9 : decode cX5_longestScript 9 = .ok (.lload_n 1, 1) := by decide +kernel
theorem dX5_longestScript_10 : decode cX5_longestScript 10 = .ok (.ldc2_w 351, 3) := by decide +kernel
theorem dX5_longestScript_13 : decode cX5_longestScript 13 = .ok (.lmul, 1) := by decide +kernel
theorem dX5_longestScript_14 : decode cX5_longestScript 14 = .ok (.lstore_n 1, 1) := by decide +kernel
theorem dX5_longestScript_15 : decode cX5_longestScript 15 = .ok (.iinc 3 1, 3) := by decide +kernel
theorem dX5_longestScript_18 : decode cX5_longestScript 18 = .ok (.goto (-14), 3) := by decide +kernel
theorem dX5_longestScript_21 : decode cX5_longestScript 21 = .ok (.lload_n 1, 1) := by decide +kernel
theorem dX5_longestScript_22 : decode cX5_longestScript 22 = .ok (.lconst 1, 1) := by decide +kernel
theorem dX5_longestScript_23 : decode cX5_longestScript 23 = .ok (.lsub, 1) := by decide +kernel
theorem dX5_longestScript_24 : decode cX5_longestScript 24 = .ok (.lreturn, 1) := by decide +kernel
theorem dX5_groupAt_0 : decode cX5_groupAt 0 = .ok (.lload_n 1, 1) := by decide +kernel
theorem dX5_groupAt_1 : decode cX5_groupAt 1 = .ok (.lstore 4, 2) := by decide +kernel
theorem dX5_groupAt_3 : decode cX5_groupAt 3 = .ok (.iload_n 3, 1) := by decide +kernel
theorem dX5_groupAt_4 : decode cX5_groupAt 4 = .ok (.iconst 1, 1) := by decide +kernel
theorem dX5_groupAt_5 : decode cX5_groupAt 5 = .ok (.iadd, 1) := by decide +kernel
theorem dX5_groupAt_6 : decode cX5_groupAt 6 = .ok (.istore 6, 2) := by decide +kernel
theorem dX5_groupAt_8 : decode cX5_groupAt 8 = .ok (.iload 6, 2) := by decide +kernel
theorem dX5_groupAt_10 : decode cX5_groupAt 10 = .ok (.iload_n 0, 1) := by decide +kernel
theorem dX5_groupAt_11 : decode cX5_groupAt 11 = .ok (.if_icmp .ge 17, 3) := by decide +kernel
theorem dX5_groupAt_14 : decode cX5_groupAt 14 = .ok (.lload 4, 2) := by decide +kernel
theorem dX5_groupAt_16 : decode cX5_groupAt 16 = .ok (.ldc2_w 351, 3) := by decide +kernel
theorem dX5_groupAt_19 : decode cX5_groupAt 19 = .ok (.ldiv, 1) := by decide +kernel
theorem dX5_groupAt_20 : decode cX5_groupAt 20 = .ok (.lstore 4, 2) := by decide +kernel
theorem dX5_groupAt_22 : decode cX5_groupAt 22 = .ok (.iinc 6 1, 3) := by decide +kernel
theorem dX5_groupAt_25 : decode cX5_groupAt 25 = .ok (.goto (-17), 3) := by decide +kernel
theorem dX5_groupAt_28 : decode cX5_groupAt 28 = .ok (.lload 4, 2) := by decide +kernel
theorem dX5_groupAt_30 : decode cX5_groupAt 30 = .ok (.ldc2_w 351, 3) := by decide +kernel
theorem dX5_groupAt_33 : decode cX5_groupAt 33 = .ok (.lrem, 1) := by decide +kernel
theorem dX5_groupAt_34 : decode cX5_groupAt 34 = .ok (.l2i, 1) := by decide +kernel
theorem dX5_groupAt_35 : decode cX5_groupAt 35 = .ok (.ireturn, 1) := by decide +kernel
theorem dX5_commandSucceeds_0 : decode cX5_commandSucceeds 0 = .ok (.iload_n 1, 1) := by decide +kernel
theorem dX5_commandSucceeds_1 : decode cX5_commandSucceeds 1 = .ok (.sipush 1000, 3) := by decide +kernel
theorem dX5_commandSucceeds_4 : decode cX5_commandSucceeds 4 = .ok (.idiv, 1) := by decide +kernel
theorem dX5_commandSucceeds_5 : decode cX5_commandSucceeds 5 = .ok (.istore_n 2, 1) := by decide +kernel
theorem dX5_commandSucceeds_6 : decode cX5_commandSucceeds 6 = .ok (.iload_n 1, 1) := by decide +kernel
theorem dX5_commandSucceeds_7 : decode cX5_commandSucceeds 7 = .ok (.bipush 100, 2) := by decide +kernel
theorem dX5_commandSucceeds_9 : decode cX5_commandSucceeds 9 = .ok (.idiv, 1) := by decide +kernel
theorem dX5_commandSucceeds_10 : decode cX5_commandSucceeds 10 = .ok (.bipush 10, 2) := by decide +kernel
theorem dX5_commandSucceeds_12 : decode cX5_commandSucceeds 12 = .ok (.irem, 1) := by decide +kernel
theorem dX5_commandSucceeds_13 : decode cX5_commandSucceeds 13 = .ok (.istore_n 3, 1) := by decide +kernel
theorem dX5_commandSucceeds_14 : decode cX5_commandSucceeds 14 = .ok (.iload_n 1, 1) := by decide +kernel
theorem dX5_commandSucceeds_15 : decode cX5_commandSucceeds 15 = .ok (.bipush 100, 2) := by decide +kernel
theorem dX5_commandSucceeds_17 : decode cX5_commandSucceeds 17 = .ok (.irem, 1) := by decide +kernel
theorem dX5_commandSucceeds_18 : decode cX5_commandSucceeds 18 = .ok (.istore 4, 2) := by decide +kernel
theorem dX5_commandSucceeds_20 : decode cX5_commandSucceeds 20 = .ok (.iload_n 2, 1) := by decide +kernel
theorem dX5_commandSucceeds_21 : decode cX5_commandSucceeds 21 = .ok (.tableswitch 255 1 9 #[51, 73, 103, 111, 142, 150, 174, 193, 221], 51) := by decide +kernel
theorem dX5_commandSucceeds_72 : decode cX5_commandSucceeds 72 = .ok (.iload_n 3, 1) := by decide +kernel
theorem dX5_commandSucceeds_73 : decode cX5_commandSucceeds 73 = .ok (.ifCond .ne 11, 3) := by decide +kernel
theorem dX5_commandSucceeds_76 : decode cX5_commandSucceeds 76 = .ok (.iload 4, 2) := by decide +kernel
theorem dX5_commandSucceeds_78 : decode cX5_commandSucceeds 78 = .ok (.invokestatic 258, 3) := by decide +kernel
theorem dX5_commandSucceeds_81 : decode cX5_commandSucceeds 81 = .ok (.ifCond .ne 5, 3) := by decide +kernel
theorem dX5_commandSucceeds_84 : decode cX5_commandSucceeds 84 = .ok (.iconst 0, 1) := by decide +kernel
theorem dX5_commandSucceeds_85 : decode cX5_commandSucceeds 85 = .ok (.ireturn, 1) := by decide +kernel
theorem dX5_commandSucceeds_86 : decode cX5_commandSucceeds 86 = .ok (.aload_n 0, 1) := by decide +kernel
theorem dX5_commandSucceeds_87 : decode cX5_commandSucceeds 87 = .ok (.iload 4, 2) := by decide +kernel
theorem dX5_commandSucceeds_89 : decode cX5_commandSucceeds 89 = .ok (.invokevirtual 263, 3) := by decide +kernel
theorem dX5_commandSucceeds_92 : decode cX5_commandSucceeds 92 = .ok (.iconst 1, 1) := by decide +kernel
theorem dX5_commandSucceeds_93 : decode cX5_commandSucceeds 93 = .ok (.ireturn, 1) := by decide +kernel
theorem dX5_commandSucceeds_94 : decode cX5_commandSucceeds 94 = .ok (.iload_n 3, 1) := by decide +kernel
theorem dX5_commandSucceeds_95 : decode cX5_commandSucceeds 95 = .ok (.iconst 1, 1) := by decide +kernel
theorem dX5_commandSucceeds_96 : decode cX5_commandSucceeds 96 = .ok (.if_icmp .gt 26, 3) := by decide +kernel
theorem dX5_commandSucceeds_99 : decode cX5_commandSucceeds 99 = .ok (.aload_n 0, 1) := by decide +kernel
theorem dX5_commandSucceeds_100 : decode cX5_commandSucceeds 100 = .ok (.iload_n 3, 1) := by decide +kernel
theorem dX5_commandSucceeds_101 : decode cX5_commandSucceeds 101 = .ok (.ifCond .ne 8, 3) := by decide +kernel
theorem dX5_commandSucceeds_104 : decode cX5_commandSucceeds 104 = .ok (.iload 4, 2) := by decide +kernel
theorem dX5_commandSucceeds_106 : decode cX5_commandSucceeds 106 = .ok (.goto 6, 3) := by decide +kernel
theorem dX5_commandSucceeds_109 : decode cX5_commandSucceeds 109 = .ok (.iload 4, 2) := by decide +kernel
theorem dX5_commandSucceeds_111 : decode cX5_commandSucceeds 111 = .ok (.ineg, 1) := by decide +kernel
theorem dX5_commandSucceeds_112 : decode cX5_commandSucceeds 112 = .ok (.invokestatic 353, 3) := by decide +kernel
theorem dX5_commandSucceeds_115 : decode cX5_commandSucceeds 115 = .ok (.ifCond .eq 7, 3) := by decide +kernel
theorem dX5_commandSucceeds_118 : decode cX5_commandSucceeds 118 = .ok (.iconst 1, 1) := by decide +kernel
theorem dX5_commandSucceeds_119 : decode cX5_commandSucceeds 119 = .ok (.goto 4, 3) := by decide +kernel
theorem dX5_commandSucceeds_122 : decode cX5_commandSucceeds 122 = .ok (.iconst 0, 1) := by decide +kernel
theorem dX5_commandSucceeds_123 : decode cX5_commandSucceeds 123 = .ok (.ireturn, 1) := by decide +kernel
theorem dX5_commandSucceeds_124 : decode cX5_commandSucceeds 124 = .ok (.aload_n 0, 1) := by decide +kernel
theorem dX5_commandSucceeds_125 : decode cX5_commandSucceeds 125 = .ok (.iload_n 3, 1) := by decide +kernel
theorem dX5_commandSucceeds_126 : decode cX5_commandSucceeds 126 = .ok (.iload 4, 2) := by decide +kernel
theorem dX5_commandSucceeds_128 : decode cX5_commandSucceeds 128 = .ok (.invokestatic 356, 3) := by decide +kernel
theorem dX5_commandSucceeds_131 : decode cX5_commandSucceeds 131 = .ok (.ireturn, 1) := by decide +kernel
theorem dX5_commandSucceeds_132 : decode cX5_commandSucceeds 132 = .ok (.iload 4, 2) := by decide +kernel
theorem dX5_commandSucceeds_134 : decode cX5_commandSucceeds 134 = .ok (.iconst 1, 1) := by decide +kernel
theorem dX5_commandSucceeds_135 : decode cX5_commandSucceeds 135 = .ok (.if_icmp .gt 26, 3) := by decide +kernel
theorem dX5_commandSucceeds_138 : decode cX5_commandSucceeds 138 = .ok (.aload_n 0, 1) := by decide +kernel
theorem dX5_commandSucceeds_139 : decode cX5_commandSucceeds 139 = .ok (.iload_n 3, 1) := by decide +kernel
theorem dX5_commandSucceeds_140 : decode cX5_commandSucceeds 140 = .ok (.iload 4, 2) := by decide +kernel
theorem dX5_commandSucceeds_142 : decode cX5_commandSucceeds 142 = .ok (.iconst 1, 1) := by decide +kernel
theorem dX5_commandSucceeds_143 : decode cX5_commandSucceeds 143 = .ok (.if_icmp .ne 7, 3) := by decide +kernel
theorem dX5_commandSucceeds_146 : decode cX5_commandSucceeds 146 = .ok (.iconst 1, 1) := by decide +kernel
theorem dX5_commandSucceeds_147 : decode cX5_commandSucceeds 147 = .ok (.goto 4, 3) := by decide +kernel
theorem dX5_commandSucceeds_150 : decode cX5_commandSucceeds 150 = .ok (.iconst 0, 1) := by decide +kernel
theorem dX5_commandSucceeds_151 : decode cX5_commandSucceeds 151 = .ok (.invokestatic 360, 3) := by decide +kernel
theorem dX5_commandSucceeds_154 : decode cX5_commandSucceeds 154 = .ok (.ifCond .eq 7, 3) := by decide +kernel
theorem dX5_commandSucceeds_157 : decode cX5_commandSucceeds 157 = .ok (.iconst 1, 1) := by decide +kernel
theorem dX5_commandSucceeds_158 : decode cX5_commandSucceeds 158 = .ok (.goto 4, 3) := by decide +kernel
theorem dX5_commandSucceeds_161 : decode cX5_commandSucceeds 161 = .ok (.iconst 0, 1) := by decide +kernel
theorem dX5_commandSucceeds_162 : decode cX5_commandSucceeds 162 = .ok (.ireturn, 1) := by decide +kernel
theorem dX5_commandSucceeds_163 : decode cX5_commandSucceeds 163 = .ok (.aload_n 0, 1) := by decide +kernel
theorem dX5_commandSucceeds_164 : decode cX5_commandSucceeds 164 = .ok (.iload_n 3, 1) := by decide +kernel
theorem dX5_commandSucceeds_165 : decode cX5_commandSucceeds 165 = .ok (.iload 4, 2) := by decide +kernel
theorem dX5_commandSucceeds_167 : decode cX5_commandSucceeds 167 = .ok (.invokestatic 364, 3) := by decide +kernel
theorem dX5_commandSucceeds_170 : decode cX5_commandSucceeds 170 = .ok (.ireturn, 1) := by decide +kernel
theorem dX5_commandSucceeds_171 : decode cX5_commandSucceeds 171 = .ok (.aload_n 0, 1) := by decide +kernel
theorem dX5_commandSucceeds_172 : decode cX5_commandSucceeds 172 = .ok (.iload_n 3, 1) := by decide +kernel
theorem dX5_commandSucceeds_173 : decode cX5_commandSucceeds 173 = .ok (.invokevirtual 131, 3) := by decide +kernel
theorem dX5_commandSucceeds_176 : decode cX5_commandSucceeds 176 = .ok (.ifCond .eq 17, 3) := by decide +kernel
theorem dX5_commandSucceeds_179 : decode cX5_commandSucceeds 179 = .ok (.aload_n 0, 1) := by decide +kernel
theorem dX5_commandSucceeds_180 : decode cX5_commandSucceeds 180 = .ok (.iload_n 3, 1) := by decide +kernel
theorem dX5_commandSucceeds_181 : decode cX5_commandSucceeds 181 = .ok (.invokevirtual 143, 3) := by decide +kernel
theorem dX5_commandSucceeds_184 : decode cX5_commandSucceeds 184 = .ok (.iload 4, 2) := by decide +kernel
theorem dX5_commandSucceeds_186 : decode cX5_commandSucceeds 186 = .ok (.if_icmp .lt 7, 3) := by decide +kernel
theorem dX5_commandSucceeds_189 : decode cX5_commandSucceeds 189 = .ok (.iconst 1, 1) := by decide +kernel
theorem dX5_commandSucceeds_190 : decode cX5_commandSucceeds 190 = .ok (.goto 4, 3) := by decide +kernel
theorem dX5_commandSucceeds_193 : decode cX5_commandSucceeds 193 = .ok (.iconst 0, 1) := by decide +kernel
theorem dX5_commandSucceeds_194 : decode cX5_commandSucceeds 194 = .ok (.ireturn, 1) := by decide +kernel
theorem dX5_commandSucceeds_195 : decode cX5_commandSucceeds 195 = .ok (.iload_n 3, 1) := by decide +kernel
theorem dX5_commandSucceeds_196 : decode cX5_commandSucceeds 196 = .ok (.ifCond .ne 16, 3) := by decide +kernel
theorem dX5_commandSucceeds_199 : decode cX5_commandSucceeds 199 = .ok (.aload_n 0, 1) := by decide +kernel
theorem dX5_commandSucceeds_200 : decode cX5_commandSucceeds 200 = .ok (.getfield 92, 3) := by decide +kernel
theorem dX5_commandSucceeds_203 : decode cX5_commandSucceeds 203 = .ok (.iload 4, 2) := by decide +kernel
theorem dX5_commandSucceeds_205 : decode cX5_commandSucceeds 205 = .ok (.if_icmp .lt 7, 3) := by decide +kernel
theorem dX5_commandSucceeds_208 : decode cX5_commandSucceeds 208 = .ok (.iconst 1, 1) := by decide +kernel
theorem dX5_commandSucceeds_209 : decode cX5_commandSucceeds 209 = .ok (.goto 4, 3) := by decide +kernel
theorem dX5_commandSucceeds_212 : decode cX5_commandSucceeds 212 = .ok (.iconst 0, 1) := by decide +kernel
theorem dX5_commandSucceeds_213 : decode cX5_commandSucceeds 213 = .ok (.ireturn, 1) := by decide +kernel
theorem dX5_commandSucceeds_214 : decode cX5_commandSucceeds 214 = .ok (.aload_n 0, 1) := by decide +kernel
theorem dX5_commandSucceeds_215 : decode cX5_commandSucceeds 215 = .ok (.iload_n 3, 1) := by decide +kernel
theorem dX5_commandSucceeds_216 : decode cX5_commandSucceeds 216 = .ok (.invokevirtual 151, 3) := by decide +kernel
theorem dX5_commandSucceeds_219 : decode cX5_commandSucceeds 219 = .ok (.ifCond .eq 21, 3) := by decide +kernel
theorem dX5_commandSucceeds_222 : decode cX5_commandSucceeds 222 = .ok (.aload_n 0, 1) := by decide +kernel
theorem dX5_commandSucceeds_223 : decode cX5_commandSucceeds 223 = .ok (.getfield 156, 3) := by decide +kernel
theorem dX5_commandSucceeds_226 : decode cX5_commandSucceeds 226 = .ok (.iload_n 3, 1) := by decide +kernel
theorem dX5_commandSucceeds_227 : decode cX5_commandSucceeds 227 = .ok (.aaload, 1) := by decide +kernel
theorem dX5_commandSucceeds_228 : decode cX5_commandSucceeds 228 = .ok (.getfield 174, 3) := by decide +kernel
theorem dX5_commandSucceeds_231 : decode cX5_commandSucceeds 231 = .ok (.iload 4, 2) := by decide +kernel
theorem dX5_commandSucceeds_233 : decode cX5_commandSucceeds 233 = .ok (.if_icmp .lt 7, 3) := by decide +kernel
theorem dX5_commandSucceeds_236 : decode cX5_commandSucceeds 236 = .ok (.iconst 1, 1) := by decide +kernel
theorem dX5_commandSucceeds_237 : decode cX5_commandSucceeds 237 = .ok (.goto 4, 3) := by decide +kernel
theorem dX5_commandSucceeds_240 : decode cX5_commandSucceeds 240 = .ok (.iconst 0, 1) := by decide +kernel
theorem dX5_commandSucceeds_241 : decode cX5_commandSucceeds 241 = .ok (.ireturn, 1) := by decide +kernel
theorem dX5_commandSucceeds_242 : decode cX5_commandSucceeds 242 = .ok (.iload_n 3, 1) := by decide +kernel
theorem dX5_commandSucceeds_243 : decode cX5_commandSucceeds 243 = .ok (.ifCond .ne 31, 3) := by decide +kernel
theorem dX5_commandSucceeds_246 : decode cX5_commandSucceeds 246 = .ok (.iload 4, 2) := by decide +kernel
theorem dX5_commandSucceeds_248 : decode cX5_commandSucceeds 248 = .ok (.iconst 1, 1) := by decide +kernel
theorem dX5_commandSucceeds_249 : decode cX5_commandSucceeds 249 = .ok (.if_icmp .gt 25, 3) := by decide +kernel
theorem dX5_commandSucceeds_252 : decode cX5_commandSucceeds 252 = .ok (.aload_n 0, 1) := by decide +kernel
theorem dX5_commandSucceeds_253 : decode cX5_commandSucceeds 253 = .ok (.getfield 85, 3) := by decide +kernel
theorem dX5_commandSucceeds_256 : decode cX5_commandSucceeds 256 = .ok (.iload 4, 2) := by decide +kernel
theorem dX5_commandSucceeds_258 : decode cX5_commandSucceeds 258 = .ok (.iconst 1, 1) := by decide +kernel
theorem dX5_commandSucceeds_259 : decode cX5_commandSucceeds 259 = .ok (.if_icmp .ne 7, 3) := by decide +kernel
theorem dX5_commandSucceeds_262 : decode cX5_commandSucceeds 262 = .ok (.iconst 1, 1) := by decide +kernel
theorem dX5_commandSucceeds_263 : decode cX5_commandSucceeds 263 = .ok (.goto 4, 3) := by decide +kernel
theorem dX5_commandSucceeds_266 : decode cX5_commandSucceeds 266 = .ok (.iconst 0, 1) := by decide +kernel
theorem dX5_commandSucceeds_267 : decode cX5_commandSucceeds 267 = .ok (.if_icmp .ne 7, 3) := by decide +kernel
theorem dX5_commandSucceeds_270 : decode cX5_commandSucceeds 270 = .ok (.iconst 1, 1) := by decide +kernel
theorem dX5_commandSucceeds_271 : decode cX5_commandSucceeds 271 = .ok (.goto 4, 3) := by decide +kernel
theorem dX5_commandSucceeds_274 : decode cX5_commandSucceeds 274 = .ok (.iconst 0, 1) := by decide +kernel
theorem dX5_commandSucceeds_275 : decode cX5_commandSucceeds 275 = .ok (.ireturn, 1) := by decide +kernel
theorem dX5_commandSucceeds_276 : decode cX5_commandSucceeds 276 = .ok (.iconst 0, 1) := by decide +kernel
theorem dX5_commandSucceeds_277 : decode cX5_commandSucceeds 277 = .ok (.ireturn, 1) := by decide +kernel
