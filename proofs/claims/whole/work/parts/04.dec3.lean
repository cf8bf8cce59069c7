theorem dX6_setting_0 : decode cX6_setting 0 = .ok (.aload_n 0, 1) := by decide +kernel
theorem dX6_setting_1 : decode cX6_setting 1 = .ok (.iload_n 1, 1) := by decide +kernel
theorem dX6_setting_2 : decode cX6_setting 2 = .ok (.i2l, 1) := by decide +kernel
theorem dX6_setting_3 : decode cX6_setting 3 = .ok (.lconst 0, 1) := by decide +kernel
theorem dX6_setting_4 : decode cX6_setting 4 = .ok (.ldc2_w 179, 3) := by decide +kernel
theorem dX6_setting_7 : decode cX6_setting 7 = .ok (.invokestatic 49, 3) := by decide +kernel
theorem dX6_setting_10 : decode cX6_setting 10 = .ok (.ifCond .eq 7, 3) := by decide +kernel
theorem dX6_setting_13 : decode cX6_setting 13 = .ok (.iconst 0, 1) := by decide +kernel
theorem dX6_setting_14 : decode cX6_setting 14 = .ok (.goto 4, 3) := by decide +kernel
theorem dX6_setting_17 : decode cX6_setting 17 = .ok (.iconst 1, 1) := by decide +kernel
theorem dX6_setting_18 : decode cX6_setting 18 = .ok (.invokevirtual 121, 3) := by decide +kernel
theorem dX6_setting_21 : decode cX6_setting 21 = .ok (.ifCond .eq 7, 3) := by decide +kernel
theorem dX6_setting_24 : decode cX6_setting 24 = .ok (.iconst 0, 1) := by decide +kernel
theorem dX6_setting_25 : decode cX6_setting 25 = .ok (.goto 12, 3) := by decide +kernel
theorem dX6_setting_28 : decode cX6_setting 28 = .ok (.aload_n 0, 1) := by decide +kernel
theorem dX6_setting_29 : decode cX6_setting 29 = .ok (.getfield 16, 3) := by decide +kernel
theorem dX6_setting_32 : decode cX6_setting 32 = .ok (.bipush 9, 2) := by decide +kernel
theorem dX6_setting_34 : decode cX6_setting 34 = .ok (.iload_n 1, 1) := by decide +kernel
theorem dX6_setting_35 : decode cX6_setting 35 = .ok (.iadd, 1) := by decide +kernel
theorem dX6_setting_36 : decode cX6_setting 36 = .ok (.iaload, 1) := by decide +kernel
theorem dX6_setting_37 : decode cX6_setting 37 = .ok (.ireturn, 1) := by decide +kernel
theorem dX6_place_0 : decode cX6_place 0 = .ok (.aload_n 0, 1) := by decide +kernel
theorem dX6_place_1 : decode cX6_place 1 = .ok (.aload_n 0, 1) := by decide +kernel
theorem dX6_place_2 : decode cX6_place 2 = .ok (.iload_n 1, 1) := by decide +kernel
theorem dX6_place_3 : decode cX6_place 3 = .ok (.invokevirtual 181, 3) := by decide +kernel
theorem dX6_place_6 : decode cX6_place 6 = .ok (.ifCond .ne 7, 3) := by decide +kernel
theorem dX6_place_9 : decode cX6_place 9 = .ok (.iconst 1, 1) := by decide +kernel
theorem dX6_place_10 : decode cX6_place 10 = .ok (.goto 20, 3) := by decide +kernel
theorem dX6_place_13 : decode cX6_place 13 = .ok (.iload_n 2, 1) := by decide +kernel
theorem dX6_place_14 : decode cX6_place 14 = .ok (.i2l, 1) := by decide +kernel
theorem dX6_place_15 : decode cX6_place 15 = .ok (.lconst 0, 1) := by decide +kernel
theorem dX6_place_16 : decode cX6_place 16 = .ok (.ldc2_w 184, 3) := by decide +kernel
theorem dX6_place_19 : decode cX6_place 19 = .ok (.invokestatic 49, 3) := by decide +kernel
theorem dX6_place_22 : decode cX6_place 22 = .ok (.ifCond .eq 7, 3) := by decide +kernel
theorem dX6_place_25 : decode cX6_place 25 = .ok (.iconst 0, 1) := by decide +kernel
theorem dX6_place_26 : decode cX6_place 26 = .ok (.goto 4, 3) := by decide +kernel
theorem dX6_place_29 : decode cX6_place 29 = .ok (.iconst 2, 1) := by decide +kernel
theorem dX6_place_30 : decode cX6_place 30 = .ok (.invokevirtual 121, 3) := by decide +kernel
theorem dX6_place_33 : decode cX6_place 33 = .ok (.ifCond .eq 5, 3) := by decide +kernel
theorem dX6_place_36 : decode cX6_place 36 = .ok (.iconst 0, 1) := by decide +kernel
theorem dX6_place_37 : decode cX6_place 37 = .ok (.ireturn, 1) := by decide +kernel
theorem dX6_place_38 : decode cX6_place 38 = .ok (.iload_n 2, 1) := by decide +kernel
theorem dX6_place_39 : decode cX6_place 39 = .ok (.ifCond .ne 15, 3) := by decide +kernel
theorem dX6_place_42 : decode cX6_place 42 = .ok (.aload_n 0, 1) := by decide +kernel
theorem dX6_place_43 : decode cX6_place 43 = .ok (.getfield 16, 3) := by decide +kernel
theorem dX6_place_46 : decode cX6_place 46 = .ok (.bipush 18, 2) := by decide +kernel
theorem dX6_place_48 : decode cX6_place 48 = .ok (.iload_n 1, 1) := by decide +kernel
theorem dX6_place_49 : decode cX6_place 49 = .ok (.iadd, 1) := by decide +kernel
theorem dX6_place_50 : decode cX6_place 50 = .ok (.iaload, 1) := by decide +kernel
theorem dX6_place_51 : decode cX6_place 51 = .ok (.goto 27, 3) := by decide +kernel
theorem dX6_place_54 : decode cX6_place 54 = .ok (.iload_n 2, 1) := by decide +kernel
theorem dX6_place_55 : decode cX6_place 55 = .ok (.iconst 1, 1) := by decide +kernel
theorem dX6_place_56 : decode cX6_place 56 = .ok (.if_icmp .ne 14, 3) := by decide +kernel
theorem dX6_place_59 : decode cX6_place 59 = .ok (.aload_n 0, 1) := by decide +kernel
theorem dX6_place_60 : decode cX6_place 60 = .ok (.getfield 16, 3) := by decide +kernel
theorem dX6_place_63 : decode cX6_place 63 = .ok (.iload_n 1, 1) := by decide +kernel
theorem dX6_place_64 : decode cX6_place 64 = .ok (.invokestatic 73, 3) := by decide +kernel
theorem dX6_place_67 : decode cX6_place 67 = .ok (.goto 11, 3) := by decide +kernel
theorem dX6_place_70 : decode cX6_place 70 = .ok (.aload_n 0, 1) := by decide +kernel
theorem dX6_place_71 : decode cX6_place 71 = .ok (.getfield 16, 3) := by decide +kernel
theorem dX6_place_74 : decode cX6_place 74 = .ok (.iload_n 1, 1) := by decide +kernel
theorem dX6_place_75 : decode cX6_place 75 = .ok (.invokestatic 57, 3) := by decide +kernel
theorem dX6_place_78 : decode cX6_place 78 = .ok (.ireturn, 1) := by decide +kernel
theorem dX6_room_0 : decode cX6_room 0 = .ok (.aload_n 0, 1) := by decide +kernel
theorem dX6_room_1 : decode cX6_room 1 = .ok (.aload_n 0, 1) := by decide +kernel
theorem dX6_room_2 : decode cX6_room 2 = .ok (.iload_n 1, 1) := by decide +kernel
theorem dX6_room_3 : decode cX6_room 3 = .ok (.invokevirtual 186, 3) := by decide +kernel
theorem dX6_room_6 : decode cX6_room 6 = .ok (.ifCond .ne 7, 3) := by decide +kernel
theorem dX6_room_9 : decode cX6_room 9 = .ok (.iconst 1, 1) := by decide +kernel
theorem dX6_room_10 : decode cX6_room 10 = .ok (.goto 20, 3) := by decide +kernel
theorem dX6_room_13 : decode cX6_room 13 = .ok (.iload_n 2, 1) := by decide +kernel
theorem dX6_room_14 : decode cX6_room 14 = .ok (.i2l, 1) := by decide +kernel
theorem dX6_room_15 : decode cX6_room 15 = .ok (.lconst 0, 1) := by decide +kernel
theorem dX6_room_16 : decode cX6_room 16 = .ok (.ldc2_w 189, 3) := by decide +kernel
theorem dX6_room_19 : decode cX6_room 19 = .ok (.invokestatic 49, 3) := by decide +kernel
theorem dX6_room_22 : decode cX6_room 22 = .ok (.ifCond .eq 7, 3) := by decide +kernel
theorem dX6_room_25 : decode cX6_room 25 = .ok (.iconst 0, 1) := by decide +kernel
theorem dX6_room_26 : decode cX6_room 26 = .ok (.goto 4, 3) := by decide +kernel
theorem dX6_room_29 : decode cX6_room 29 = .ok (.iconst 2, 1) := by decide +kernel
theorem dX6_room_30 : decode cX6_room 30 = .ok (.invokevirtual 121, 3) := by decide +kernel
theorem dX6_room_33 : decode cX6_room 33 = .ok (.ifCond .eq 5, 3) := by decide +kernel
theorem dX6_room_36 : decode cX6_room 36 = .ok (.iconst 0, 1) := by decide +kernel
theorem dX6_room_37 : decode cX6_room 37 = .ok (.ireturn, 1) := by decide +kernel
theorem dX6_room_38 : decode cX6_room 38 = .ok (.aload_n 0, 1) := by decide +kernel
theorem dX6_room_39 : decode cX6_room 39 = .ok (.getfield 16, 3) := by decide +kernel
theorem dX6_room_42 : decode cX6_room 42 = .ok (.iload_n 1, 1) := by decide +kernel
theorem dX6_room_43 : decode cX6_room 43 = .ok (.iload_n 2, 1) := by decide +kernel
theorem dX6_room_44 : decode cX6_room 44 = .ok (.iconst 1, 1) := by decide +kernel
theorem dX6_room_45 : decode cX6_room 45 = .ok (.iadd, 1) := by decide +kernel
theorem dX6_room_46 : decode cX6_room 46 = .ok (.invokestatic 53, 3) := by decide +kernel
theorem dX6_room_49 : decode cX6_room 49 = .ok (.iaload, 1) := by decide +kernel
theorem dX6_room_50 : decode cX6_room 50 = .ok (.ireturn, 1) := by decide +kernel
theorem dX6_moved_0 : decode cX6_moved 0 = .ok (.aload_n 0, 1) := by decide +kernel
theorem dX6_moved_1 : decode cX6_moved 1 = .ok (.iload_n 1, 1) := by decide +kernel
theorem dX6_moved_2 : decode cX6_moved 2 = .ok (.i2l, 1) := by decide +kernel
theorem dX6_moved_3 : decode cX6_moved 3 = .ok (.lconst 0, 1) := by decide +kernel
theorem dX6_moved_4 : decode cX6_moved 4 = .ok (.ldc2_w 132, 3) := by decide +kernel
theorem dX6_moved_7 : decode cX6_moved 7 = .ok (.invokestatic 49, 3) := by decide +kernel
theorem dX6_moved_10 : decode cX6_moved 10 = .ok (.ifCond .eq 19, 3) := by decide +kernel
theorem dX6_moved_13 : decode cX6_moved 13 = .ok (.iload_n 2, 1) := by decide +kernel
theorem dX6_moved_14 : decode cX6_moved 14 = .ok (.i2l, 1) := by decide +kernel
theorem dX6_moved_15 : decode cX6_moved 15 = .ok (.lconst 0, 1) := by decide +kernel
theorem dX6_moved_16 : decode cX6_moved 16 = .ok (.ldc2_w 132, 3) := by decide +kernel
theorem dX6_moved_19 : decode cX6_moved 19 = .ok (.invokestatic 49, 3) := by decide +kernel
theorem dX6_moved_22 : decode cX6_moved 22 = .ok (.ifCond .eq 7, 3) := by decide +kernel
theorem dX6_moved_25 : decode cX6_moved 25 = .ok (.iconst 0, 1) := by decide +kernel
theorem dX6_moved_26 : decode cX6_moved 26 = .ok (.goto 4, 3) := by decide +kernel
theorem dX6_moved_29 : decode cX6_moved 29 = .ok (.iconst 1, 1) := by decide +kernel
theorem dX6_moved_30 : decode cX6_moved 30 = .ok (.invokevirtual 121, 3) := by decide +kernel
theorem dX6_moved_33 : decode cX6_moved 33 = .ok (.ifCond .eq 7, 3) := by decide +kernel
theorem dX6_moved_36 : decode cX6_moved 36 = .ok (.iconst 0, 1) := by decide +kernel
theorem dX6_moved_37 : decode cX6_moved 37 = .ok (.goto 12, 3) := by decide +kernel
theorem dX6_moved_40 : decode cX6_moved 40 = .ok (.aload_n 0, 1) := by decide +kernel
theorem dX6_moved_41 : decode cX6_moved 41 = .ok (.getfield 16, 3) := by decide +kernel
theorem dX6_moved_44 : decode cX6_moved 44 = .ok (.iload_n 1, 1) := by decide +kernel
theorem dX6_moved_45 : decode cX6_moved 45 = .ok (.iload_n 2, 1) := by decide +kernel
theorem dX6_moved_46 : decode cX6_moved 46 = .ok (.invokestatic 191, 3) := by decide +kernel
theorem dX6_moved_49 : decode cX6_moved 49 = .ok (.ireturn, 1) := by decide +kernel
theorem dX6_way_0 : decode cX6_way 0 = .ok (.aload_n 0, 1) := by decide +kernel
theorem dX6_way_1 : decode cX6_way 1 = .ok (.iload_n 1, 1) := by decide +kernel
theorem dX6_way_2 : decode cX6_way 2 = .ok (.i2l, 1) := by decide +kernel
theorem dX6_way_3 : decode cX6_way 3 = .ok (.lconst 0, 1) := by decide +kernel
theorem dX6_way_4 : decode cX6_way 4 = .ok (.aload_n 0, 1) := by decide +kernel
theorem dX6_way_5 : decode cX6_way 5 = .ok (.getfield 16, 3) := by decide +kernel
theorem dX6_way_8 : decode cX6_way 8 = .ok (.bipush 74, 2) := by decide +kernel
theorem dX6_way_10 : decode cX6_way 10 = .ok (.iaload, 1) := by decide +kernel
theorem dX6_way_11 : decode cX6_way 11 = .ok (.iconst 1, 1) := by decide +kernel
theorem dX6_way_12 : decode cX6_way 12 = .ok (.isub, 1) := by decide +kernel
theorem dX6_way_13 : decode cX6_way 13 = .ok (.i2l, 1) := by decide +kernel
theorem dX6_way_14 : decode cX6_way 14 = .ok (.invokestatic 49, 3) := by decide +kernel
theorem dX6_way_17 : decode cX6_way 17 = .ok (.ifCond .ne 7, 3) := by decide +kernel
theorem dX6_way_20 : decode cX6_way 20 = .ok (.iconst 1, 1) := by decide +kernel
theorem dX6_way_21 : decode cX6_way 21 = .ok (.goto 20, 3) := by decide +kernel
theorem dX6_way_24 : decode cX6_way 24 = .ok (.iload_n 2, 1) := by decide +kernel
theorem dX6_way_25 : decode cX6_way 25 = .ok (.i2l, 1) := by decide +kernel
theorem dX6_way_26 : decode cX6_way 26 = .ok (.lconst 0, 1) := by decide +kernel
theorem dX6_way_27 : decode cX6_way 27 = .ok (.ldc2_w 184, 3) := by decide +kernel
theorem dX6_way_30 : decode cX6_way 30 = .ok (.invokestatic 49, 3) := by decide +kernel
theorem dX6_way_33 : decode cX6_way 33 = .ok (.ifCond .eq 7, 3) := by decide +kernel
theorem dX6_way_36 : decode cX6_way 36 = .ok (.iconst 0, 1) := by decide +kernel
theorem dX6_way_37 : decode cX6_way 37 = .ok (.goto 4, 3) := by decide +kernel
theorem dX6_way_40 : decode cX6_way 40 = .ok (.iconst 2, 1) := by decide +kernel
theorem dX6_way_41 : decode cX6_way 41 = .ok (.invokevirtual 121, 3) := by decide +kernel
theorem dX6_way_44 : decode cX6_way 44 = .ok (.ifCond .eq 5, 3) := by decide +kernel
theorem dX6_way_47 : decode cX6_way 47 = .ok (.iconst 0, 1) := by decide +kernel
theorem dX6_way_48 : decode cX6_way 48 = .ok (.ireturn, 1) := by decide +kernel
theorem dX6_way_49 : decode cX6_way 49 = .ok (.aload_n 0, 1) := by decide +kernel
theorem dX6_way_50 : decode cX6_way 50 = .ok (.getfield 16, 3) := by decide +kernel
theorem dX6_way_53 : decode cX6_way 53 = .ok (.bipush 75, 2) := by decide +kernel
theorem dX6_way_55 : decode cX6_way 55 = .ok (.iconst 2, 1) := by decide +kernel
theorem dX6_way_56 : decode cX6_way 56 = .ok (.iload_n 1, 1) := by decide +kernel
theorem dX6_way_57 : decode cX6_way 57 = .ok (.imul, 1) := by decide +kernel
theorem dX6_way_58 : decode cX6_way 58 = .ok (.iadd, 1) := by decide +kernel
theorem dX6_way_59 : decode cX6_way 59 = .ok (.iaload, 1) := by decide +kernel
theorem dX6_way_60 : decode cX6_way 60 = .ok (.istore_n 3, 1) := by decide +kernel
theorem dX6_way_61 : decode cX6_way 61 = .ok (.iload_n 2, 1) := by decide +kernel
theorem dX6_way_62 : decode cX6_way 62 = .ok (.ifCond .ne 10, 3) := by decide +kernel
theorem dX6_way_65 : decode cX6_way 65 = .ok (.iload_n 3, 1) := by decide +kernel
theorem dX6_way_66 : decode cX6_way 66 = .ok (.bipush 10, 2) := by decide +kernel
theorem dX6_way_68 : decode cX6_way 68 = .ok (.idiv, 1) := by decide +kernel
theorem dX6_way_69 : decode cX6_way 69 = .ok (.goto 26, 3) := by decide +kernel
theorem dX6_way_72 : decode cX6_way 72 = .ok (.iload_n 2, 1) := by decide +kernel
theorem dX6_way_73 : decode cX6_way 73 = .ok (.iconst 1, 1) := by decide +kernel
theorem dX6_way_74 : decode cX6_way 74 = .ok (.if_icmp .ne 10, 3) := by decide +kernel
theorem dX6_way_77 : decode cX6_way 77 = .ok (.iload_n 3, 1) := by decide +kernel
theorem dX6_way_78 : decode cX6_way 78 = .ok (.bipush 10, 2) := by decide +kernel
theorem dX6_way_80 : decode cX6_way 80 = .ok (.irem, 1) := by decide +kernel
theorem dX6_way_81 : decode cX6_way 81 = .ok (.goto 14, 3) := by decide +kernel
theorem dX6_way_84 : decode cX6_way 84 = .ok (.aload_n 0, 1) := by decide +kernel
theorem dX6_way_85 : decode cX6_way 85 = .ok (.getfield 16, 3) := by decide +kernel
theorem dX6_way_88 : decode cX6_way 88 = .ok (.bipush 76, 2) := by decide +kernel
theorem dX6_way_90 : decode cX6_way 90 = .ok (.iconst 2, 1) := by decide +kernel
theorem dX6_way_91 : decode cX6_way 91 = .ok (.iload_n 1, 1) := by decide +kernel
theorem dX6_way_92 : decode cX6_way 92 = .ok (.imul, 1) := by decide +kernel
theorem dX6_way_93 : decode cX6_way 93 = .ok (.iadd, 1) := by decide +kernel
theorem dX6_way_94 : decode cX6_way 94 = .ok (.iaload, 1) := by decide +kernel
theorem dX6_way_95 : decode cX6_way 95 = .ok (.ireturn, 1) := by decide +kernel
theorem dX6_addRoom_0 : decode cX6_addRoom 0 = .ok (.iload_n 1, 1) := by decide +kernel
theorem dX6_addRoom_1 : decode cX6_addRoom 1 = .ok (.i2l, 1) := by decide +kernel
theorem dX6_addRoom_2 : decode cX6_addRoom 2 = .ok (.lconst 1, 1) := by decide +kernel
theorem dX6_addRoom_3 : decode cX6_addRoom 3 = .ok (.ldc2_w 132, 3) := by decide +kernel
theorem dX6_addRoom_6 : decode cX6_addRoom 6 = .ok (.invokestatic 49, 3) := by decide +kernel
theorem dX6_addRoom_9 : decode cX6_addRoom 9 = .ok (.ifCond .eq 46, 3) := by decide +kernel
theorem dX6_addRoom_12 : decode cX6_addRoom 12 = .ok (.iload_n 2, 1) := by decide +kernel
theorem dX6_addRoom_13 : decode cX6_addRoom 13 = .ok (.i2l, 1) := by decide +kernel
theorem dX6_addRoom_14 : decode cX6_addRoom 14 = .ok (.ldc2_w 40, 3) := by decide +kernel
theorem dX6_addRoom_17 : decode cX6_addRoom 17 = .ok (.ldc2_w 194, 3) := by decide +kernel
theorem dX6_addRoom_20 : decode cX6_addRoom 20 = .ok (.invokestatic 49, 3) := by decide +kernel
theorem dX6_addRoom_23 : decode cX6_addRoom 23 = .ok (.ifCond .eq 32, 3) := by decide +kernel
theorem dX6_addRoom_26 : decode cX6_addRoom 26 = .ok (.iload_n 3, 1) := by decide +kernel
theorem dX6_addRoom_27 : decode cX6_addRoom 27 = .ok (.i2l, 1) := by decide +kernel
theorem dX6_addRoom_28 : decode cX6_addRoom 28 = .ok (.lconst 1, 1) := by decide +kernel
theorem dX6_addRoom_29 : decode cX6_addRoom 29 = .ok (.ldc2_w 132, 3) := by decide +kernel
theorem dX6_addRoom_32 : decode cX6_addRoom 32 = .ok (.invokestatic 49, 3) := by decide +kernel
theorem dX6_addRoom_35 : decode cX6_addRoom 35 = .ok (.ifCond .eq 20, 3) := by decide +kernel
theorem dX6_addRoom_38 : decode cX6_addRoom 38 = .ok (.iload 4, 2) := by decide +kernel
theorem dX6_addRoom_40 : decode cX6_addRoom 40 = .ok (.i2l, 1) := by decide +kernel
theorem dX6_addRoom_41 : decode cX6_addRoom 41 = .ok (.lconst 0, 1) := by decide +kernel
theorem dX6_addRoom_42 : decode cX6_addRoom 42 = .ok (.ldc2_w 132, 3) := by decide +kernel
theorem dX6_addRoom_45 : decode cX6_addRoom 45 = .ok (.invokestatic 49, 3) := by decide +kernel
theorem dX6_addRoom_48 : decode cX6_addRoom 48 = .ok (.ifCond .eq 7, 3) := by decide +kernel
theorem dX6_addRoom_51 : decode cX6_addRoom 51 = .ok (.iconst 1, 1) := by decide +kernel
theorem dX6_addRoom_52 : decode cX6_addRoom 52 = .ok (.goto 4, 3) := by decide +kernel
theorem dX6_addRoom_55 : decode cX6_addRoom 55 = .ok (.iconst 0, 1) := by decide +kernel
theorem dX6_addRoom_56 : decode cX6_addRoom 56 = .ok (.istore 5, 2) := by decide +kernel
theorem dX6_addRoom_58 : decode cX6_addRoom 58 = .ok (.aload_n 0, 1) := by decide +kernel
theorem dX6_addRoom_59 : decode cX6_addRoom 59 = .ok (.iload 5, 2) := by decide +kernel
theorem dX6_addRoom_61 : decode cX6_addRoom 61 = .ok (.ifCond .ne 7, 3) := by decide +kernel
theorem dX6_addRoom_64 : decode cX6_addRoom 64 = .ok (.iconst 1, 1) := by decide +kernel
theorem dX6_addRoom_65 : decode cX6_addRoom 65 = .ok (.goto 19, 3) := by decide +kernel
theorem dX6_addRoom_68 : decode cX6_addRoom 68 = .ok (.aload_n 0, 1) := by decide +kernel
theorem dX6_addRoom_69 : decode cX6_addRoom 69 = .ok (.getfield 16, 3) := by decide +kernel
theorem dX6_addRoom_72 : decode cX6_addRoom 72 = .ok (.iconst 0, 1) := by decide +kernel
theorem dX6_addRoom_73 : decode cX6_addRoom 73 = .ok (.iaload, 1) := by decide +kernel
theorem dX6_addRoom_74 : decode cX6_addRoom 74 = .ok (.bipush 6, 2) := by decide +kernel
theorem dX6_addRoom_76 : decode cX6_addRoom 76 = .ok (.if_icmp .ne 7, 3) := by decide +kernel
theorem dX6_addRoom_79 : decode cX6_addRoom 79 = .ok (.iconst 2, 1) := by decide +kernel
theorem dX6_addRoom_80 : decode cX6_addRoom 80 = .ok (.goto 4, 3) := by decide +kernel
theorem dX6_addRoom_83 : decode cX6_addRoom 83 = .ok (.iconst 0, 1) := by decide +kernel
theorem dX6_addRoom_84 : decode cX6_addRoom 84 = .ok (.invokevirtual 121, 3) := by decide +kernel
theorem dX6_addRoom_87 : decode cX6_addRoom 87 = .ok (.ifCond .eq 5, 3) := by decide +kernel
theorem dX6_addRoom_90 : decode cX6_addRoom 90 = .ok (.iconst 0, 1) := by decide +kernel
theorem dX6_addRoom_91 : decode cX6_addRoom 91 = .ok (.ireturn, 1) := by decide +kernel
theorem dX6_addRoom_92 : decode cX6_addRoom 92 = .ok (.aload_n 0, 1) := by decide +kernel
theorem dX6_addRoom_93 : decode cX6_addRoom 93 = .ok (.invokevirtual 196, 3) := by decide +kernel
theorem dX6_addRoom_96 : decode cX6_addRoom 96 = .ok (.aload_n 0, 1) := by decide +kernel
theorem dX6_addRoom_97 : decode cX6_addRoom 97 = .ok (.getfield 16, 3) := by decide +kernel
theorem dX6_addRoom_100 : decode cX6_addRoom 100 = .ok (.iload_n 1, 1) := by decide +kernel
theorem dX6_addRoom_101 : decode cX6_addRoom 101 = .ok (.iload_n 2, 1) := by decide +kernel
theorem dX6_addRoom_102 : decode cX6_addRoom 102 = .ok (.iload_n 3, 1) := by decide +kernel
theorem dX6_addRoom_103 : decode cX6_addRoom 103 = .ok (.iload 4, 2) := by decide +kernel
theorem dX6_addRoom_105 : decode cX6_addRoom 105 = .ok (.invokestatic 144, 3) := by decide +kernel
theorem dX6_addRoom_108 : decode cX6_addRoom 108 = .ok (.aload_n 0, 1) := by decide +kernel
theorem dX6_addRoom_109 : decode cX6_addRoom 109 = .ok (.getfield 16, 3) := by decide +kernel
theorem dX6_addRoom_112 : decode cX6_addRoom 112 = .ok (.iconst 0, 1) := by decide +kernel
theorem dX6_addRoom_113 : decode cX6_addRoom 113 = .ok (.iaload, 1) := by decide +kernel
theorem dX6_addRoom_114 : decode cX6_addRoom 114 = .ok (.iconst 1, 1) := by decide +kernel
theorem dX6_addRoom_115 : decode cX6_addRoom 115 = .ok (.isub, 1) := by decide +kernel
theorem dX6_addRoom_116 : decode cX6_addRoom 116 = .ok (.ireturn, 1) := by decide +kernel
theorem dX6_setRoom_0 : decode cX6_setRoom 0 = .ok (.iload_n 2, 1) := by decide +kernel
theorem dX6_setRoom_1 : decode cX6_setRoom 1 = .ok (.ifCond .ne 17, 3) := by decide +kernel
theorem dX6_setRoom_4 : decode cX6_setRoom 4 = .ok (.iload_n 3, 1) := by decide +kernel
theorem dX6_setRoom_5 : decode cX6_setRoom 5 = .ok (.i2l, 1) := by decide +kernel
theorem dX6_setRoom_6 : decode cX6_setRoom 6 = .ok (.ldc2_w 40, 3) := by decide +kernel
theorem dX6_setRoom_9 : decode cX6_setRoom 9 = .ok (.ldc2_w 194, 3) := by decide +kernel
theorem dX6_setRoom_12 : decode cX6_setRoom 12 = .ok (.invokestatic 49, 3) := by decide +kernel
theorem dX6_setRoom_15 : decode cX6_setRoom 15 = .ok (.ifCond .ne 37, 3) := by decide +kernel
theorem dX6_setRoom_18 : decode cX6_setRoom 18 = .ok (.iload_n 2, 1) := by decide +kernel
theorem dX6_setRoom_19 : decode cX6_setRoom 19 = .ok (.iconst 1, 1) := by decide +kernel
theorem dX6_setRoom_20 : decode cX6_setRoom 20 = .ok (.if_icmp .ne 15, 3) := by decide +kernel
theorem dX6_setRoom_23 : decode cX6_setRoom 23 = .ok (.iload_n 3, 1) := by decide +kernel
theorem dX6_setRoom_24 : decode cX6_setRoom 24 = .ok (.i2l, 1) := by decide +kernel
theorem dX6_setRoom_25 : decode cX6_setRoom 25 = .ok (.lconst 1, 1) := by decide +kernel
theorem dX6_setRoom_26 : decode cX6_setRoom 26 = .ok (.ldc2_w 132, 3) := by decide +kernel
theorem dX6_setRoom_29 : decode cX6_setRoom 29 = .ok (.invokestatic 49, 3) := by decide +kernel
theorem dX6_setRoom_32 : decode cX6_setRoom 32 = .ok (.ifCond .ne 20, 3) := by decide +kernel
theorem dX6_setRoom_35 : decode cX6_setRoom 35 = .ok (.iload_n 2, 1) := by decide +kernel
theorem dX6_setRoom_36 : decode cX6_setRoom 36 = .ok (.iconst 2, 1) := by decide +kernel
theorem dX6_setRoom_37 : decode cX6_setRoom 37 = .ok (.if_icmp .ne 19, 3) := by decide +kernel
theorem dX6_setRoom_40 : decode cX6_setRoom 40 = .ok (.iload_n 3, 1) := by decide +kernel
theorem dX6_setRoom_41 : decode cX6_setRoom 41 = .ok (.i2l, 1) := by decide +kernel
theorem dX6_setRoom_42 : decode cX6_setRoom 42 = .ok (.lconst 0, 1) := by decide +kernel
theorem dX6_setRoom_43 : decode cX6_setRoom 43 = .ok (.ldc2_w 132, 3) := by decide +kernel
theorem dX6_setRoom_46 : decode cX6_setRoom 46 = .ok (.invokestatic 49, 3) := by decide +kernel
theorem dX6_setRoom_49 : decode cX6_setRoom 49 = .ok (.ifCond .eq 7, 3) := by decide +kernel
theorem dX6_setRoom_52 : decode cX6_setRoom 52 = .ok (.iconst 1, 1) := by decide +kernel
theorem dX6_setRoom_53 : decode cX6_setRoom 53 = .ok (.goto 4, 3) := by decide +kernel
theorem dX6_setRoom_56 : decode cX6_setRoom 56 = .ok (.iconst 0, 1) := by decide +kernel
theorem dX6_setRoom_57 : decode cX6_setRoom 57 = .ok (.istore 4, 2) := by decide +kernel
theorem dX6_setRoom_59 : decode cX6_setRoom 59 = .ok (.aload_n 0, 1) := by decide +kernel
theorem dX6_setRoom_60 : decode cX6_setRoom 60 = .ok (.aload_n 0, 1) := by decide +kernel
theorem dX6_setRoom_61 : decode cX6_setRoom 61 = .ok (.iload_n 1, 1) := by decide +kernel
theorem dX6_setRoom_62 : decode cX6_setRoom 62 = .ok (.invokevirtual 186, 3) := by decide +kernel
theorem dX6_setRoom_65 : decode cX6_setRoom 65 = .ok (.ifCond .ne 7, 3) := by decide +kernel
theorem dX6_setRoom_68 : decode cX6_setRoom 68 = .ok (.iconst 1, 1) := by decide +kernel
theorem dX6_setRoom_69 : decode cX6_setRoom 69 = .ok (.goto 13, 3) := by decide +kernel
theorem dX6_setRoom_72 : decode cX6_setRoom 72 = .ok (.iload 4, 2) := by decide +kernel
theorem dX6_setRoom_74 : decode cX6_setRoom 74 = .ok (.ifCond .eq 7, 3) := by decide +kernel
theorem dX6_setRoom_77 : decode cX6_setRoom 77 = .ok (.iconst 0, 1) := by decide +kernel
theorem dX6_setRoom_78 : decode cX6_setRoom 78 = .ok (.goto 4, 3) := by decide +kernel
theorem dX6_setRoom_81 : decode cX6_setRoom 81 = .ok (.iconst 2, 1) := by decide +kernel
theorem dX6_setRoom_82 : decode cX6_setRoom 82 = .ok (.invokevirtual 121, 3) := by decide +kernel
theorem dX6_setRoom_85 : decode cX6_setRoom 85 = .ok (.ifCond .eq 5, 3) := by decide +kernel
theorem dX6_setRoom_88 : decode cX6_setRoom 88 = .ok (.iconst 0, 1) := by decide +kernel
theorem dX6_setRoom_89 : decode cX6_setRoom 89 = .ok (.ireturn, 1) := by decide +kernel
theorem dX6_setRoom_90 : decode cX6_setRoom 90 = .ok (.aload_n 0, 1) := by decide +kernel
theorem dX6_setRoom_91 : decode cX6_setRoom 91 = .ok (.invokevirtual 196, 3) := by decide +kernel
theorem dX6_setRoom_94 : decode cX6_setRoom 94 = .ok (.aload_n 0, 1) := by decide +kernel
theorem dX6_setRoom_95 : decode cX6_setRoom 95 = .ok (.getfield 16, 3) := by decide +kernel
theorem dX6_setRoom_98 : decode cX6_setRoom 98 = .ok (.iload_n 1, 1) := by decide +kernel
theorem dX6_setRoom_99 : decode cX6_setRoom 99 = .ok (.iconst 1, 1) := by decide +kernel
theorem dX6_setRoom_100 : decode cX6_setRoom 100 = .ok (.iload_n 2, 1) := by decide +kernel
theorem dX6_setRoom_101 : decode cX6_setRoom 101 = .ok (.iadd, 1) := by decide +kernel
theorem dX6_setRoom_102 : decode cX6_setRoom 102 = .ok (.invokestatic 53, 3) := by decide +kernel
theorem dX6_setRoom_105 : decode cX6_setRoom 105 = .ok (.iaload, 1) := by decide +kernel
theorem dX6_setRoom_106 : decode cX6_setRoom 106 = .ok (.istore 5, 2) := by decide +kernel
theorem dX6_setRoom_108 : decode cX6_setRoom 108 = .ok (.aload_n 0, 1) := by decide +kernel
theorem dX6_setRoom_109 : decode cX6_setRoom 109 = .ok (.getfield 16, 3) := by decide +kernel
theorem dX6_setRoom_112 : decode cX6_setRoom 112 = .ok (.iload_n 1, 1) := by decide +kernel
theorem dX6_setRoom_113 : decode cX6_setRoom 113 = .ok (.iconst 1, 1) := by decide +kernel
theorem dX6_setRoom_114 : decode cX6_setRoom 114 = .ok (.iload_n 2, 1) := by decide +kernel
theorem dX6_setRoom_115 : decode cX6_setRoom 115 = .ok (.iadd, 1) := by decide +kernel
theorem dX6_setRoom_116 : decode cX6_setRoom 116 = .ok (.invokestatic 53, 3) := by decide +kernel
theorem dX6_setRoom_119 : decode cX6_setRoom 119 = .ok (.iload_n 3, 1) := by decide +kernel
theorem dX6_setRoom_120 : decode cX6_setRoom 120 = .ok (.iastore, 1) := by decide +kernel
theorem dX6_setRoom_121 : decode cX6_setRoom 121 = .ok (.iload 5, 2) := by decide +kernel
theorem dX6_setRoom_123 : decode cX6_setRoom 123 = .ok (.ireturn, 1) := by decide +kernel
theorem dX6_window_0 : decode cX6_window 0 = .ok (.aload_n 0, 1) := by decide +kernel
theorem dX6_window_1 : decode cX6_window 1 = .ok (.aload_n 0, 1) := by decide +kernel
theorem dX6_window_2 : decode cX6_window 2 = .ok (.iload_n 1, 1) := by decide +kernel
theorem dX6_window_3 : decode cX6_window 3 = .ok (.invokevirtual 186, 3) := by decide +kernel
theorem dX6_window_6 : decode cX6_window 6 = .ok (.ifCond .eq 7, 3) := by decide +kernel
theorem dX6_window_9 : decode cX6_window 9 = .ok (.iconst 0, 1) := by decide +kernel
theorem dX6_window_10 : decode cX6_window 10 = .ok (.goto 4, 3) := by decide +kernel
theorem dX6_window_13 : decode cX6_window 13 = .ok (.iconst 1, 1) := by decide +kernel
theorem dX6_window_14 : decode cX6_window 14 = .ok (.invokevirtual 121, 3) := by decide +kernel
theorem dX6_window_17 : decode cX6_window 17 = .ok (.ifCond .eq 5, 3) := by decide +kernel
theorem dX6_window_20 : decode cX6_window 20 = .ok (.iconst 0, 1) := by decide +kernel
theorem dX6_window_21 : decode cX6_window 21 = .ok (.ireturn, 1) := by decide +kernel
theorem dX6_window_22 : decode cX6_window 22 = .ok (.aload_n 0, 1) := by decide +kernel
theorem dX6_window_23 : decode cX6_window 23 = .ok (.invokevirtual 196, 3) := by decide +kernel
theorem dX6_window_26 : decode cX6_window 26 = .ok (.aload_n 0, 1) := by decide +kernel
theorem dX6_window_27 : decode cX6_window 27 = .ok (.getfield 16, 3) := by decide +kernel
theorem dX6_window_30 : decode cX6_window 30 = .ok (.iload_n 1, 1) := by decide +kernel
theorem dX6_window_31 : decode cX6_window 31 = .ok (.iconst 4, 1) := by decide +kernel
theorem dX6_window_32 : decode cX6_window 32 = .ok (.invokestatic 53, 3) := by decide +kernel
theorem dX6_window_35 : decode cX6_window 35 = .ok (.iload_n 2, 1) := by decide +kernel
theorem dX6_window_36 : decode cX6_window 36 = .ok (.ifCond .eq 7, 3) := by decide +kernel
theorem dX6_window_39 : decode cX6_window 39 = .ok (.iconst 1, 1) := by decide +kernel
theorem dX6_window_40 : decode cX6_window 40 = .ok (.goto 4, 3) := by decide +kernel
theorem dX6_window_43 : decode cX6_window 43 = .ok (.iconst 0, 1) := by decide +kernel
theorem dX6_window_44 : decode cX6_window 44 = .ok (.iastore, 1) := by decide +kernel
theorem dX6_window_45 : decode cX6_window 45 = .ok (.aload_n 0, 1) := by decide +kernel
theorem dX6_window_46 : decode cX6_window 46 = .ok (.getfield 16, 3) := by decide +kernel
theorem dX6_window_49 : decode cX6_window 49 = .ok (.iconst 4, 1) := by decide +kernel
theorem dX6_window_50 : decode cX6_window 50 = .ok (.invokestatic 176, 3) := by decide +kernel
theorem dX6_window_53 : decode cX6_window 53 = .ok (.ireturn, 1) := by decide +kernel
theorem dX6_isSetting_0 : decode cX6_isSetting 0 = .ok (.iload_n 0, 1) := by decide +kernel
theorem dX6_isSetting_1 : decode cX6_isSetting 1 = .ok (.i2l, 1) := by decide +kernel
theorem dX6_isSetting_2 : decode cX6_isSetting 2 = .ok (.lconst 0, 1) := by decide +kernel
theorem dX6_isSetting_3 : decode cX6_isSetting 3 = .ok (.ldc2_w 179, 3) := by decide +kernel
theorem dX6_isSetting_6 : decode cX6_isSetting 6 = .ok (.invokestatic 49, 3) := by decide +kernel
theorem dX6_isSetting_9 : decode cX6_isSetting 9 = .ok (.ifCond .eq 25, 3) := by decide +kernel
theorem dX6_isSetting_12 : decode cX6_isSetting 12 = .ok (.iload_n 1, 1) := by decide +kernel
theorem dX6_isSetting_13 : decode cX6_isSetting 13 = .ok (.i2l, 1) := by decide +kernel
theorem dX6_isSetting_14 : decode cX6_isSetting 14 = .ok (.iload_n 0, 1) := by decide +kernel
theorem dX6_isSetting_15 : decode cX6_isSetting 15 = .ok (.invokestatic 151, 3) := by decide +kernel
theorem dX6_isSetting_18 : decode cX6_isSetting 18 = .ok (.i2l, 1) := by decide +kernel
theorem dX6_isSetting_19 : decode cX6_isSetting 19 = .ok (.iload_n 0, 1) := by decide +kernel
theorem dX6_isSetting_20 : decode cX6_isSetting 20 = .ok (.invokestatic 155, 3) := by decide +kernel
theorem dX6_isSetting_23 : decode cX6_isSetting 23 = .ok (.i2l, 1) := by decide +kernel
theorem dX6_isSetting_24 : decode cX6_isSetting 24 = .ok (.invokestatic 49, 3) := by decide +kernel
theorem dX6_isSetting_27 : decode cX6_isSetting 27 = .ok (.ifCond .eq 7, 3) := by decide +kernel
theorem dX6_isSetting_30 : decode cX6_isSetting 30 = .ok (.iconst 1, 1) := by decide +kernel
theorem dX6_isSetting_31 : decode cX6_isSetting 31 = .ok (.goto 4, 3) := by decide +kernel
theorem dX6_isSetting_34 : decode cX6_isSetting 34 = .ok (.iconst 0, 1) := by decide +kernel
theorem dX6_isSetting_35 : decode cX6_isSetting 35 = .ok (.ireturn, 1) := by decide +kernel
theorem dX6_set_0 : decode cX6_set 0 = .ok (.aload_n 0, 1) := by decide +kernel
theorem dX6_set_1 : decode cX6_set 1 = .ok (.iload_n 1, 1) := by decide +kernel
theorem dX6_set_2 : decode cX6_set 2 = .ok (.iload_n 2, 1) := by decide +kernel
theorem dX6_set_3 : decode cX6_set 3 = .ok (.invokestatic 199, 3) := by decide +kernel
theorem dX6_set_6 : decode cX6_set 6 = .ok (.ifCond .eq 7, 3) := by decide +kernel
theorem dX6_set_9 : decode cX6_set 9 = .ok (.iconst 0, 1) := by decide +kernel
theorem dX6_set_10 : decode cX6_set 10 = .ok (.goto 4, 3) := by decide +kernel
theorem dX6_set_13 : decode cX6_set 13 = .ok (.iconst 1, 1) := by decide +kernel
theorem dX6_set_14 : decode cX6_set 14 = .ok (.invokevirtual 121, 3) := by decide +kernel
theorem dX6_set_17 : decode cX6_set 17 = .ok (.ifCond .eq 5, 3) := by decide +kernel
theorem dX6_set_20 : decode cX6_set 20 = .ok (.iconst 0, 1) := by decide +kernel
theorem dX6_set_21 : decode cX6_set 21 = .ok (.ireturn, 1) := by decide +kernel
theorem dX6_set_22 : decode cX6_set 22 = .ok (.aload_n 0, 1) := by decide +kernel
theorem dX6_set_23 : decode cX6_set 23 = .ok (.invokevirtual 196, 3) := by decide +kernel
theorem dX6_set_26 : decode cX6_set 26 = .ok (.aload_n 0, 1) := by decide +kernel
theorem dX6_set_27 : decode cX6_set 27 = .ok (.getfield 16, 3) := by decide +kernel
theorem dX6_set_30 : decode cX6_set 30 = .ok (.bipush 9, 2) := by decide +kernel
theorem dX6_set_32 : decode cX6_set 32 = .ok (.iload_n 1, 1) := by decide +kernel
theorem dX6_set_33 : decode cX6_set 33 = .ok (.iadd, 1) := by decide +kernel
theorem dX6_set_34 : decode cX6_set 34 = .ok (.iaload, 1) := by decide +kernel
theorem dX6_set_35 : decode cX6_set 35 = .ok (.istore_n 3, 1) := by decide +kernel
theorem dX6_set_36 : decode cX6_set 36 = .ok (.aload_n 0, 1) := by decide +kernel
theorem dX6_set_37 : decode cX6_set 37 = .ok (.getfield 16, 3) := by decide +kernel
theorem dX6_set_40 : decode cX6_set 40 = .ok (.bipush 9, 2) := by decide +kernel
theorem dX6_set_42 : decode cX6_set 42 = .ok (.iload_n 1, 1) := by decide +kernel
theorem dX6_set_43 : decode cX6_set 43 = .ok (.iadd, 1) := by decide +kernel
theorem dX6_set_44 : decode cX6_set 44 = .ok (.iload_n 2, 1) := by decide +kernel
theorem dX6_set_45 : decode cX6_set 45 = .ok (.iastore, 1) := by decide +kernel
theorem dX6_set_46 : decode cX6_set 46 = .ok (.iload_n 3, 1) := by decide +kernel
theorem dX6_set_47 : decode cX6_set 47 = .ok (.ireturn, 1) := by decide +kernel
theorem dX6_isOutside_0 : decode cX6_isOutside 0 = .ok (.iload_n 0, 1) := by decide +kernel
theorem dX6_isOutside_1 : decode cX6_isOutside 1 = .ok (.i2l, 1) := by decide +kernel
theorem dX6_isOutside_2 : decode cX6_isOutside 2 = .ok (.ldc2_w 203, 3) := by decide +kernel
theorem dX6_isOutside_5 : decode cX6_isOutside 5 = .ok (.ldc2_w 205, 3) := by decide +kernel
theorem dX6_isOutside_8 : decode cX6_isOutside 8 = .ok (.invokestatic 49, 3) := by decide +kernel
theorem dX6_isOutside_11 : decode cX6_isOutside 11 = .ok (.ireturn, 1) := by decide +kernel
theorem dX6_outside_0 : decode cX6_outside 0 = .ok (.aload_n 0, 1) := by decide +kernel
theorem dX6_outside_1 : decode cX6_outside 1 = .ok (.iload_n 1, 1) := by decide +kernel
theorem dX6_outside_2 : decode cX6_outside 2 = .ok (.invokestatic 207, 3) := by decide +kernel
theorem dX6_outside_5 : decode cX6_outside 5 = .ok (.ifCond .eq 7, 3) := by decide +kernel
theorem dX6_outside_8 : decode cX6_outside 8 = .ok (.iconst 0, 1) := by decide +kernel
theorem dX6_outside_9 : decode cX6_outside 9 = .ok (.goto 4, 3) := by decide +kernel
theorem dX6_outside_12 : decode cX6_outside 12 = .ok (.iconst 1, 1) := by decide +kernel
theorem dX6_outside_13 : decode cX6_outside 13 = .ok (.invokevirtual 121, 3) := by decide +kernel
theorem dX6_outside_16 : decode cX6_outside 16 = .ok (.ifCond .eq 5, 3) := by decide +kernel
theorem dX6_outside_19 : decode cX6_outside 19 = .ok (.iconst 0, 1) := by decide +kernel
theorem dX6_outside_20 : decode cX6_outside 20 = .ok (.ireturn, 1) := by decide +kernel
theorem dX6_outside_21 : decode cX6_outside 21 = .ok (.aload_n 0, 1) := by decide +kernel
theorem dX6_outside_22 : decode cX6_outside 22 = .ok (.invokevirtual 196, 3) := by decide +kernel
theorem dX6_outside_25 : decode cX6_outside 25 = .ok (.aload_n 0, 1) := by decide +kernel
theorem dX6_outside_26 : decode cX6_outside 26 = .ok (.getfield 16, 3) := by decide +kernel
theorem dX6_outside_29 : decode cX6_outside 29 = .ok (.iconst 2, 1) := by decide +kernel
theorem dX6_outside_30 : decode cX6_outside 30 = .ok (.iaload, 1) := by decide +kernel
theorem dX6_outside_31 : decode cX6_outside 31 = .ok (.istore_n 2, 1) := by decide +kernel
theorem dX6_outside_32 : decode cX6_outside 32 = .ok (.aload_n 0, 1) := by decide +kernel
theorem dX6_outside_33 : decode cX6_outside 33 = .ok (.getfield 16, 3) := by decide +kernel
theorem dX6_outside_36 : decode cX6_outside 36 = .ok (.iconst 2, 1) := by decide +kernel
theorem dX6_outside_37 : decode cX6_outside 37 = .ok (.iload_n 1, 1) := by decide +kernel
theorem dX6_outside_38 : decode cX6_outside 38 = .ok (.iastore, 1) := by decide +kernel
theorem dX6_outside_39 : decode cX6_outside 39 = .ok (.iload_n 2, 1) := by decide +kernel
theorem dX6_outside_40 : decode cX6_outside 40 = .ok (.ireturn, 1) := by decide +kernel
theorem dX6_pass_0 : decode cX6_pass 0 = .ok (.aload_n 0, 1) := by decide +kernel
theorem dX6_pass_1 : decode cX6_pass 1 = .ok (.iload_n 1, 1) := by decide +kernel
theorem dX6_pass_2 : decode cX6_pass 2 = .ok (.i2l, 1) := by decide +kernel
theorem dX6_pass_3 : decode cX6_pass 3 = .ok (.lconst 1, 1) := by decide +kernel
theorem dX6_pass_4 : decode cX6_pass 4 = .ok (.ldc2_w 210, 3) := by decide +kernel
theorem dX6_pass_7 : decode cX6_pass 7 = .ok (.invokestatic 49, 3) := by decide +kernel
theorem dX6_pass_10 : decode cX6_pass 10 = .ok (.ifCond .eq 7, 3) := by decide +kernel
theorem dX6_pass_13 : decode cX6_pass 13 = .ok (.iconst 0, 1) := by decide +kernel
theorem dX6_pass_14 : decode cX6_pass 14 = .ok (.goto 4, 3) := by decide +kernel
theorem dX6_pass_17 : decode cX6_pass 17 = .ok (.iconst 1, 1) := by decide +kernel
theorem dX6_pass_18 : decode cX6_pass 18 = .ok (.invokevirtual 121, 3) := by decide +kernel
theorem dX6_pass_21 : decode cX6_pass 21 = .ok (.ifCond .eq 5, 3) := by decide +kernel
theorem dX6_pass_24 : decode cX6_pass 24 = .ok (.iconst 0, 1) := by decide +kernel
theorem dX6_pass_25 : decode cX6_pass 25 = .ok (.ireturn, 1) := by decide +kernel
theorem dX6_pass_26 : decode cX6_pass 26 = .ok (.aload_n 0, 1) := by decide +kernel
theorem dX6_pass_27 : decode cX6_pass 27 = .ok (.invokevirtual 196, 3) := by decide +kernel
theorem dX6_pass_30 : decode cX6_pass 30 = .ok (.aload_n 0, 1) := by decide +kernel
theorem dX6_pass_31 : decode cX6_pass 31 = .ok (.getfield 16, 3) := by decide +kernel
theorem dX6_pass_34 : decode cX6_pass 34 = .ok (.iload_n 1, 1) := by decide +kernel
theorem dX6_pass_35 : decode cX6_pass 35 = .ok (.invokestatic 212, 3) := by decide +kernel
theorem dX6_pass_38 : decode cX6_pass 38 = .ok (.ireturn, 1) := by decide +kernel
theorem dX6_undo_0 : decode cX6_undo 0 = .ok (.aload_n 0, 1) := by decide +kernel
theorem dX6_undo_1 : decode cX6_undo 1 = .ok (.aload_n 0, 1) := by decide +kernel
theorem dX6_undo_2 : decode cX6_undo 2 = .ok (.getfield 42, 3) := by decide +kernel
theorem dX6_undo_5 : decode cX6_undo 5 = .ok (.ifCond .ne 7, 3) := by decide +kernel
theorem dX6_undo_8 : decode cX6_undo 8 = .ok (.iconst 1, 1) := by decide +kernel
theorem dX6_undo_9 : decode cX6_undo 9 = .ok (.goto 4, 3) := by decide +kernel
theorem dX6_undo_12 : decode cX6_undo 12 = .ok (.iconst 0, 1) := by decide +kernel
theorem dX6_undo_13 : decode cX6_undo 13 = .ok (.invokevirtual 121, 3) := by decide +kernel
theorem dX6_undo_16 : decode cX6_undo 16 = .ok (.ifCond .eq 5, 3) := by decide +kernel
theorem dX6_undo_19 : decode cX6_undo 19 = .ok (.iconst 0, 1) := by decide +kernel
theorem dX6_undo_20 : decode cX6_undo 20 = .ok (.ireturn, 1) := by decide +kernel
theorem dX6_undo_21 : decode cX6_undo 21 = .ok (.aload_n 0, 1) := by decide +kernel
theorem dX6_undo_22 : decode cX6_undo 22 = .ok (.dup, 1) := by decide +kernel
theorem dX6_undo_23 : decode cX6_undo 23 = .ok (.getfield 42, 3) := by decide +kernel
theorem dX6_undo_26 : decode cX6_undo 26 = .ok (.iconst 1, 1) := by decide +kernel
theorem dX6_undo_27 : decode cX6_undo 27 = .ok (.isub, 1) := by decide +kernel
theorem dX6_undo_28 : decode cX6_undo 28 = .ok (.putfield 42, 3) := by decide +kernel
theorem dX6_undo_31 : decode cX6_undo 31 = .ok (.aload_n 0, 1) := by decide +kernel
theorem dX6_undo_32 : decode cX6_undo 32 = .ok (.getfield 22, 3) := by decide +kernel
theorem dX6_undo_35 : decode cX6_undo 35 = .ok (.sipush 128, 3) := by decide +kernel
theorem dX6_undo_38 : decode cX6_undo 38 = .ok (.aload_n 0, 1) := by decide +kernel
theorem dX6_undo_39 : decode cX6_undo 39 = .ok (.getfield 42, 3) := by decide +kernel
theorem dX6_undo_42 : decode cX6_undo 42 = .ok (.imul, 1) := by decide +kernel
theorem dX6_undo_43 : decode cX6_undo 43 = .ok (.aload_n 0, 1) := by decide +kernel
theorem dX6_undo_44 : decode cX6_undo 44 = .ok (.getfield 16, 3) := by decide +kernel
theorem dX6_undo_47 : decode cX6_undo 47 = .ok (.iconst 0, 1) := by decide +kernel
theorem dX6_undo_48 : decode cX6_undo 48 = .ok (.sipush 128, 3) := by decide +kernel
theorem dX6_undo_51 : decode cX6_undo 51 = .ok (.invokestatic 45, 3) := by decide +kernel
theorem dX6_undo_54 : decode cX6_undo 54 = .ok (.aload_n 0, 1) := by decide +kernel
theorem dX6_undo_55 : decode cX6_undo 55 = .ok (.getfield 42, 3) := by decide +kernel
theorem dX6_undo_58 : decode cX6_undo 58 = .ok (.ireturn, 1) := by decide +kernel
theorem dX6_isAhead_0 : decode cX6_isAhead 0 = .ok (.iload_n 0, 1) := by decide +kernel
theorem dX6_isAhead_1 : decode cX6_isAhead 1 = .ok (.i2l, 1) := by decide +kernel
theorem dX6_isAhead_2 : decode cX6_isAhead 2 = .ok (.lconst 0, 1) := by decide +kernel
theorem dX6_isAhead_3 : decode cX6_isAhead 3 = .ok (.ldc2_w 215, 3) := by decide +kernel
theorem dX6_isAhead_6 : decode cX6_isAhead 6 = .ok (.invokestatic 49, 3) := by decide +kernel
theorem dX6_isAhead_9 : decode cX6_isAhead 9 = .ok (.ireturn, 1) := by decide +kernel
theorem dX6_ahead_0 : decode cX6_ahead 0 = .ok (.aload_n 0, 1) := by decide +kernel
theorem dX6_ahead_1 : decode cX6_ahead 1 = .ok (.aload_n 0, 1) := by decide +kernel
theorem dX6_ahead_2 : decode cX6_ahead 2 = .ok (.iload_n 1, 1) := by decide +kernel
theorem dX6_ahead_3 : decode cX6_ahead 3 = .ok (.invokevirtual 181, 3) := by decide +kernel
theorem dX6_ahead_6 : decode cX6_ahead 6 = .ok (.ifCond .ne 7, 3) := by decide +kernel
theorem dX6_ahead_9 : decode cX6_ahead 9 = .ok (.iconst 1, 1) := by decide +kernel
theorem dX6_ahead_10 : decode cX6_ahead 10 = .ok (.goto 15, 3) := by decide +kernel
theorem dX6_ahead_13 : decode cX6_ahead 13 = .ok (.iload_n 2, 1) := by decide +kernel
theorem dX6_ahead_14 : decode cX6_ahead 14 = .ok (.invokestatic 217, 3) := by decide +kernel
theorem dX6_ahead_17 : decode cX6_ahead 17 = .ok (.ifCond .eq 7, 3) := by decide +kernel
theorem dX6_ahead_20 : decode cX6_ahead 20 = .ok (.iconst 0, 1) := by decide +kernel
theorem dX6_ahead_21 : decode cX6_ahead 21 = .ok (.goto 4, 3) := by decide +kernel
theorem dX6_ahead_24 : decode cX6_ahead 24 = .ok (.iconst 2, 1) := by decide +kernel
theorem dX6_ahead_25 : decode cX6_ahead 25 = .ok (.invokevirtual 121, 3) := by decide +kernel
theorem dX6_ahead_28 : decode cX6_ahead 28 = .ok (.ifCond .eq 5, 3) := by decide +kernel
theorem dX6_ahead_31 : decode cX6_ahead 31 = .ok (.iconst 0, 1) := by decide +kernel
theorem dX6_ahead_32 : decode cX6_ahead 32 = .ok (.ireturn, 1) := by decide +kernel
theorem dX6_ahead_33 : decode cX6_ahead 33 = .ok (.aload_n 0, 1) := by decide +kernel
theorem dX6_ahead_34 : decode cX6_ahead 34 = .ok (.invokevirtual 220, 3) := by decide +kernel
theorem dX6_ahead_37 : decode cX6_ahead 37 = .ok (.aload_n 0, 1) := by decide +kernel
theorem dX6_ahead_38 : decode cX6_ahead 38 = .ok (.getfield 19, 3) := by decide +kernel
theorem dX6_ahead_41 : decode cX6_ahead 41 = .ok (.iload_n 2, 1) := by decide +kernel
theorem dX6_ahead_42 : decode cX6_ahead 42 = .ok (.invokestatic 212, 3) := by decide +kernel
theorem dX6_ahead_45 : decode cX6_ahead 45 = .ok (.pop, 1) := by decide +kernel
theorem dX6_ahead_46 : decode cX6_ahead 46 = .ok (.aload_n 0, 1) := by decide +kernel
theorem dX6_ahead_47 : decode cX6_ahead 47 = .ok (.getfield 19, 3) := by decide +kernel
theorem dX6_ahead_50 : decode cX6_ahead 50 = .ok (.iload_n 1, 1) := by decide +kernel
theorem dX6_ahead_51 : decode cX6_ahead 51 = .ok (.invokestatic 73, 3) := by decide +kernel
theorem dX6_ahead_54 : decode cX6_ahead 54 = .ok (.ireturn, 1) := by decide +kernel
theorem dX6_minutesTo_0 : decode cX6_minutesTo 0 = .ok (.aload_n 0, 1) := by decide +kernel
theorem dX6_minutesTo_1 : decode cX6_minutesTo 1 = .ok (.aload_n 0, 1) := by decide +kernel
theorem dX6_minutesTo_2 : decode cX6_minutesTo 2 = .ok (.iload_n 1, 1) := by decide +kernel
theorem dX6_minutesTo_3 : decode cX6_minutesTo 3 = .ok (.invokevirtual 186, 3) := by decide +kernel
theorem dX6_minutesTo_6 : decode cX6_minutesTo 6 = .ok (.ifCond .eq 7, 3) := by decide +kernel
theorem dX6_minutesTo_9 : decode cX6_minutesTo 9 = .ok (.iconst 0, 1) := by decide +kernel
theorem dX6_minutesTo_10 : decode cX6_minutesTo 10 = .ok (.goto 4, 3) := by decide +kernel
theorem dX6_minutesTo_13 : decode cX6_minutesTo 13 = .ok (.iconst 1, 1) := by decide +kernel
theorem dX6_minutesTo_14 : decode cX6_minutesTo 14 = .ok (.invokevirtual 121, 3) := by decide +kernel
theorem dX6_minutesTo_17 : decode cX6_minutesTo 17 = .ok (.ifCond .eq 5, 3) := by decide +kernel
theorem dX6_minutesTo_20 : decode cX6_minutesTo 20 = .ok (.iconst 0, 1) := by decide +kernel
theorem dX6_minutesTo_21 : decode cX6_minutesTo 21 = .ok (.ireturn, 1) := by decide +kernel
theorem dX6_minutesTo_22 : decode cX6_minutesTo 22 = .ok (.aload_n 0, 1) := by decide +kernel
theorem dX6_minutesTo_23 : decode cX6_minutesTo 23 = .ok (.invokevirtual 220, 3) := by decide +kernel
theorem dX6_minutesTo_26 : decode cX6_minutesTo 26 = .ok (.iconst 0, 1) := by decide +kernel
theorem dX6_minutesTo_27 : decode cX6_minutesTo 27 = .ok (.istore_n 2, 1) := by decide +kernel
theorem dX6_minutesTo_28 : decode cX6_minutesTo 28 = .ok (.iload_n 2, 1) := by decide +kernel
theorem dX6_minutesTo_29 : decode cX6_minutesTo 29 = .ok (.sipush 240, 3) := by decide +kernel
theorem dX6_minutesTo_32 : decode cX6_minutesTo 32 = .ok (.if_icmp .gt 42, 3) := by decide +kernel
theorem dX6_minutesTo_35 : decode cX6_minutesTo 35 = .ok (.aload_n 0, 1) := by decide +kernel
theorem dX6_minutesTo_36 : decode cX6_minutesTo 36 = .ok (.getfield 19, 3) := by decide +kernel
theorem dX6_minutesTo_39 : decode cX6_minutesTo 39 = .ok (.iconst 2, 1) := by decide +kernel
theorem dX6_minutesTo_40 : decode cX6_minutesTo 40 = .ok (.iload_n 1, 1) := by decide +kernel
theorem dX6_minutesTo_41 : decode cX6_minutesTo 41 = .ok (.iadd, 1) := by decide +kernel
theorem dX6_minutesTo_42 : decode cX6_minutesTo 42 = .ok (.invokestatic 73, 3) := by decide +kernel
theorem dX6_minutesTo_45 : decode cX6_minutesTo 45 = .ok (.aload_n 0, 1) := by decide +kernel
theorem dX6_minutesTo_46 : decode cX6_minutesTo 46 = .ok (.getfield 19, 3) := by decide +kernel
theorem dX6_minutesTo_49 : decode cX6_minutesTo 49 = .ok (.iload_n 1, 1) := by decide +kernel
theorem dX6_minutesTo_50 : decode cX6_minutesTo 50 = .ok (.iconst 1, 1) := by decide +kernel
theorem dX6_minutesTo_51 : decode cX6_minutesTo 51 = .ok (.invokestatic 53, 3) := by decide +kernel
theorem dX6_minutesTo_54 : decode cX6_minutesTo 54 = .ok (.iaload, 1) := by decide +kernel
theorem dX6_minutesTo_55 : decode cX6_minutesTo 55 = .ok (.if_icmp .lt 5, 3) := by decide +kernel
theorem dX6_minutesTo_58 : decode cX6_minutesTo 58 = .ok (.iload_n 2, 1) := by decide +kernel
theorem dX6_minutesTo_59 : decode cX6_minutesTo 59 = .ok (.ireturn, 1) := by decide +kernel
theorem dX6_minutesTo_60 : decode cX6_minutesTo 60 = .ok (.aload_n 0, 1) := by decide +kernel
theorem dX6_minutesTo_61 : decode cX6_minutesTo 61 = .ok (.getfield 19, 3) := by decide +kernel
theorem dX6_minutesTo_64 : decode cX6_minutesTo 64 = .ok (.invokestatic 113, 3) := by decide +kernel
theorem dX6_minutesTo_67 : decode cX6_minutesTo 67 = .ok (.pop, 1) := by decide +kernel
theorem dX6_minutesTo_68 : decode cX6_minutesTo 68 = .ok (.iinc 2 1, 3) := by decide +kernel
theorem dX6_minutesTo_71 : decode cX6_minutesTo 71 = .ok (.goto (-43), 3) := by decide +kernel
theorem dX6_minutesTo_74 : decode cX6_minutesTo 74 = .ok (.ldc 64, 2) := by decide +kernel
theorem dX6_minutesTo_76 : decode cX6_minutesTo 76 = .ok (.ireturn, 1) := by decide +kernel
theorem dX6_whyOff_0 : decode cX6_whyOff 0 = .ok (.aload_n 0, 1) := by decide +kernel
theorem dX6_whyOff_1 : decode cX6_whyOff 1 = .ok (.iconst 0, 1) := by decide +kernel
theorem dX6_whyOff_2 : decode cX6_whyOff 2 = .ok (.putfield 36, 3) := by decide +kernel
theorem dX6_whyOff_5 : decode cX6_whyOff 5 = .ok (.aload_n 0, 1) := by decide +kernel
theorem dX6_whyOff_6 : decode cX6_whyOff 6 = .ok (.invokevirtual 220, 3) := by decide +kernel
theorem dX6_whyOff_9 : decode cX6_whyOff 9 = .ok (.aload_n 0, 1) := by decide +kernel
theorem dX6_whyOff_10 : decode cX6_whyOff 10 = .ok (.getfield 19, 3) := by decide +kernel
theorem dX6_whyOff_13 : decode cX6_whyOff 13 = .ok (.invokestatic 91, 3) := by decide +kernel
theorem dX6_whyOff_16 : decode cX6_whyOff 16 = .ok (.aload_n 0, 1) := by decide +kernel
theorem dX6_whyOff_17 : decode cX6_whyOff 17 = .ok (.getfield 19, 3) := by decide +kernel
theorem dX6_whyOff_20 : decode cX6_whyOff 20 = .ok (.invokestatic 94, 3) := by decide +kernel
theorem dX6_whyOff_23 : decode cX6_whyOff 23 = .ok (.aload_n 0, 1) := by decide +kernel
theorem dX6_whyOff_24 : decode cX6_whyOff 24 = .ok (.getfield 19, 3) := by decide +kernel
theorem dX6_whyOff_27 : decode cX6_whyOff 27 = .ok (.iconst 3, 1) := by decide +kernel
theorem dX6_whyOff_28 : decode cX6_whyOff 28 = .ok (.iaload, 1) := by decide +kernel
theorem dX6_whyOff_29 : decode cX6_whyOff 29 = .ok (.iconst 1, 1) := by decide +kernel
theorem dX6_whyOff_30 : decode cX6_whyOff 30 = .ok (.if_icmp .ne 5, 3) := by decide +kernel
theorem dX6_whyOff_33 : decode cX6_whyOff 33 = .ok (.iconst 0, 1) := by decide +kernel
theorem dX6_whyOff_34 : decode cX6_whyOff 34 = .ok (.ireturn, 1) := by decide +kernel
theorem dX6_whyOff_35 : decode cX6_whyOff 35 = .ok (.aload_n 0, 1) := by decide +kernel
theorem dX6_whyOff_36 : decode cX6_whyOff 36 = .ok (.getfield 19, 3) := by decide +kernel
theorem dX6_whyOff_39 : decode cX6_whyOff 39 = .ok (.bipush 6, 2) := by decide +kernel
theorem dX6_whyOff_41 : decode cX6_whyOff 41 = .ok (.iaload, 1) := by decide +kernel
theorem dX6_whyOff_42 : decode cX6_whyOff 42 = .ok (.iconst 1, 1) := by decide +kernel
theorem dX6_whyOff_43 : decode cX6_whyOff 43 = .ok (.if_icmp .ne 7, 3) := by decide +kernel
theorem dX6_whyOff_46 : decode cX6_whyOff 46 = .ok (.iconst 1, 1) := by decide +kernel
theorem dX6_whyOff_47 : decode cX6_whyOff 47 = .ok (.goto 40, 3) := by decide +kernel
theorem dX6_whyOff_50 : decode cX6_whyOff 50 = .ok (.aload_n 0, 1) := by decide +kernel
theorem dX6_whyOff_51 : decode cX6_whyOff 51 = .ok (.getfield 19, 3) := by decide +kernel
theorem dX6_whyOff_54 : decode cX6_whyOff 54 = .ok (.iconst 0, 1) := by decide +kernel
theorem dX6_whyOff_55 : decode cX6_whyOff 55 = .ok (.invokestatic 73, 3) := by decide +kernel
theorem dX6_whyOff_58 : decode cX6_whyOff 58 = .ok (.aload_n 0, 1) := by decide +kernel
theorem dX6_whyOff_59 : decode cX6_whyOff 59 = .ok (.getfield 19, 3) := by decide +kernel
theorem dX6_whyOff_62 : decode cX6_whyOff 62 = .ok (.bipush 10, 2) := by decide +kernel
theorem dX6_whyOff_64 : decode cX6_whyOff 64 = .ok (.iaload, 1) := by decide +kernel
theorem dX6_whyOff_65 : decode cX6_whyOff 65 = .ok (.if_icmp .lt 7, 3) := by decide +kernel
theorem dX6_whyOff_68 : decode cX6_whyOff 68 = .ok (.iconst 2, 1) := by decide +kernel
theorem dX6_whyOff_69 : decode cX6_whyOff 69 = .ok (.goto 18, 3) := by decide +kernel
theorem dX6_whyOff_72 : decode cX6_whyOff 72 = .ok (.aload_n 0, 1) := by decide +kernel
theorem dX6_whyOff_73 : decode cX6_whyOff 73 = .ok (.getfield 19, 3) := by decide +kernel
theorem dX6_whyOff_76 : decode cX6_whyOff 76 = .ok (.bipush 9, 2) := by decide +kernel
theorem dX6_whyOff_78 : decode cX6_whyOff 78 = .ok (.iaload, 1) := by decide +kernel
theorem dX6_whyOff_79 : decode cX6_whyOff 79 = .ok (.ifCond .ne 7, 3) := by decide +kernel
theorem dX6_whyOff_82 : decode cX6_whyOff 82 = .ok (.iconst 3, 1) := by decide +kernel
theorem dX6_whyOff_83 : decode cX6_whyOff 83 = .ok (.goto 4, 3) := by decide +kernel
theorem dX6_whyOff_86 : decode cX6_whyOff 86 = .ok (.iconst 4, 1) := by decide +kernel
theorem dX6_whyOff_87 : decode cX6_whyOff 87 = .ok (.ireturn, 1) := by decide +kernel
theorem dX6_whyShare_0 : decode cX6_whyShare 0 = .ok (.aload_n 0, 1) := by decide +kernel
theorem dX6_whyShare_1 : decode cX6_whyShare 1 = .ok (.iconst 0, 1) := by decide +kernel
theorem dX6_whyShare_2 : decode cX6_whyShare 2 = .ok (.putfield 36, 3) := by decide +kernel
theorem dX6_whyShare_5 : decode cX6_whyShare 5 = .ok (.aload_n 0, 1) := by decide +kernel
theorem dX6_whyShare_6 : decode cX6_whyShare 6 = .ok (.invokevirtual 220, 3) := by decide +kernel
theorem dX6_whyShare_9 : decode cX6_whyShare 9 = .ok (.aload_n 0, 1) := by decide +kernel
theorem dX6_whyShare_10 : decode cX6_whyShare 10 = .ok (.getfield 19, 3) := by decide +kernel
theorem dX6_whyShare_13 : decode cX6_whyShare 13 = .ok (.invokestatic 91, 3) := by decide +kernel
theorem dX6_whyShare_16 : decode cX6_whyShare 16 = .ok (.aload_n 0, 1) := by decide +kernel
theorem dX6_whyShare_17 : decode cX6_whyShare 17 = .ok (.getfield 19, 3) := by decide +kernel
theorem dX6_whyShare_20 : decode cX6_whyShare 20 = .ok (.invokestatic 94, 3) := by decide +kernel
theorem dX6_whyShare_23 : decode cX6_whyShare 23 = .ok (.aload_n 0, 1) := by decide +kernel
theorem dX6_whyShare_24 : decode cX6_whyShare 24 = .ok (.getfield 19, 3) := by decide +kernel
theorem dX6_whyShare_27 : decode cX6_whyShare 27 = .ok (.invokestatic 84, 3) := by decide +kernel
theorem dX6_whyShare_30 : decode cX6_whyShare 30 = .ok (.istore_n 1, 1) := by decide +kernel
theorem dX6_whyShare_31 : decode cX6_whyShare 31 = .ok (.aload_n 0, 1) := by decide +kernel
theorem dX6_whyShare_32 : decode cX6_whyShare 32 = .ok (.getfield 19, 3) := by decide +kernel
theorem dX6_whyShare_35 : decode cX6_whyShare 35 = .ok (.invokestatic 87, 3) := by decide +kernel
theorem dX6_whyShare_38 : decode cX6_whyShare 38 = .ok (.istore_n 2, 1) := by decide +kernel
theorem dX6_whyShare_39 : decode cX6_whyShare 39 = .ok (.aload_n 0, 1) := by decide +kernel
theorem dX6_whyShare_40 : decode cX6_whyShare 40 = .ok (.getfield 19, 3) := by decide +kernel
theorem dX6_whyShare_43 : decode cX6_whyShare 43 = .ok (.invokestatic 97, 3) := by decide +kernel
theorem dX6_whyShare_46 : decode cX6_whyShare 46 = .ok (.aload_n 0, 1) := by decide +kernel
theorem dX6_whyShare_47 : decode cX6_whyShare 47 = .ok (.getfield 19, 3) := by decide +kernel
theorem dX6_whyShare_50 : decode cX6_whyShare 50 = .ok (.iconst 5, 1) := by decide +kernel
theorem dX6_whyShare_51 : decode cX6_whyShare 51 = .ok (.iaload, 1) := by decide +kernel
theorem dX6_whyShare_52 : decode cX6_whyShare 52 = .ok (.bipush 100, 2) := by decide +kernel
theorem dX6_whyShare_54 : decode cX6_whyShare 54 = .ok (.if_icmp .ne 5, 3) := by decide +kernel
theorem dX6_whyShare_57 : decode cX6_whyShare 57 = .ok (.iconst 0, 1) := by decide +kernel
theorem dX6_whyShare_58 : decode cX6_whyShare 58 = .ok (.ireturn, 1) := by decide +kernel
theorem dX6_whyShare_59 : decode cX6_whyShare 59 = .ok (.aload_n 0, 1) := by decide +kernel
theorem dX6_whyShare_60 : decode cX6_whyShare 60 = .ok (.getfield 19, 3) := by decide +kernel
theorem dX6_whyShare_63 : decode cX6_whyShare 63 = .ok (.bipush 6, 2) := by decide +kernel
theorem dX6_whyShare_65 : decode cX6_whyShare 65 = .ok (.iaload, 1) := by decide +kernel
theorem dX6_whyShare_66 : decode cX6_whyShare 66 = .ok (.iconst 1, 1) := by decide +kernel
theorem dX6_whyShare_67 : decode cX6_whyShare 67 = .ok (.if_icmp .ne 7, 3) := by decide +kernel
theorem dX6_whyShare_70 : decode cX6_whyShare 70 = .ok (.iconst 1, 1) := by decide +kernel
theorem dX6_whyShare_71 : decode cX6_whyShare 71 = .ok (.goto 30, 3) := by decide +kernel
theorem dX6_whyShare_74 : decode cX6_whyShare 74 = .ok (.iload_n 1, 1) := by decide +kernel
theorem dX6_whyShare_75 : decode cX6_whyShare 75 = .ok (.ifCond .ne 7, 3) := by decide +kernel
theorem dX6_whyShare_78 : decode cX6_whyShare 78 = .ok (.iconst 2, 1) := by decide +kernel
theorem dX6_whyShare_79 : decode cX6_whyShare 79 = .ok (.goto 22, 3) := by decide +kernel
theorem dX6_whyShare_82 : decode cX6_whyShare 82 = .ok (.iload_n 2, 1) := by decide +kernel
theorem dX6_whyShare_83 : decode cX6_whyShare 83 = .ok (.ifCond .eq 7, 3) := by decide +kernel
theorem dX6_whyShare_86 : decode cX6_whyShare 86 = .ok (.iconst 3, 1) := by decide +kernel
theorem dX6_whyShare_87 : decode cX6_whyShare 87 = .ok (.goto 14, 3) := by decide +kernel
theorem dX6_whyShare_90 : decode cX6_whyShare 90 = .ok (.iload_n 1, 1) := by decide +kernel
theorem dX6_whyShare_91 : decode cX6_whyShare 91 = .ok (.bipush 100, 2) := by decide +kernel
theorem dX6_whyShare_93 : decode cX6_whyShare 93 = .ok (.if_icmp .ge 7, 3) := by decide +kernel
theorem dX6_whyShare_96 : decode cX6_whyShare 96 = .ok (.iconst 4, 1) := by decide +kernel
theorem dX6_whyShare_97 : decode cX6_whyShare 97 = .ok (.goto 4, 3) := by decide +kernel
theorem dX6_whyShare_100 : decode cX6_whyShare 100 = .ok (.iconst 5, 1) := by decide +kernel
theorem dX6_whyShare_101 : decode cX6_whyShare 101 = .ok (.ireturn, 1) := by decide +kernel
theorem dX6_bestSlope_0 : decode cX6_bestSlope 0 = .ok (.aload_n 0, 1) := by decide +kernel
theorem dX6_bestSlope_1 : decode cX6_bestSlope 1 = .ok (.iload_n 1, 1) := by decide +kernel
theorem dX6_bestSlope_2 : decode cX6_bestSlope 2 = .ok (.i2l, 1) := by decide +kernel
theorem dX6_bestSlope_3 : decode cX6_bestSlope 3 = .ok (.lconst 1, 1) := by decide +kernel
theorem dX6_bestSlope_4 : decode cX6_bestSlope 4 = .ok (.ldc2_w 215, 3) := by decide +kernel
theorem dX6_bestSlope_7 : decode cX6_bestSlope 7 = .ok (.invokestatic 49, 3) := by decide +kernel
theorem dX6_bestSlope_10 : decode cX6_bestSlope 10 = .ok (.ifCond .eq 7, 3) := by decide +kernel
theorem dX6_bestSlope_13 : decode cX6_bestSlope 13 = .ok (.iconst 0, 1) := by decide +kernel
theorem dX6_bestSlope_14 : decode cX6_bestSlope 14 = .ok (.goto 4, 3) := by decide +kernel
theorem dX6_bestSlope_17 : decode cX6_bestSlope 17 = .ok (.iconst 1, 1) := by decide +kernel
theorem dX6_bestSlope_18 : decode cX6_bestSlope 18 = .ok (.invokevirtual 121, 3) := by decide +kernel
theorem dX6_bestSlope_21 : decode cX6_bestSlope 21 = .ok (.ifCond .eq 5, 3) := by decide +kernel
theorem dX6_bestSlope_24 : decode cX6_bestSlope 24 = .ok (.iconst 0, 1) := by decide +kernel
theorem dX6_bestSlope_25 : decode cX6_bestSlope 25 = .ok (.ireturn, 1) := by decide +kernel
theorem dX6_bestSlope_26 : decode cX6_bestSlope 26 = .ok (.ldc 64, 2) := by decide +kernel
theorem dX6_bestSlope_28 : decode cX6_bestSlope 28 = .ok (.istore_n 2, 1) := by decide +kernel
theorem dX6_bestSlope_29 : decode cX6_bestSlope 29 = .ok (.iconst 0, 1) := by decide +kernel
theorem dX6_bestSlope_30 : decode cX6_bestSlope 30 = .ok (.istore_n 3, 1) := by decide +kernel
theorem dX6_bestSlope_31 : decode cX6_bestSlope 31 = .ok (.iconst 0, 1) := by decide +kernel
theorem dX6_bestSlope_32 : decode cX6_bestSlope 32 = .ok (.istore 4, 2) := by decide +kernel
theorem dX6_bestSlope_34 : decode cX6_bestSlope 34 = .ok (.iload 4, 2) := by decide +kernel
theorem dX6_bestSlope_36 : decode cX6_bestSlope 36 = .ok (.bipush 30, 2) := by decide +kernel
theorem dX6_bestSlope_38 : decode cX6_bestSlope 38 = .ok (.if_icmp .gt 59, 3) := by decide +kernel
theorem dX6_bestSlope_41 : decode cX6_bestSlope 41 = .ok (.aload_n 0, 1) := by decide +kernel
theorem dX6_bestSlope_42 : decode cX6_bestSlope 42 = .ok (.getfield 16, 3) := by decide +kernel
theorem dX6_bestSlope_45 : decode cX6_bestSlope 45 = .ok (.iconst 0, 1) := by decide +kernel
theorem dX6_bestSlope_46 : decode cX6_bestSlope 46 = .ok (.iaload, 1) := by decide +kernel
theorem dX6_bestSlope_47 : decode cX6_bestSlope 47 = .ok (.ifCond .le 50, 3) := by decide +kernel
theorem dX6_bestSlope_50 : decode cX6_bestSlope 50 = .ok (.aload_n 0, 1) := by decide +kernel
theorem dX6_bestSlope_51 : decode cX6_bestSlope 51 = .ok (.invokevirtual 220, 3) := by decide +kernel
theorem dX6_bestSlope_54 : decode cX6_bestSlope 54 = .ok (.aload_n 0, 1) := by decide +kernel
theorem dX6_bestSlope_55 : decode cX6_bestSlope 55 = .ok (.getfield 19, 3) := by decide +kernel
theorem dX6_bestSlope_58 : decode cX6_bestSlope 58 = .ok (.bipush 13, 2) := by decide +kernel
theorem dX6_bestSlope_60 : decode cX6_bestSlope 60 = .ok (.iload 4, 2) := by decide +kernel
theorem dX6_bestSlope_62 : decode cX6_bestSlope 62 = .ok (.iastore, 1) := by decide +kernel
theorem dX6_bestSlope_63 : decode cX6_bestSlope 63 = .ok (.aload_n 0, 1) := by decide +kernel
theorem dX6_bestSlope_64 : decode cX6_bestSlope 64 = .ok (.getfield 19, 3) := by decide +kernel
theorem dX6_bestSlope_67 : decode cX6_bestSlope 67 = .ok (.iload_n 1, 1) := by decide +kernel
theorem dX6_bestSlope_68 : decode cX6_bestSlope 68 = .ok (.invokestatic 212, 3) := by decide +kernel
theorem dX6_bestSlope_71 : decode cX6_bestSlope 71 = .ok (.istore 5, 2) := by decide +kernel
theorem dX6_bestSlope_73 : decode cX6_bestSlope 73 = .ok (.iload_n 2, 1) := by decide +kernel
theorem dX6_bestSlope_74 : decode cX6_bestSlope 74 = .ok (.ldc 64, 2) := by decide +kernel
theorem dX6_bestSlope_76 : decode cX6_bestSlope 76 = .ok (.if_icmp .eq 9, 3) := by decide +kernel
theorem dX6_bestSlope_79 : decode cX6_bestSlope 79 = .ok (.iload 5, 2) := by decide +kernel
theorem dX6_bestSlope_81 : decode cX6_bestSlope 81 = .ok (.iload_n 3, 1) := by decide +kernel
theorem dX6_bestSlope_82 : decode cX6_bestSlope 82 = .ok (.if_icmp .le 9, 3) := by decide +kernel
theorem dX6_bestSlope_85 : decode cX6_bestSlope 85 = .ok (.iload 4, 2) := by decide +kernel
theorem dX6_bestSlope_87 : decode cX6_bestSlope 87 = .ok (.istore_n 2, 1) := by decide +kernel
theorem dX6_bestSlope_88 : decode cX6_bestSlope 88 = .ok (.iload 5, 2) := by decide +kernel
theorem dX6_bestSlope_90 : decode cX6_bestSlope 90 = .ok (.istore_n 3, 1) := by decide +kernel
theorem dX6_bestSlope_91 : decode cX6_bestSlope 91 = .ok (.iinc 4 1, 3) := by decide +kernel
theorem dX6_bestSlope_94 : decode cX6_bestSlope 94 = .ok (.goto (-60), 3) := by decide +kernel
theorem dX6_bestSlope_97 : decode cX6_bestSlope 97 = .ok (.iload_n 2, 1) := by decide +kernel
theorem dX6_bestSlope_98 : decode cX6_bestSlope 98 = .ok (.ireturn, 1) := by decide +kernel
theorem dX6_allReach_0 : decode cX6_allReach 0 = .ok (.iconst 1, 1) := by decide +kernel
theorem dX6_allReach_1 : decode cX6_allReach 1 = .ok (.aload_n 0, 1) := by decide +kernel
theorem dX6_allReach_2 : decode cX6_allReach 2 = .ok (.getfield 19, 3) := by decide +kernel
theorem dX6_allReach_5 : decode cX6_allReach 5 = .ok (.iconst 0, 1) := by decide +kernel
theorem dX6_allReach_6 : decode cX6_allReach 6 = .ok (.iaload, 1) := by decide +kernel
theorem dX6_allReach_7 : decode cX6_allReach 7 = .ok (.ishl, 1) := by decide +kernel
theorem dX6_allReach_8 : decode cX6_allReach 8 = .ok (.iconst 1, 1) := by decide +kernel
theorem dX6_allReach_9 : decode cX6_allReach 9 = .ok (.isub, 1) := by decide +kernel
theorem dX6_allReach_10 : decode cX6_allReach 10 = .ok (.istore_n 2, 1) := by decide +kernel
theorem dX6_allReach_11 : decode cX6_allReach 11 = .ok (.iconst 0, 1) := by decide +kernel
theorem dX6_allReach_12 : decode cX6_allReach 12 = .ok (.istore_n 3, 1) := by decide +kernel
theorem dX6_allReach_13 : decode cX6_allReach 13 = .ok (.iload_n 3, 1) := by decide +kernel
theorem dX6_allReach_14 : decode cX6_allReach 14 = .ok (.iload_n 1, 1) := by decide +kernel
theorem dX6_allReach_15 : decode cX6_allReach 15 = .ok (.if_icmp .gt 85, 3) := by decide +kernel
theorem dX6_allReach_18 : decode cX6_allReach 18 = .ok (.iload_n 3, 1) := by decide +kernel
theorem dX6_allReach_19 : decode cX6_allReach 19 = .ok (.ifCond .le 11, 3) := by decide +kernel
theorem dX6_allReach_22 : decode cX6_allReach 22 = .ok (.aload_n 0, 1) := by decide +kernel
theorem dX6_allReach_23 : decode cX6_allReach 23 = .ok (.getfield 19, 3) := by decide +kernel
theorem dX6_allReach_26 : decode cX6_allReach 26 = .ok (.invokestatic 113, 3) := by decide +kernel
theorem dX6_allReach_29 : decode cX6_allReach 29 = .ok (.pop, 1) := by decide +kernel
theorem dX6_allReach_30 : decode cX6_allReach 30 = .ok (.iconst 0, 1) := by decide +kernel
theorem dX6_allReach_31 : decode cX6_allReach 31 = .ok (.istore 4, 2) := by decide +kernel
theorem dX6_allReach_33 : decode cX6_allReach 33 = .ok (.iload 4, 2) := by decide +kernel
theorem dX6_allReach_35 : decode cX6_allReach 35 = .ok (.aload_n 0, 1) := by decide +kernel
theorem dX6_allReach_36 : decode cX6_allReach 36 = .ok (.getfield 19, 3) := by decide +kernel
theorem dX6_allReach_39 : decode cX6_allReach 39 = .ok (.iconst 0, 1) := by decide +kernel
theorem dX6_allReach_40 : decode cX6_allReach 40 = .ok (.iaload, 1) := by decide +kernel
theorem dX6_allReach_41 : decode cX6_allReach 41 = .ok (.if_icmp .ge 47, 3) := by decide +kernel
theorem dX6_allReach_44 : decode cX6_allReach 44 = .ok (.iload_n 2, 1) := by decide +kernel
theorem dX6_allReach_45 : decode cX6_allReach 45 = .ok (.aload_n 0, 1) := by decide +kernel
theorem dX6_allReach_46 : decode cX6_allReach 46 = .ok (.getfield 19, 3) := by decide +kernel
theorem dX6_allReach_49 : decode cX6_allReach 49 = .ok (.iconst 2, 1) := by decide +kernel
theorem dX6_allReach_50 : decode cX6_allReach 50 = .ok (.iload 4, 2) := by decide +kernel
theorem dX6_allReach_52 : decode cX6_allReach 52 = .ok (.iadd, 1) := by decide +kernel
theorem dX6_allReach_53 : decode cX6_allReach 53 = .ok (.invokestatic 73, 3) := by decide +kernel
theorem dX6_allReach_56 : decode cX6_allReach 56 = .ok (.aload_n 0, 1) := by decide +kernel
theorem dX6_allReach_57 : decode cX6_allReach 57 = .ok (.getfield 19, 3) := by decide +kernel
theorem dX6_allReach_60 : decode cX6_allReach 60 = .ok (.iload 4, 2) := by decide +kernel
theorem dX6_allReach_62 : decode cX6_allReach 62 = .ok (.iconst 1, 1) := by decide +kernel
theorem dX6_allReach_63 : decode cX6_allReach 63 = .ok (.invokestatic 53, 3) := by decide +kernel
theorem dX6_allReach_66 : decode cX6_allReach 66 = .ok (.iaload, 1) := by decide +kernel
theorem dX6_allReach_67 : decode cX6_allReach 67 = .ok (.if_icmp .lt 12, 3) := by decide +kernel
theorem dX6_allReach_70 : decode cX6_allReach 70 = .ok (.iconst 1, 1) := by decide +kernel
theorem dX6_allReach_71 : decode cX6_allReach 71 = .ok (.iload 4, 2) := by decide +kernel
theorem dX6_allReach_73 : decode cX6_allReach 73 = .ok (.ishl, 1) := by decide +kernel
theorem dX6_allReach_74 : decode cX6_allReach 74 = .ok (.iconst (-1), 1) := by decide +kernel
theorem dX6_allReach_75 : decode cX6_allReach 75 = .ok (.ixor, 1) := by decide +kernel
theorem dX6_allReach_76 : decode cX6_allReach 76 = .ok (.goto 4, 3) := by decide +kernel
theorem dX6_allReach_79 : decode cX6_allReach 79 = .ok (.iconst (-1), 1) := by decide +kernel
theorem dX6_allReach_80 : decode cX6_allReach 80 = .ok (.iand, 1) := by decide +kernel
theorem dX6_allReach_81 : decode cX6_allReach 81 = .ok (.istore_n 2, 1) := by decide +kernel
theorem dX6_allReach_82 : decode cX6_allReach 82 = .ok (.iinc 4 1, 3) := by decide +kernel
theorem dX6_allReach_85 : decode cX6_allReach 85 = .ok (.goto (-52), 3) := by decide +kernel
theorem dX6_allReach_88 : decode cX6_allReach 88 = .ok (.iload_n 2, 1) := by decide +kernel
theorem dX6_allReach_89 : decode cX6_allReach 89 = .ok (.ifCond .ne 5, 3) := by decide +kernel
theorem dX6_allReach_92 : decode cX6_allReach 92 = .ok (.iconst 1, 1) := by decide +kernel
theorem dX6_allReach_93 : decode cX6_allReach 93 = .ok (.ireturn, 1) := by decide +kernel
theorem dX6_allReach_94 : decode cX6_allReach 94 = .ok (.iinc 3 1, 3) := by decide +kernel
theorem dX6_allReach_97 : decode cX6_allReach 97 = .ok (.goto (-84), 3) := by decide +kernel
theorem dX6_allReach_100 : decode cX6_allReach 100 = .ok (.iconst 0, 1) := by decide +kernel
theorem dX6_allReach_101 : decode cX6_allReach 101 = .ok (.ireturn, 1) := by decide +kernel
theorem dX6_leastPower_0 : decode cX6_leastPower 0 = .ok (.aload_n 0, 1) := by decide +kernel
theorem dX6_leastPower_1 : decode cX6_leastPower 1 = .ok (.iload_n 1, 1) := by decide +kernel
theorem dX6_leastPower_2 : decode cX6_leastPower 2 = .ok (.invokestatic 217, 3) := by decide +kernel
theorem dX6_leastPower_5 : decode cX6_leastPower 5 = .ok (.ifCond .eq 7, 3) := by decide +kernel
theorem dX6_leastPower_8 : decode cX6_leastPower 8 = .ok (.iconst 0, 1) := by decide +kernel
theorem dX6_leastPower_9 : decode cX6_leastPower 9 = .ok (.goto 4, 3) := by decide +kernel
theorem dX6_leastPower_12 : decode cX6_leastPower 12 = .ok (.iconst 1, 1) := by decide +kernel
theorem dX6_leastPower_13 : decode cX6_leastPower 13 = .ok (.invokevirtual 121, 3) := by decide +kernel
theorem dX6_leastPower_16 : decode cX6_leastPower 16 = .ok (.ifCond .eq 5, 3) := by decide +kernel
theorem dX6_leastPower_19 : decode cX6_leastPower 19 = .ok (.iconst 0, 1) := by decide +kernel
theorem dX6_leastPower_20 : decode cX6_leastPower 20 = .ok (.ireturn, 1) := by decide +kernel
theorem dX6_leastPower_21 : decode cX6_leastPower 21 = .ok (.iconst 0, 1) := by decide +kernel
theorem dX6_leastPower_22 : decode cX6_leastPower 22 = .ok (.istore_n 2, 1) := by decide +kernel
theorem dX6_leastPower_23 : decode cX6_leastPower 23 = .ok (.iload_n 2, 1) := by decide +kernel
theorem dX6_leastPower_24 : decode cX6_leastPower 24 = .ok (.sipush 200, 3) := by decide +kernel
theorem dX6_leastPower_27 : decode cX6_leastPower 27 = .ok (.if_icmp .gt 31, 3) := by decide +kernel
theorem dX6_leastPower_30 : decode cX6_leastPower 30 = .ok (.aload_n 0, 1) := by decide +kernel
theorem dX6_leastPower_31 : decode cX6_leastPower 31 = .ok (.invokevirtual 220, 3) := by decide +kernel
theorem dX6_leastPower_34 : decode cX6_leastPower 34 = .ok (.aload_n 0, 1) := by decide +kernel
theorem dX6_leastPower_35 : decode cX6_leastPower 35 = .ok (.getfield 19, 3) := by decide +kernel
theorem dX6_leastPower_38 : decode cX6_leastPower 38 = .ok (.bipush 9, 2) := by decide +kernel
theorem dX6_leastPower_40 : decode cX6_leastPower 40 = .ok (.iload_n 2, 1) := by decide +kernel
theorem dX6_leastPower_41 : decode cX6_leastPower 41 = .ok (.iastore, 1) := by decide +kernel
theorem dX6_leastPower_42 : decode cX6_leastPower 42 = .ok (.aload_n 0, 1) := by decide +kernel
theorem dX6_leastPower_43 : decode cX6_leastPower 43 = .ok (.iload_n 1, 1) := by decide +kernel
theorem dX6_leastPower_44 : decode cX6_leastPower 44 = .ok (.invokevirtual 223, 3) := by decide +kernel
theorem dX6_leastPower_47 : decode cX6_leastPower 47 = .ok (.ifCond .eq 5, 3) := by decide +kernel
theorem dX6_leastPower_50 : decode cX6_leastPower 50 = .ok (.iload_n 2, 1) := by decide +kernel
theorem dX6_leastPower_51 : decode cX6_leastPower 51 = .ok (.ireturn, 1) := by decide +kernel
theorem dX6_leastPower_52 : decode cX6_leastPower 52 = .ok (.iinc 2 10, 3) := by decide +kernel
theorem dX6_leastPower_55 : decode cX6_leastPower 55 = .ok (.goto (-32), 3) := by decide +kernel
theorem dX6_leastPower_58 : decode cX6_leastPower 58 = .ok (.ldc 64, 2) := by decide +kernel
theorem dX6_leastPower_60 : decode cX6_leastPower 60 = .ok (.ireturn, 1) := by decide +kernel
theorem dX6_heatFor_0 : decode cX6_heatFor 0 = .ok (.aload_n 0, 1) := by decide +kernel
theorem dX6_heatFor_1 : decode cX6_heatFor 1 = .ok (.iload_n 1, 1) := by decide +kernel
theorem dX6_heatFor_2 : decode cX6_heatFor 2 = .ok (.invokestatic 217, 3) := by decide +kernel
theorem dX6_heatFor_5 : decode cX6_heatFor 5 = .ok (.ifCond .eq 7, 3) := by decide +kernel
theorem dX6_heatFor_8 : decode cX6_heatFor 8 = .ok (.iconst 0, 1) := by decide +kernel
theorem dX6_heatFor_9 : decode cX6_heatFor 9 = .ok (.goto 4, 3) := by decide +kernel
theorem dX6_heatFor_12 : decode cX6_heatFor 12 = .ok (.iconst 1, 1) := by decide +kernel
theorem dX6_heatFor_13 : decode cX6_heatFor 13 = .ok (.invokevirtual 121, 3) := by decide +kernel
theorem dX6_heatFor_16 : decode cX6_heatFor 16 = .ok (.ifCond .eq 5, 3) := by decide +kernel
theorem dX6_heatFor_19 : decode cX6_heatFor 19 = .ok (.iconst 0, 1) := by decide +kernel
theorem dX6_heatFor_20 : decode cX6_heatFor 20 = .ok (.ireturn, 1) := by decide +kernel
theorem dX6_heatFor_21 : decode cX6_heatFor 21 = .ok (.aload_n 0, 1) := by decide +kernel
theorem dX6_heatFor_22 : decode cX6_heatFor 22 = .ok (.invokevirtual 220, 3) := by decide +kernel
theorem dX6_heatFor_25 : decode cX6_heatFor 25 = .ok (.aload_n 0, 1) := by decide +kernel
theorem dX6_heatFor_26 : decode cX6_heatFor 26 = .ok (.getfield 19, 3) := by decide +kernel
theorem dX6_heatFor_29 : decode cX6_heatFor 29 = .ok (.iload_n 1, 1) := by decide +kernel
theorem dX6_heatFor_30 : decode cX6_heatFor 30 = .ok (.invokestatic 212, 3) := by decide +kernel
theorem dX6_heatFor_33 : decode cX6_heatFor 33 = .ok (.pop, 1) := by decide +kernel
theorem dX6_heatFor_34 : decode cX6_heatFor 34 = .ok (.aload_n 0, 1) := by decide +kernel
theorem dX6_heatFor_35 : decode cX6_heatFor 35 = .ok (.getfield 19, 3) := by decide +kernel
theorem dX6_heatFor_38 : decode cX6_heatFor 38 = .ok (.bipush 9, 2) := by decide +kernel
theorem dX6_heatFor_40 : decode cX6_heatFor 40 = .ok (.iconst 0, 1) := by decide +kernel
theorem dX6_heatFor_41 : decode cX6_heatFor 41 = .ok (.invokestatic 191, 3) := by decide +kernel
theorem dX6_heatFor_44 : decode cX6_heatFor 44 = .ok (.aload_n 0, 1) := by decide +kernel
theorem dX6_heatFor_45 : decode cX6_heatFor 45 = .ok (.getfield 16, 3) := by decide +kernel
theorem dX6_heatFor_48 : decode cX6_heatFor 48 = .ok (.bipush 9, 2) := by decide +kernel
theorem dX6_heatFor_50 : decode cX6_heatFor 50 = .ok (.iconst 0, 1) := by decide +kernel
theorem dX6_heatFor_51 : decode cX6_heatFor 51 = .ok (.invokestatic 191, 3) := by decide +kernel
theorem dX6_heatFor_54 : decode cX6_heatFor 54 = .ok (.isub, 1) := by decide +kernel
theorem dX6_heatFor_55 : decode cX6_heatFor 55 = .ok (.ireturn, 1) := by decide +kernel
theorem dX6_does_0 : decode cX6_does 0 = .ok (.iload_n 1, 1) := by decide +kernel
theorem dX6_does_1 : decode cX6_does 1 = .ok (.sipush 1000, 3) := by decide +kernel
theorem dX6_does_4 : decode cX6_does 4 = .ok (.idiv, 1) := by decide +kernel
theorem dX6_does_5 : decode cX6_does 5 = .ok (.istore_n 2, 1) := by decide +kernel
theorem dX6_does_6 : decode cX6_does 6 = .ok (.iload_n 1, 1) := by decide +kernel
theorem dX6_does_7 : decode cX6_does 7 = .ok (.bipush 100, 2) := by decide +kernel
theorem dX6_does_9 : decode cX6_does 9 = .ok (.idiv, 1) := by decide +kernel
theorem dX6_does_10 : decode cX6_does 10 = .ok (.bipush 10, 2) := by decide +kernel
theorem dX6_does_12 : decode cX6_does 12 = .ok (.irem, 1) := by decide +kernel
theorem dX6_does_13 : decode cX6_does 13 = .ok (.istore_n 3, 1) := by decide +kernel
theorem dX6_does_14 : decode cX6_does 14 = .ok (.iload_n 1, 1) := by decide +kernel
theorem dX6_does_15 : decode cX6_does 15 = .ok (.bipush 10, 2) := by decide +kernel
theorem dX6_does_17 : decode cX6_does 17 = .ok (.idiv, 1) := by decide +kernel
theorem dX6_does_18 : decode cX6_does 18 = .ok (.bipush 10, 2) := by decide +kernel
theorem dX6_does_20 : decode cX6_does 20 = .ok (.irem, 1) := by decide +kernel
theorem dX6_does_21 : decode cX6_does 21 = .ok (.istore 4, 2) := by decide +kernel
theorem dX6_does_23 : decode cX6_does 23 = .ok (.iload_n 1, 1) := by decide +kernel
theorem dX6_does_24 : decode cX6_does 24 = .ok (.bipush 10, 2) := by decide +kernel
theorem dX6_does_26 : decode cX6_does 26 = .ok (.irem, 1) := by decide +kernel
theorem dX6_does_27 : decode cX6_does 27 = .ok (.istore 5, 2) := by decide +kernel
theorem dX6_does_29 : decode cX6_does 29 = .ok (.bipush 10, 2) := by decide +kernel
theorem dX6_does_31 : decode cX6_does 31 = .ok (.iload 4, 2) := by decide +kernel
theorem dX6_does_33 : decode cX6_does 33 = .ok (.imul, 1) := by decide +kernel
theorem dX6_does_34 : decode cX6_does 34 = .ok (.iload 5, 2) := by decide +kernel
theorem dX6_does_36 : decode cX6_does 36 = .ok (.iadd, 1) := by decide +kernel
theorem dX6_does_37 : decode cX6_does 37 = .ok (.istore 6, 2) := by decide +kernel
theorem dX6_does_39 : decode cX6_does 39 = .ok (.iload_n 2, 1) := by decide +kernel
theorem dX6_does_40 : decode cX6_does 40 = .ok (.tableswitch 337 1 9 #[52, 83, 130, 154, 189, 228, 255, 276, 305], 52) := by decide +kernel
theorem dX6_does_92 : decode cX6_does 92 = .ok (.iload_n 3, 1) := by decide +kernel
theorem dX6_does_93 : decode cX6_does 93 = .ok (.ifCond .ne 16, 3) := by decide +kernel
theorem dX6_does_96 : decode cX6_does 96 = .ok (.iload 6, 2) := by decide +kernel
theorem dX6_does_98 : decode cX6_does 98 = .ok (.i2l, 1) := by decide +kernel
theorem dX6_does_99 : decode cX6_does 99 = .ok (.lconst 1, 1) := by decide +kernel
theorem dX6_does_100 : decode cX6_does 100 = .ok (.ldc2_w 210, 3) := by decide +kernel
theorem dX6_does_103 : decode cX6_does 103 = .ok (.invokestatic 49, 3) := by decide +kernel
theorem dX6_does_106 : decode cX6_does 106 = .ok (.ifCond .ne 5, 3) := by decide +kernel
theorem dX6_does_109 : decode cX6_does 109 = .ok (.iconst 0, 1) := by decide +kernel
theorem dX6_does_110 : decode cX6_does 110 = .ok (.ireturn, 1) := by decide +kernel
theorem dX6_does_111 : decode cX6_does 111 = .ok (.aload_n 0, 1) := by decide +kernel
theorem dX6_does_112 : decode cX6_does 112 = .ok (.getfield 19, 3) := by decide +kernel
theorem dX6_does_115 : decode cX6_does 115 = .ok (.iload 6, 2) := by decide +kernel
theorem dX6_does_117 : decode cX6_does 117 = .ok (.invokestatic 212, 3) := by decide +kernel
theorem dX6_does_120 : decode cX6_does 120 = .ok (.pop, 1) := by decide +kernel
theorem dX6_does_121 : decode cX6_does 121 = .ok (.iconst 1, 1) := by decide +kernel
theorem dX6_does_122 : decode cX6_does 122 = .ok (.ireturn, 1) := by decide +kernel
theorem dX6_does_123 : decode cX6_does 123 = .ok (.iload_n 3, 1) := by decide +kernel
theorem dX6_does_124 : decode cX6_does 124 = .ok (.iconst 1, 1) := by decide +kernel
theorem dX6_does_125 : decode cX6_does 125 = .ok (.if_icmp .gt 22, 3) := by decide +kernel
theorem dX6_does_128 : decode cX6_does 128 = .ok (.iload_n 3, 1) := by decide +kernel
theorem dX6_does_129 : decode cX6_does 129 = .ok (.iconst 1, 1) := by decide +kernel
theorem dX6_does_130 : decode cX6_does 130 = .ok (.if_icmp .ne 9, 3) := by decide +kernel
theorem dX6_does_133 : decode cX6_does 133 = .ok (.iload 6, 2) := by decide +kernel
theorem dX6_does_135 : decode cX6_does 135 = .ok (.ineg, 1) := by decide +kernel
theorem dX6_does_136 : decode cX6_does 136 = .ok (.goto 5, 3) := by decide +kernel
theorem dX6_does_139 : decode cX6_does 139 = .ok (.iload 6, 2) := by decide +kernel
theorem dX6_does_141 : decode cX6_does 141 = .ok (.invokestatic 207, 3) := by decide +kernel
theorem dX6_does_144 : decode cX6_does 144 = .ok (.ifCond .ne 5, 3) := by decide +kernel
theorem dX6_does_147 : decode cX6_does 147 = .ok (.iconst 0, 1) := by decide +kernel
theorem dX6_does_148 : decode cX6_does 148 = .ok (.ireturn, 1) := by decide +kernel
theorem dX6_does_149 : decode cX6_does 149 = .ok (.aload_n 0, 1) := by decide +kernel
theorem dX6_does_150 : decode cX6_does 150 = .ok (.getfield 19, 3) := by decide +kernel
theorem dX6_does_153 : decode cX6_does 153 = .ok (.iconst 2, 1) := by decide +kernel
theorem dX6_does_154 : decode cX6_does 154 = .ok (.iload_n 3, 1) := by decide +kernel
theorem dX6_does_155 : decode cX6_does 155 = .ok (.iconst 1, 1) := by decide +kernel
theorem dX6_does_156 : decode cX6_does 156 = .ok (.if_icmp .ne 9, 3) := by decide +kernel
theorem dX6_does_159 : decode cX6_does 159 = .ok (.iload 6, 2) := by decide +kernel
theorem dX6_does_161 : decode cX6_does 161 = .ok (.ineg, 1) := by decide +kernel
theorem dX6_does_162 : decode cX6_does 162 = .ok (.goto 5, 3) := by decide +kernel
theorem dX6_does_165 : decode cX6_does 165 = .ok (.iload 6, 2) := by decide +kernel
theorem dX6_does_167 : decode cX6_does 167 = .ok (.iastore, 1) := by decide +kernel
theorem dX6_does_168 : decode cX6_does 168 = .ok (.iconst 1, 1) := by decide +kernel
theorem dX6_does_169 : decode cX6_does 169 = .ok (.ireturn, 1) := by decide +kernel
theorem dX6_does_170 : decode cX6_does 170 = .ok (.iload_n 3, 1) := by decide +kernel
theorem dX6_does_171 : decode cX6_does 171 = .ok (.iload 6, 2) := by decide +kernel
theorem dX6_does_173 : decode cX6_does 173 = .ok (.invokestatic 199, 3) := by decide +kernel
theorem dX6_does_176 : decode cX6_does 176 = .ok (.ifCond .ne 5, 3) := by decide +kernel
theorem dX6_does_179 : decode cX6_does 179 = .ok (.iconst 0, 1) := by decide +kernel
theorem dX6_does_180 : decode cX6_does 180 = .ok (.ireturn, 1) := by decide +kernel
theorem dX6_does_181 : decode cX6_does 181 = .ok (.aload_n 0, 1) := by decide +kernel
theorem dX6_does_182 : decode cX6_does 182 = .ok (.getfield 19, 3) := by decide +kernel
theorem dX6_does_185 : decode cX6_does 185 = .ok (.bipush 9, 2) := by decide +kernel
theorem dX6_does_187 : decode cX6_does 187 = .ok (.iload_n 3, 1) := by decide +kernel
theorem dX6_does_188 : decode cX6_does 188 = .ok (.iadd, 1) := by decide +kernel
theorem dX6_does_189 : decode cX6_does 189 = .ok (.iload 6, 2) := by decide +kernel
theorem dX6_does_191 : decode cX6_does 191 = .ok (.iastore, 1) := by decide +kernel
theorem dX6_does_192 : decode cX6_does 192 = .ok (.iconst 1, 1) := by decide +kernel
theorem dX6_does_193 : decode cX6_does 193 = .ok (.ireturn, 1) := by decide +kernel
theorem dX6_does_194 : decode cX6_does 194 = .ok (.aload_n 0, 1) := by decide +kernel
theorem dX6_does_195 : decode cX6_does 195 = .ok (.iload_n 3, 1) := by decide +kernel
theorem dX6_does_196 : decode cX6_does 196 = .ok (.invokevirtual 186, 3) := by decide +kernel
theorem dX6_does_199 : decode cX6_does 199 = .ok (.ifCond .eq 14, 3) := by decide +kernel
theorem dX6_does_202 : decode cX6_does 202 = .ok (.iload 4, 2) := by decide +kernel
theorem dX6_does_204 : decode cX6_does 204 = .ok (.ifCond .ne 9, 3) := by decide +kernel
theorem dX6_does_207 : decode cX6_does 207 = .ok (.iload 5, 2) := by decide +kernel
theorem dX6_does_209 : decode cX6_does 209 = .ok (.iconst 1, 1) := by decide +kernel
theorem dX6_does_210 : decode cX6_does 210 = .ok (.if_icmp .le 5, 3) := by decide +kernel
theorem dX6_does_213 : decode cX6_does 213 = .ok (.iconst 0, 1) := by decide +kernel
theorem dX6_does_214 : decode cX6_does 214 = .ok (.ireturn, 1) := by decide +kernel
theorem dX6_does_215 : decode cX6_does 215 = .ok (.aload_n 0, 1) := by decide +kernel
theorem dX6_does_216 : decode cX6_does 216 = .ok (.getfield 19, 3) := by decide +kernel
theorem dX6_does_219 : decode cX6_does 219 = .ok (.iload_n 3, 1) := by decide +kernel
theorem dX6_does_220 : decode cX6_does 220 = .ok (.iconst 4, 1) := by decide +kernel
theorem dX6_does_221 : decode cX6_does 221 = .ok (.invokestatic 53, 3) := by decide +kernel
theorem dX6_does_224 : decode cX6_does 224 = .ok (.iload 5, 2) := by decide +kernel
theorem dX6_does_226 : decode cX6_does 226 = .ok (.iastore, 1) := by decide +kernel
theorem dX6_does_227 : decode cX6_does 227 = .ok (.iconst 1, 1) := by decide +kernel
theorem dX6_does_228 : decode cX6_does 228 = .ok (.ireturn, 1) := by decide +kernel
theorem dX6_does_229 : decode cX6_does 229 = .ok (.aload_n 0, 1) := by decide +kernel
theorem dX6_does_230 : decode cX6_does 230 = .ok (.iload_n 3, 1) := by decide +kernel
theorem dX6_does_231 : decode cX6_does 231 = .ok (.invokevirtual 186, 3) := by decide +kernel
theorem dX6_does_234 : decode cX6_does 234 = .ok (.ifCond .eq 18, 3) := by decide +kernel
theorem dX6_does_237 : decode cX6_does 237 = .ok (.iload 6, 2) := by decide +kernel
theorem dX6_does_239 : decode cX6_does 239 = .ok (.i2l, 1) := by decide +kernel
theorem dX6_does_240 : decode cX6_does 240 = .ok (.ldc2_w 40, 3) := by decide +kernel
theorem dX6_does_243 : decode cX6_does 243 = .ok (.ldc2_w 194, 3) := by decide +kernel
theorem dX6_does_246 : decode cX6_does 246 = .ok (.invokestatic 49, 3) := by decide +kernel
theorem dX6_does_249 : decode cX6_does 249 = .ok (.ifCond .ne 5, 3) := by decide +kernel
theorem dX6_does_252 : decode cX6_does 252 = .ok (.iconst 0, 1) := by decide +kernel
theorem dX6_does_253 : decode cX6_does 253 = .ok (.ireturn, 1) := by decide +kernel
theorem dX6_does_254 : decode cX6_does 254 = .ok (.aload_n 0, 1) := by decide +kernel
theorem dX6_does_255 : decode cX6_does 255 = .ok (.getfield 19, 3) := by decide +kernel
theorem dX6_does_258 : decode cX6_does 258 = .ok (.iload_n 3, 1) := by decide +kernel
theorem dX6_does_259 : decode cX6_does 259 = .ok (.iconst 1, 1) := by decide +kernel
theorem dX6_does_260 : decode cX6_does 260 = .ok (.invokestatic 53, 3) := by decide +kernel
theorem dX6_does_263 : decode cX6_does 263 = .ok (.iload 6, 2) := by decide +kernel
theorem dX6_does_265 : decode cX6_does 265 = .ok (.iastore, 1) := by decide +kernel
theorem dX6_does_266 : decode cX6_does 266 = .ok (.iconst 1, 1) := by decide +kernel
theorem dX6_does_267 : decode cX6_does 267 = .ok (.ireturn, 1) := by decide +kernel
theorem dX6_does_268 : decode cX6_does 268 = .ok (.aload_n 0, 1) := by decide +kernel
theorem dX6_does_269 : decode cX6_does 269 = .ok (.iload_n 3, 1) := by decide +kernel
theorem dX6_does_270 : decode cX6_does 270 = .ok (.invokevirtual 181, 3) := by decide +kernel
theorem dX6_does_273 : decode cX6_does 273 = .ok (.ifCond .eq 20, 3) := by decide +kernel
theorem dX6_does_276 : decode cX6_does 276 = .ok (.aload_n 0, 1) := by decide +kernel
theorem dX6_does_277 : decode cX6_does 277 = .ok (.getfield 19, 3) := by decide +kernel
theorem dX6_does_280 : decode cX6_does 280 = .ok (.iload_n 3, 1) := by decide +kernel
theorem dX6_does_281 : decode cX6_does 281 = .ok (.invokestatic 73, 3) := by decide +kernel
theorem dX6_does_284 : decode cX6_does 284 = .ok (.iload 6, 2) := by decide +kernel
theorem dX6_does_286 : decode cX6_does 286 = .ok (.if_icmp .lt 7, 3) := by decide +kernel
theorem dX6_does_289 : decode cX6_does 289 = .ok (.iconst 1, 1) := by decide +kernel
theorem dX6_does_290 : decode cX6_does 290 = .ok (.goto 4, 3) := by decide +kernel
theorem dX6_does_293 : decode cX6_does 293 = .ok (.iconst 0, 1) := by decide +kernel
theorem dX6_does_294 : decode cX6_does 294 = .ok (.ireturn, 1) := by decide +kernel
theorem dX6_does_295 : decode cX6_does 295 = .ok (.iload_n 3, 1) := by decide +kernel
theorem dX6_does_296 : decode cX6_does 296 = .ok (.ifCond .ne 18, 3) := by decide +kernel
theorem dX6_does_299 : decode cX6_does 299 = .ok (.aload_n 0, 1) := by decide +kernel
theorem dX6_does_300 : decode cX6_does 300 = .ok (.getfield 19, 3) := by decide +kernel
theorem dX6_does_303 : decode cX6_does 303 = .ok (.iconst 5, 1) := by decide +kernel
theorem dX6_does_304 : decode cX6_does 304 = .ok (.iaload, 1) := by decide +kernel
theorem dX6_does_305 : decode cX6_does 305 = .ok (.iload 6, 2) := by decide +kernel
theorem dX6_does_307 : decode cX6_does 307 = .ok (.if_icmp .lt 7, 3) := by decide +kernel
theorem dX6_does_310 : decode cX6_does 310 = .ok (.iconst 1, 1) := by decide +kernel
theorem dX6_does_311 : decode cX6_does 311 = .ok (.goto 4, 3) := by decide +kernel
theorem dX6_does_314 : decode cX6_does 314 = .ok (.iconst 0, 1) := by decide +kernel
theorem dX6_does_315 : decode cX6_does 315 = .ok (.ireturn, 1) := by decide +kernel
theorem dX6_does_316 : decode cX6_does 316 = .ok (.aload_n 0, 1) := by decide +kernel
theorem dX6_does_317 : decode cX6_does 317 = .ok (.iload_n 3, 1) := by decide +kernel
theorem dX6_does_318 : decode cX6_does 318 = .ok (.invokevirtual 186, 3) := by decide +kernel
theorem dX6_does_321 : decode cX6_does 321 = .ok (.ifCond .eq 22, 3) := by decide +kernel
theorem dX6_does_324 : decode cX6_does 324 = .ok (.aload_n 0, 1) := by decide +kernel
theorem dX6_does_325 : decode cX6_does 325 = .ok (.getfield 19, 3) := by decide +kernel
theorem dX6_does_328 : decode cX6_does 328 = .ok (.iload_n 3, 1) := by decide +kernel
theorem dX6_does_329 : decode cX6_does 329 = .ok (.iconst 5, 1) := by decide +kernel
theorem dX6_does_330 : decode cX6_does 330 = .ok (.invokestatic 53, 3) := by decide +kernel
theorem dX6_does_333 : decode cX6_does 333 = .ok (.iaload, 1) := by decide +kernel
theorem dX6_does_334 : decode cX6_does 334 = .ok (.iload 6, 2) := by decide +kernel
theorem dX6_does_336 : decode cX6_does 336 = .ok (.if_icmp .lt 7, 3) := by decide +kernel
theorem dX6_does_339 : decode cX6_does 339 = .ok (.iconst 1, 1) := by decide +kernel
theorem dX6_does_340 : decode cX6_does 340 = .ok (.goto 4, 3) := by decide +kernel
theorem dX6_does_343 : decode cX6_does 343 = .ok (.iconst 0, 1) := by decide +kernel
theorem dX6_does_344 : decode cX6_does 344 = .ok (.ireturn, 1) := by decide +kernel
theorem dX6_does_345 : decode cX6_does 345 = .ok (.iload_n 3, 1) := by decide +kernel
theorem dX6_does_346 : decode cX6_does 346 = .ok (.ifCond .ne 29, 3) := by decide +kernel
theorem dX6_does_349 : decode cX6_does 349 = .ok (.iload 4, 2) := by decide +kernel
theorem dX6_does_351 : decode cX6_does 351 = .ok (.ifCond .ne 24, 3) := by decide +kernel
theorem dX6_does_354 : decode cX6_does 354 = .ok (.iload 5, 2) := by decide +kernel
theorem dX6_does_356 : decode cX6_does 356 = .ok (.iconst 2, 1) := by decide +kernel
theorem dX6_does_357 : decode cX6_does 357 = .ok (.if_icmp .ge 18, 3) := by decide +kernel
theorem dX6_does_360 : decode cX6_does 360 = .ok (.aload_n 0, 1) := by decide +kernel
theorem dX6_does_361 : decode cX6_does 361 = .ok (.getfield 19, 3) := by decide +kernel
theorem dX6_does_364 : decode cX6_does 364 = .ok (.iconst 3, 1) := by decide +kernel
theorem dX6_does_365 : decode cX6_does 365 = .ok (.iaload, 1) := by decide +kernel
theorem dX6_does_366 : decode cX6_does 366 = .ok (.iload 5, 2) := by decide +kernel
theorem dX6_does_368 : decode cX6_does 368 = .ok (.if_icmp .ne 7, 3) := by decide +kernel
theorem dX6_does_371 : decode cX6_does 371 = .ok (.iconst 1, 1) := by decide +kernel
theorem dX6_does_372 : decode cX6_does 372 = .ok (.goto 4, 3) := by decide +kernel
theorem dX6_does_375 : decode cX6_does 375 = .ok (.iconst 0, 1) := by decide +kernel
theorem dX6_does_376 : decode cX6_does 376 = .ok (.ireturn, 1) := by decide +kernel
theorem dX6_does_377 : decode cX6_does 377 = .ok (.iconst 0, 1) := by decide +kernel
theorem dX6_does_378 : decode cX6_does 378 = .ok (.ireturn, 1) := by decide +kernel
theorem dX6_runScript_0 : decode cX6_runScript 0 = .ok (.iload_n 1, 1) := by decide +kernel
theorem dX6_runScript_1 : decode cX6_runScript 1 = .ok (.i2l, 1) := by decide +kernel
theorem dX6_runScript_2 : decode cX6_runScript 2 = .ok (.lconst 1, 1) := by decide +kernel
theorem dX6_runScript_3 : decode cX6_runScript 3 = .ok (.ldc2_w 226, 3) := by decide +kernel
theorem dX6_runScript_6 : decode cX6_runScript 6 = .ok (.invokestatic 49, 3) := by decide +kernel
theorem dX6_runScript_9 : decode cX6_runScript 9 = .ok (.istore 4, 2) := by decide +kernel
theorem dX6_runScript_11 : decode cX6_runScript 11 = .ok (.aload_n 0, 1) := by decide +kernel
theorem dX6_runScript_12 : decode cX6_runScript 12 = .ok (.iload 4, 2) := by decide +kernel
theorem dX6_runScript_14 : decode cX6_runScript 14 = .ok (.ifCond .eq 32, 3) := by decide +kernel
theorem dX6_runScript_17 : decode cX6_runScript 17 = .ok (.lload_n 2, 1) := by decide +kernel
theorem dX6_runScript_18 : decode cX6_runScript 18 = .ok (.lconst 0, 1) := by decide +kernel
theorem dX6_runScript_19 : decode cX6_runScript 19 = .ok (.iload 4, 2) := by decide +kernel
theorem dX6_runScript_21 : decode cX6_runScript 21 = .ok (.ifCond .eq 9, 3) := by decide +kernel
theorem dX6_runScript_24 : decode cX6_runScript 24 = .ok (.iconst 4, 1) := by decide +kernel
theorem dX6_runScript_25 : decode cX6_runScript 25 = .ok (.iload_n 1, 1) := by decide +kernel
theorem dX6_runScript_26 : decode cX6_runScript 26 = .ok (.imul, 1) := by decide +kernel
theorem dX6_runScript_27 : decode cX6_runScript 27 = .ok (.goto 4, 3) := by decide +kernel
theorem dX6_runScript_30 : decode cX6_runScript 30 = .ok (.iconst 0, 1) := by decide +kernel
theorem dX6_runScript_31 : decode cX6_runScript 31 = .ok (.invokestatic 228, 3) := by decide +kernel
theorem dX6_runScript_34 : decode cX6_runScript 34 = .ok (.lconst 1, 1) := by decide +kernel
theorem dX6_runScript_35 : decode cX6_runScript 35 = .ok (.lsub, 1) := by decide +kernel
theorem dX6_runScript_36 : decode cX6_runScript 36 = .ok (.invokestatic 49, 3) := by decide +kernel
theorem dX6_runScript_39 : decode cX6_runScript 39 = .ok (.ifCond .eq 7, 3) := by decide +kernel
theorem dX6_runScript_42 : decode cX6_runScript 42 = .ok (.iconst 0, 1) := by decide +kernel
theorem dX6_runScript_43 : decode cX6_runScript 43 = .ok (.goto 4, 3) := by decide +kernel
theorem dX6_runScript_46 : decode cX6_runScript 46 = .ok (.iconst 1, 1) := by decide +kernel
theorem dX6_runScript_47 : decode cX6_runScript 47 = .ok (.invokevirtual 121, 3) := by decide +kernel
theorem dX6_runScript_50 : decode cX6_runScript 50 = .ok (.ifCond .eq 5, 3) := by decide +kernel
theorem dX6_runScript_53 : decode cX6_runScript 53 = .ok (.iconst 0, 1) := by decide +kernel
theorem dX6_runScript_54 : decode cX6_runScript 54 = .ok (.ireturn, 1) := by decide +kernel
theorem dX6_runScript_55 : decode cX6_runScript 55 = .ok (.aload_n 0, 1) := by decide +kernel
theorem dX6_runScript_56 : decode cX6_runScript 56 = .ok (.invokevirtual 220, 3) := by decide +kernel
theorem dX6_runScript_59 : decode cX6_runScript 59 = .ok (.iconst 0, 1) := by decide +kernel
theorem dX6_runScript_60 : decode cX6_runScript 60 = .ok (.istore 5, 2) := by decide +kernel
theorem dX6_runScript_62 : decode cX6_runScript 62 = .ok (.iload 5, 2) := by decide +kernel
theorem dX6_runScript_64 : decode cX6_runScript 64 = .ok (.iload_n 1, 1) := by decide +kernel
theorem dX6_runScript_65 : decode cX6_runScript 65 = .ok (.if_icmp .ge 37, 3) := by decide +kernel
theorem dX6_runScript_68 : decode cX6_runScript 68 = .ok (.aload_n 0, 1) := by decide +kernel
theorem dX6_runScript_69 : decode cX6_runScript 69 = .ok (.lload_n 2, 1) := by decide +kernel
theorem dX6_runScript_70 : decode cX6_runScript 70 = .ok (.iconst 4, 1) := by decide +kernel
theorem dX6_runScript_71 : decode cX6_runScript 71 = .ok (.iload_n 1, 1) := by decide +kernel
theorem dX6_runScript_72 : decode cX6_runScript 72 = .ok (.iconst 1, 1) := by decide +kernel
theorem dX6_runScript_73 : decode cX6_runScript 73 = .ok (.isub, 1) := by decide +kernel
theorem dX6_runScript_74 : decode cX6_runScript 74 = .ok (.iload 5, 2) := by decide +kernel
theorem dX6_runScript_76 : decode cX6_runScript 76 = .ok (.isub, 1) := by decide +kernel
theorem dX6_runScript_77 : decode cX6_runScript 77 = .ok (.imul, 1) := by decide +kernel
theorem dX6_runScript_78 : decode cX6_runScript 78 = .ok (.invokestatic 228, 3) := by decide +kernel
theorem dX6_runScript_81 : decode cX6_runScript 81 = .ok (.ldiv, 1) := by decide +kernel
theorem dX6_runScript_82 : decode cX6_runScript 82 = .ok (.ldc2_w 232, 3) := by decide +kernel
theorem dX6_runScript_85 : decode cX6_runScript 85 = .ok (.lrem, 1) := by decide +kernel
theorem dX6_runScript_86 : decode cX6_runScript 86 = .ok (.l2i, 1) := by decide +kernel
theorem dX6_runScript_87 : decode cX6_runScript 87 = .ok (.invokevirtual 234, 3) := by decide +kernel
theorem dX6_runScript_90 : decode cX6_runScript 90 = .ok (.ifCond .ne 6, 3) := by decide +kernel
theorem dX6_runScript_93 : decode cX6_runScript 93 = .ok (.iload 5, 2) := by decide +kernel
theorem dX6_runScript_95 : decode cX6_runScript 95 = .ok (.ireturn, 1) := by decide +kernel
theorem dX6_runScript_96 : decode cX6_runScript 96 = .ok (.iinc 5 1, 3) := by decide +kernel
theorem dX6_runScript_99 : decode cX6_runScript 99 = .ok (.goto (-37), 3) := by decide +kernel
theorem dX6_runScript_102 : decode cX6_runScript 102 = .ok (.ldc 64, 2) := by decide +kernel
theorem dX6_runScript_104 : decode cX6_runScript 104 = .ok (.ireturn, 1) := by decide +kernel
theorem dX6_simulate_0 : decode cX6_simulate 0 = .ok (.aload_n 0, 1) := by decide +kernel
theorem dX6_simulate_1 : decode cX6_simulate 1 = .ok (.iload_n 3, 1) := by decide +kernel
theorem dX6_simulate_2 : decode cX6_simulate 2 = .ok (.i2l, 1) := by decide +kernel
theorem dX6_simulate_3 : decode cX6_simulate 3 = .ok (.lconst 1, 1) := by decide +kernel
theorem dX6_simulate_4 : decode cX6_simulate 4 = .ok (.ldc2_w 210, 3) := by decide +kernel
theorem dX6_simulate_7 : decode cX6_simulate 7 = .ok (.invokestatic 49, 3) := by decide +kernel
theorem dX6_simulate_10 : decode cX6_simulate 10 = .ok (.ifCond .eq 7, 3) := by decide +kernel
theorem dX6_simulate_13 : decode cX6_simulate 13 = .ok (.iconst 0, 1) := by decide +kernel
theorem dX6_simulate_14 : decode cX6_simulate 14 = .ok (.goto 4, 3) := by decide +kernel
theorem dX6_simulate_17 : decode cX6_simulate 17 = .ok (.iconst 1, 1) := by decide +kernel
theorem dX6_simulate_18 : decode cX6_simulate 18 = .ok (.invokevirtual 121, 3) := by decide +kernel
theorem dX6_simulate_21 : decode cX6_simulate 21 = .ok (.ifCond .eq 5, 3) := by decide +kernel
theorem dX6_simulate_24 : decode cX6_simulate 24 = .ok (.lconst 0, 1) := by decide +kernel
theorem dX6_simulate_25 : decode cX6_simulate 25 = .ok (.lreturn, 1) := by decide +kernel
theorem dX6_simulate_26 : decode cX6_simulate 26 = .ok (.aload_n 0, 1) := by decide +kernel
theorem dX6_simulate_27 : decode cX6_simulate 27 = .ok (.invokevirtual 220, 3) := by decide +kernel
theorem dX6_simulate_30 : decode cX6_simulate 30 = .ok (.lload_n 1, 1) := by decide +kernel
theorem dX6_simulate_31 : decode cX6_simulate 31 = .ok (.lstore 4, 2) := by decide +kernel
theorem dX6_simulate_33 : decode cX6_simulate 33 = .ok (.lconst 0, 1) := by decide +kernel
theorem dX6_simulate_34 : decode cX6_simulate 34 = .ok (.lstore 6, 2) := by decide +kernel
theorem dX6_simulate_36 : decode cX6_simulate 36 = .ok (.iconst 0, 1) := by decide +kernel
theorem dX6_simulate_37 : decode cX6_simulate 37 = .ok (.istore 8, 2) := by decide +kernel
theorem dX6_simulate_39 : decode cX6_simulate 39 = .ok (.iload 8, 2) := by decide +kernel
theorem dX6_simulate_41 : decode cX6_simulate 41 = .ok (.iload_n 3, 1) := by decide +kernel
theorem dX6_simulate_42 : decode cX6_simulate 42 = .ok (.if_icmp .ge 104, 3) := by decide +kernel
theorem dX6_simulate_45 : decode cX6_simulate 45 = .ok (.lload 4, 2) := by decide +kernel
theorem dX6_simulate_47 : decode cX6_simulate 47 = .ok (.ldc2_w 237, 3) := by decide +kernel
theorem dX6_simulate_50 : decode cX6_simulate 50 = .ok (.lmul, 1) := by decide +kernel
theorem dX6_simulate_51 : decode cX6_simulate 51 = .ok (.ldc2_w 239, 3) := by decide +kernel
theorem dX6_simulate_54 : decode cX6_simulate 54 = .ok (.ladd, 1) := by decide +kernel
theorem dX6_simulate_55 : decode cX6_simulate 55 = .ok (.lstore 4, 2) := by decide +kernel
theorem dX6_simulate_57 : decode cX6_simulate 57 = .ok (.lload 4, 2) := by decide +kernel
theorem dX6_simulate_59 : decode cX6_simulate 59 = .ok (.bipush 33, 2) := by decide +kernel
theorem dX6_simulate_61 : decode cX6_simulate 61 = .ok (.lushr, 1) := by decide +kernel
theorem dX6_simulate_62 : decode cX6_simulate 62 = .ok (.l2i, 1) := by decide +kernel
theorem dX6_simulate_63 : decode cX6_simulate 63 = .ok (.istore 9, 2) := by decide +kernel
theorem dX6_simulate_65 : decode cX6_simulate 65 = .ok (.aload_n 0, 1) := by decide +kernel
theorem dX6_simulate_66 : decode cX6_simulate 66 = .ok (.getfield 19, 3) := by decide +kernel
theorem dX6_simulate_69 : decode cX6_simulate 69 = .ok (.iconst 2, 1) := by decide +kernel
theorem dX6_simulate_70 : decode cX6_simulate 70 = .ok (.iload 9, 2) := by decide +kernel
theorem dX6_simulate_72 : decode cX6_simulate 72 = .ok (.bipush 61, 2) := by decide +kernel
theorem dX6_simulate_74 : decode cX6_simulate 74 = .ok (.irem, 1) := by decide +kernel
theorem dX6_simulate_75 : decode cX6_simulate 75 = .ok (.bipush 20, 2) := by decide +kernel
theorem dX6_simulate_77 : decode cX6_simulate 77 = .ok (.isub, 1) := by decide +kernel
theorem dX6_simulate_78 : decode cX6_simulate 78 = .ok (.iastore, 1) := by decide +kernel
theorem dX6_simulate_79 : decode cX6_simulate 79 = .ok (.aload_n 0, 1) := by decide +kernel
theorem dX6_simulate_80 : decode cX6_simulate 80 = .ok (.getfield 19, 3) := by decide +kernel
theorem dX6_simulate_83 : decode cX6_simulate 83 = .ok (.iconst 0, 1) := by decide +kernel
theorem dX6_simulate_84 : decode cX6_simulate 84 = .ok (.iaload, 1) := by decide +kernel
theorem dX6_simulate_85 : decode cX6_simulate 85 = .ok (.ifCond .le 40, 3) := by decide +kernel
theorem dX6_simulate_88 : decode cX6_simulate 88 = .ok (.aload_n 0, 1) := by decide +kernel
theorem dX6_simulate_89 : decode cX6_simulate 89 = .ok (.getfield 19, 3) := by decide +kernel
theorem dX6_simulate_92 : decode cX6_simulate 92 = .ok (.iload 9, 2) := by decide +kernel
theorem dX6_simulate_94 : decode cX6_simulate 94 = .ok (.bipush 64, 2) := by decide +kernel
theorem dX6_simulate_96 : decode cX6_simulate 96 = .ok (.idiv, 1) := by decide +kernel
theorem dX6_simulate_97 : decode cX6_simulate 97 = .ok (.aload_n 0, 1) := by decide +kernel
theorem dX6_simulate_98 : decode cX6_simulate 98 = .ok (.getfield 19, 3) := by decide +kernel
theorem dX6_simulate_101 : decode cX6_simulate 101 = .ok (.iconst 0, 1) := by decide +kernel
theorem dX6_simulate_102 : decode cX6_simulate 102 = .ok (.iaload, 1) := by decide +kernel
theorem dX6_simulate_103 : decode cX6_simulate 103 = .ok (.irem, 1) := by decide +kernel
theorem dX6_simulate_104 : decode cX6_simulate 104 = .ok (.iconst 4, 1) := by decide +kernel
theorem dX6_simulate_105 : decode cX6_simulate 105 = .ok (.invokestatic 53, 3) := by decide +kernel
theorem dX6_simulate_108 : decode cX6_simulate 108 = .ok (.iload 9, 2) := by decide +kernel
theorem dX6_simulate_110 : decode cX6_simulate 110 = .ok (.sipush 512, 3) := by decide +kernel
theorem dX6_simulate_113 : decode cX6_simulate 113 = .ok (.idiv, 1) := by decide +kernel
theorem dX6_simulate_114 : decode cX6_simulate 114 = .ok (.iconst 4, 1) := by decide +kernel
theorem dX6_simulate_115 : decode cX6_simulate 115 = .ok (.irem, 1) := by decide +kernel
theorem dX6_simulate_116 : decode cX6_simulate 116 = .ok (.ifCond .ne 7, 3) := by decide +kernel
theorem dX6_simulate_119 : decode cX6_simulate 119 = .ok (.iconst 1, 1) := by decide +kernel
theorem dX6_simulate_120 : decode cX6_simulate 120 = .ok (.goto 4, 3) := by decide +kernel
theorem dX6_simulate_123 : decode cX6_simulate 123 = .ok (.iconst 0, 1) := by decide +kernel
theorem dX6_simulate_124 : decode cX6_simulate 124 = .ok (.iastore, 1) := by decide +kernel
theorem dX6_simulate_125 : decode cX6_simulate 125 = .ok (.lload 6, 2) := by decide +kernel
theorem dX6_simulate_127 : decode cX6_simulate 127 = .ok (.aload_n 0, 1) := by decide +kernel
theorem dX6_simulate_128 : decode cX6_simulate 128 = .ok (.getfield 19, 3) := by decide +kernel
theorem dX6_simulate_131 : decode cX6_simulate 131 = .ok (.bipush 10, 2) := by decide +kernel
theorem dX6_simulate_133 : decode cX6_simulate 133 = .ok (.invokestatic 212, 3) := by decide +kernel
theorem dX6_simulate_136 : decode cX6_simulate 136 = .ok (.i2l, 1) := by decide +kernel
theorem dX6_simulate_137 : decode cX6_simulate 137 = .ok (.ladd, 1) := by decide +kernel
theorem dX6_simulate_138 : decode cX6_simulate 138 = .ok (.lstore 6, 2) := by decide +kernel
theorem dX6_simulate_140 : decode cX6_simulate 140 = .ok (.iinc 8 1, 3) := by decide +kernel
theorem dX6_simulate_143 : decode cX6_simulate 143 = .ok (.goto (-104), 3) := by decide +kernel
theorem dX6_simulate_146 : decode cX6_simulate 146 = .ok (.ldc2_w 241, 3) := by decide +kernel
theorem dX6_simulate_149 : decode cX6_simulate 149 = .ok (.lload 6, 2) := by decide +kernel
theorem dX6_simulate_151 : decode cX6_simulate 151 = .ok (.lmul, 1) := by decide +kernel
theorem dX6_simulate_152 : decode cX6_simulate 152 = .ok (.aload_n 0, 1) := by decide +kernel
theorem dX6_simulate_153 : decode cX6_simulate 153 = .ok (.getfield 19, 3) := by decide +kernel
theorem dX6_simulate_156 : decode cX6_simulate 156 = .ok (.bipush 9, 2) := by decide +kernel
theorem dX6_simulate_158 : decode cX6_simulate 158 = .ok (.iconst 0, 1) := by decide +kernel
theorem dX6_simulate_159 : decode cX6_simulate 159 = .ok (.invokestatic 191, 3) := by decide +kernel
theorem dX6_simulate_162 : decode cX6_simulate 162 = .ok (.i2l, 1) := by decide +kernel
theorem dX6_simulate_163 : decode cX6_simulate 163 = .ok (.ladd, 1) := by decide +kernel
theorem dX6_simulate_164 : decode cX6_simulate 164 = .ok (.aload_n 0, 1) := by decide +kernel
theorem dX6_simulate_165 : decode cX6_simulate 165 = .ok (.getfield 16, 3) := by decide +kernel
theorem dX6_simulate_168 : decode cX6_simulate 168 = .ok (.bipush 9, 2) := by decide +kernel
theorem dX6_simulate_170 : decode cX6_simulate 170 = .ok (.iconst 0, 1) := by decide +kernel
theorem dX6_simulate_171 : decode cX6_simulate 171 = .ok (.invokestatic 191, 3) := by decide +kernel
theorem dX6_simulate_174 : decode cX6_simulate 174 = .ok (.i2l, 1) := by decide +kernel
theorem dX6_simulate_175 : decode cX6_simulate 175 = .ok (.lsub, 1) := by decide +kernel
theorem dX6_simulate_176 : decode cX6_simulate 176 = .ok (.lreturn, 1) := by decide +kernel
theorem dX6_save_0 : decode cX6_save 0 = .ok (.aload_n 0, 1) := by decide +kernel
theorem dX6_save_1 : decode cX6_save 1 = .ok (.iload_n 1, 1) := by decide +kernel
theorem dX6_save_2 : decode cX6_save 2 = .ok (.i2l, 1) := by decide +kernel
theorem dX6_save_3 : decode cX6_save 3 = .ok (.lconst 0, 1) := by decide +kernel
theorem dX6_save_4 : decode cX6_save 4 = .ok (.lconst 1, 1) := by decide +kernel
theorem dX6_save_5 : decode cX6_save 5 = .ok (.invokestatic 49, 3) := by decide +kernel
theorem dX6_save_8 : decode cX6_save 8 = .ok (.ifCond .eq 7, 3) := by decide +kernel
theorem dX6_save_11 : decode cX6_save 11 = .ok (.iconst 0, 1) := by decide +kernel
theorem dX6_save_12 : decode cX6_save 12 = .ok (.goto 4, 3) := by decide +kernel
theorem dX6_save_15 : decode cX6_save 15 = .ok (.iconst 1, 1) := by decide +kernel
theorem dX6_save_16 : decode cX6_save 16 = .ok (.invokevirtual 121, 3) := by decide +kernel
theorem dX6_save_19 : decode cX6_save 19 = .ok (.ifCond .eq 5, 3) := by decide +kernel
theorem dX6_save_22 : decode cX6_save 22 = .ok (.iconst 0, 1) := by decide +kernel
theorem dX6_save_23 : decode cX6_save 23 = .ok (.ireturn, 1) := by decide +kernel
theorem dX6_save_24 : decode cX6_save 24 = .ok (.aload_n 0, 1) := by decide +kernel
theorem dX6_save_25 : decode cX6_save 25 = .ok (.getfield 16, 3) := by decide +kernel
theorem dX6_save_28 : decode cX6_save 28 = .ok (.iconst 0, 1) := by decide +kernel
theorem dX6_save_29 : decode cX6_save 29 = .ok (.aload_n 0, 1) := by decide +kernel
theorem dX6_save_30 : decode cX6_save 30 = .ok (.getfield 25, 3) := by decide +kernel
theorem dX6_save_33 : decode cX6_save 33 = .ok (.sipush 128, 3) := by decide +kernel
theorem dX6_save_36 : decode cX6_save 36 = .ok (.iload_n 1, 1) := by decide +kernel
theorem dX6_save_37 : decode cX6_save 37 = .ok (.imul, 1) := by decide +kernel
theorem dX6_save_38 : decode cX6_save 38 = .ok (.sipush 128, 3) := by decide +kernel
theorem dX6_save_41 : decode cX6_save 41 = .ok (.invokestatic 45, 3) := by decide +kernel
theorem dX6_save_44 : decode cX6_save 44 = .ok (.aload_n 0, 1) := by decide +kernel
theorem dX6_save_45 : decode cX6_save 45 = .ok (.getfield 28, 3) := by decide +kernel
theorem dX6_save_48 : decode cX6_save 48 = .ok (.iload_n 1, 1) := by decide +kernel
theorem dX6_save_49 : decode cX6_save 49 = .ok (.iconst 1, 1) := by decide +kernel
theorem dX6_save_50 : decode cX6_save 50 = .ok (.bastore, 1) := by decide +kernel
theorem dX6_save_51 : decode cX6_save 51 = .ok (.aload_n 0, 1) := by decide +kernel
theorem dX6_save_52 : decode cX6_save 52 = .ok (.getfield 16, 3) := by decide +kernel
theorem dX6_save_55 : decode cX6_save 55 = .ok (.iconst 1, 1) := by decide +kernel
theorem dX6_save_56 : decode cX6_save 56 = .ok (.iaload, 1) := by decide +kernel
theorem dX6_save_57 : decode cX6_save 57 = .ok (.ireturn, 1) := by decide +kernel
theorem dX6_restore_0 : decode cX6_restore 0 = .ok (.aload_n 0, 1) := by decide +kernel
theorem dX6_restore_1 : decode cX6_restore 1 = .ok (.iload_n 1, 1) := by decide +kernel
theorem dX6_restore_2 : decode cX6_restore 2 = .ok (.i2l, 1) := by decide +kernel
theorem dX6_restore_3 : decode cX6_restore 3 = .ok (.lconst 0, 1) := by decide +kernel
theorem dX6_restore_4 : decode cX6_restore 4 = .ok (.lconst 1, 1) := by decide +kernel
theorem dX6_restore_5 : decode cX6_restore 5 = .ok (.invokestatic 49, 3) := by decide +kernel
theorem dX6_restore_8 : decode cX6_restore 8 = .ok (.ifCond .ne 7, 3) := by decide +kernel
theorem dX6_restore_11 : decode cX6_restore 11 = .ok (.iconst 1, 1) := by decide +kernel
theorem dX6_restore_12 : decode cX6_restore 12 = .ok (.goto 17, 3) := by decide +kernel
theorem dX6_restore_15 : decode cX6_restore 15 = .ok (.aload_n 0, 1) := by decide +kernel
theorem dX6_restore_16 : decode cX6_restore 16 = .ok (.getfield 28, 3) := by decide +kernel
theorem dX6_restore_19 : decode cX6_restore 19 = .ok (.iload_n 1, 1) := by decide +kernel
theorem dX6_restore_20 : decode cX6_restore 20 = .ok (.baload, 1) := by decide +kernel
theorem dX6_restore_21 : decode cX6_restore 21 = .ok (.ifCond .eq 7, 3) := by decide +kernel
theorem dX6_restore_24 : decode cX6_restore 24 = .ok (.iconst 0, 1) := by decide +kernel
theorem dX6_restore_25 : decode cX6_restore 25 = .ok (.goto 4, 3) := by decide +kernel
theorem dX6_restore_28 : decode cX6_restore 28 = .ok (.iconst 2, 1) := by decide +kernel
theorem dX6_restore_29 : decode cX6_restore 29 = .ok (.invokevirtual 121, 3) := by decide +kernel
theorem dX6_restore_32 : decode cX6_restore 32 = .ok (.ifCond .eq 5, 3) := by decide +kernel
theorem dX6_restore_35 : decode cX6_restore 35 = .ok (.iconst 0, 1) := by decide +kernel
theorem dX6_restore_36 : decode cX6_restore 36 = .ok (.ireturn, 1) := by decide +kernel
theorem dX6_restore_37 : decode cX6_restore 37 = .ok (.aload_n 0, 1) := by decide +kernel
theorem dX6_restore_38 : decode cX6_restore 38 = .ok (.getfield 25, 3) := by decide +kernel
theorem dX6_restore_41 : decode cX6_restore 41 = .ok (.sipush 128, 3) := by decide +kernel
theorem dX6_restore_44 : decode cX6_restore 44 = .ok (.iload_n 1, 1) := by decide +kernel
theorem dX6_restore_45 : decode cX6_restore 45 = .ok (.imul, 1) := by decide +kernel
theorem dX6_restore_46 : decode cX6_restore 46 = .ok (.aload_n 0, 1) := by decide +kernel
theorem dX6_restore_47 : decode cX6_restore 47 = .ok (.getfield 16, 3) := by decide +kernel
theorem dX6_restore_50 : decode cX6_restore 50 = .ok (.iconst 0, 1) := by decide +kernel
theorem dX6_restore_51 : decode cX6_restore 51 = .ok (.sipush 128, 3) := by decide +kernel
theorem dX6_restore_54 : decode cX6_restore 54 = .ok (.invokestatic 45, 3) := by decide +kernel
theorem dX6_restore_57 : decode cX6_restore 57 = .ok (.aload_n 0, 1) := by decide +kernel
theorem dX6_restore_58 : decode cX6_restore 58 = .ok (.iconst 0, 1) := by decide +kernel
theorem dX6_restore_59 : decode cX6_restore 59 = .ok (.putfield 42, 3) := by decide +kernel
theorem dX6_restore_62 : decode cX6_restore 62 = .ok (.aload_n 0, 1) := by decide +kernel
theorem dX6_restore_63 : decode cX6_restore 63 = .ok (.getfield 16, 3) := by decide +kernel
theorem dX6_restore_66 : decode cX6_restore 66 = .ok (.iconst 1, 1) := by decide +kernel
theorem dX6_restore_67 : decode cX6_restore 67 = .ok (.iaload, 1) := by decide +kernel
theorem dX6_restore_68 : decode cX6_restore 68 = .ok (.ireturn, 1) := by decide +kernel
theorem dJ9_floorDiv_7cf53_0 : decode cJ9_floorDiv_7cf53 0 = .ok (.iload_n 0, 1) := by decide +kernel
theorem dJ9_floorDiv_7cf53_1 : decode cJ9_floorDiv_7cf53 1 = .ok (.iload_n 1, 1) := by decide +kernel
theorem dJ9_floorDiv_7cf53_2 : decode cJ9_floorDiv_7cf53 2 = .ok (.idiv, 1) := by decide +kernel
theorem dJ9_floorDiv_7cf53_3 : decode cJ9_floorDiv_7cf53 3 = .ok (.istore_n 2, 1) := by decide +kernel
theorem dJ9_floorDiv_7cf53_4 : decode cJ9_floorDiv_7cf53 4 = .ok (.iload_n 0, 1) := by decide +kernel
theorem dJ9_floorDiv_7cf53_5 : decode cJ9_floorDiv_7cf53 5 = .ok (.iload_n 1, 1) := by decide +kernel
theorem dJ9_floorDiv_7cf53_6 : decode cJ9_floorDiv_7cf53 6 = .ok (.ixor, 1) := by decide +kernel
theorem dJ9_floorDiv_7cf53_7 : decode cJ9_floorDiv_7cf53 7 = .ok (.ifCond .ge 14, 3) := by decide +kernel
theorem dJ9_floorDiv_7cf53_10 : decode cJ9_floorDiv_7cf53 10 = .ok (.iload_n 2, 1) := by decide +kernel
theorem dJ9_floorDiv_7cf53_11 : decode cJ9_floorDiv_7cf53 11 = .ok (.iload_n 1, 1) := by decide +kernel
theorem dJ9_floorDiv_7cf53_12 : decode cJ9_floorDiv_7cf53 12 = .ok (.imul, 1) := by decide +kernel
theorem dJ9_floorDiv_7cf53_13 : decode cJ9_floorDiv_7cf53 13 = .ok (.iload_n 0, 1) := by decide +kernel
theorem dJ9_floorDiv_7cf53_14 : decode cJ9_floorDiv_7cf53 14 = .ok (.if_icmp .eq 7, 3) := by decide +kernel
theorem dJ9_floorDiv_7cf53_17 : decode cJ9_floorDiv_7cf53 17 = .ok (.iload_n 2, 1) := by decide +kernel
theorem dJ9_floorDiv_7cf53_18 : decode cJ9_floorDiv_7cf53 18 = .ok (.iconst 1, 1) := by decide +kernel
theorem dJ9_floorDiv_7cf53_19 : decode cJ9_floorDiv_7cf53 19 = .ok (.isub, 1) := by decide +kernel
theorem dJ9_floorDiv_7cf53_20 : decode cJ9_floorDiv_7cf53 20 = .ok (.ireturn, 1) := by decide +kernel
theorem dJ9_floorDiv_7cf53_21 : decode cJ9_floorDiv_7cf53 21 = .ok (.iload_n 2, 1) := by decide +kernel
theorem dJ9_floorDiv_7cf53_22 : decode cJ9_floorDiv_7cf53 22 = .ok (.ireturn, 1) := by decide +kernel
theorem dJ9_max_7cf53_0 : decode cJ9_max_7cf53 0 = .ok (.iload_n 0, 1) := by decide +kernel
theorem dJ9_max_7cf53_1 : decode cJ9_max_7cf53 1 = .ok (.iload_n 1, 1) := by decide +kernel
theorem dJ9_max_7cf53_2 : decode cJ9_max_7cf53 2 = .ok (.if_icmp .lt 7, 3) := by decide +kernel
theorem dJ9_max_7cf53_5 : decode cJ9_max_7cf53 5 = .ok (.iload_n 0, 1) := by decide +kernel
theorem dJ9_max_7cf53_6 : decode cJ9_max_7cf53 6 = .ok (.goto 4, 3) := by decide +kernel
theorem dJ9_max_7cf53_9 : decode cJ9_max_7cf53 9 = .ok (.iload_n 1, 1) := by decide +kernel
theorem dJ9_max_7cf53_10 : decode cJ9_max_7cf53 10 = .ok (.ireturn, 1) := by decide +kernel
theorem dJ9_min_7cf53_0 : decode cJ9_min_7cf53 0 = .ok (.iload_n 0, 1) := by decide +kernel
theorem dJ9_min_7cf53_1 : decode cJ9_min_7cf53 1 = .ok (.iload_n 1, 1) := by decide +kernel
theorem dJ9_min_7cf53_2 : decode cJ9_min_7cf53 2 = .ok (.if_icmp .gt 7, 3) := by decide +kernel
theorem dJ9_min_7cf53_5 : decode cJ9_min_7cf53 5 = .ok (.iload_n 0, 1) := by decide +kernel
theorem dJ9_min_7cf53_6 : decode cJ9_min_7cf53 6 = .ok (.goto 4, 3) := by decide +kernel
theorem dJ9_min_7cf53_9 : decode cJ9_min_7cf53 9 = .ok (.iload_n 1, 1) := by decide +kernel
theorem dJ9_min_7cf53_10 : decode cJ9_min_7cf53 10 = .ok (.ireturn, 1) := by decide +kernel
theorem dL_append_0 : decode cL_append 0 = .ok (.aload_n 2, 1) := by decide +kernel
theorem dL_append_1 : decode cL_append 1 = .ok (.iconst 0, 1) := by decide +kernel
theorem dL_append_2 : decode cL_append 2 = .ok (.aload_n 0, 1) := by decide +kernel
theorem dL_append_3 : decode cL_append 3 = .ok (.iload_n 1, 1) := by decide +kernel
theorem dL_append_4 : decode cL_append 4 = .ok (.invokevirtual 7, 3) := by decide +kernel
theorem dL_append_7 : decode cL_append 7 = .ok (.i2l, 1) := by decide +kernel
theorem dL_append_8 : decode cL_append 8 = .ok (.lastore, 1) := by decide +kernel
theorem dL_append_9 : decode cL_append 9 = .ok (.goto 9, 3) := by decide +kernel
theorem dL_append_12 : decode cL_append 12 = .ok (.astore_n 3, 1) := by decide +kernel
theorem dL_append_13 : decode cL_append 13 = .ok (.iconst 1, 1) := by decide +kernel
theorem dL_append_14 : decode cL_append 14 = .ok (.ireturn, 1) := by decide +kernel
theorem dL_append_15 : decode cL_append 15 = .ok (.astore_n 3, 1) := by decide +kernel
theorem dL_append_16 : decode cL_append 16 = .ok (.iconst 2, 1) := by decide +kernel
theorem dL_append_17 : decode cL_append 17 = .ok (.ireturn, 1) := by decide +kernel
theorem dL_append_18 : decode cL_append 18 = .ok (.iconst 0, 1) := by decide +kernel
theorem dL_append_19 : decode cL_append 19 = .ok (.ireturn, 1) := by decide +kernel
theorem dL_load_0 : decode cL_load 0 = .ok (.aload_n 1, 1) := by decide +kernel
theorem dL_load_1 : decode cL_load 1 = .ok (.iconst 0, 1) := by decide +kernel
theorem dL_load_2 : decode cL_load 2 = .ok (.aload_n 0, 1) := by decide +kernel
theorem dL_load_3 : decode cL_load 3 = .ok (.invokevirtual 17, 3) := by decide +kernel
theorem dL_load_6 : decode cL_load 6 = .ok (.i2l, 1) := by decide +kernel
theorem dL_load_7 : decode cL_load 7 = .ok (.lastore, 1) := by decide +kernel
theorem dL_load_8 : decode cL_load 8 = .ok (.goto 6, 3) := by decide +kernel
theorem dL_load_11 : decode cL_load 11 = .ok (.astore_n 2, 1) := by decide +kernel
theorem dL_load_12 : decode cL_load 12 = .ok (.iconst 1, 1) := by decide +kernel
theorem dL_load_13 : decode cL_load 13 = .ok (.ireturn, 1) := by decide +kernel
theorem dL_load_14 : decode cL_load 14 = .ok (.iconst 0, 1) := by decide +kernel
theorem dL_load_15 : decode cL_load 15 = .ok (.ireturn, 1) := by decide +kernel
theorem dL_about_0 : decode cL_about 0 = .ok (.aload_n 2, 1) := by decide +kernel
theorem dL_about_1 : decode cL_about 1 = .ok (.iconst 0, 1) := by decide +kernel
theorem dL_about_2 : decode cL_about 2 = .ok (.aload_n 0, 1) := by decide +kernel
theorem dL_about_3 : decode cL_about 3 = .ok (.iload_n 1, 1) := by decide +kernel
theorem dL_about_4 : decode cL_about 4 = .ok (.invokevirtual 21, 3) := by decide +kernel
theorem dL_about_7 : decode cL_about 7 = .ok (.i2l, 1) := by decide +kernel
theorem dL_about_8 : decode cL_about 8 = .ok (.lastore, 1) := by decide +kernel
theorem dL_about_9 : decode cL_about 9 = .ok (.goto 6, 3) := by decide +kernel
theorem dL_about_12 : decode cL_about 12 = .ok (.astore_n 3, 1) := by decide +kernel
theorem dL_about_13 : decode cL_about 13 = .ok (.iconst 1, 1) := by decide +kernel
theorem dL_about_14 : decode cL_about 14 = .ok (.ireturn, 1) := by decide +kernel
theorem dL_about_15 : decode cL_about 15 = .ok (.iconst 0, 1) := by decide +kernel
theorem dL_about_16 : decode cL_about 16 = .ok (.ireturn, 1) := by decide +kernel
theorem dL_setting_0 : decode cL_setting 0 = .ok (.aload_n 2, 1) := by decide +kernel
theorem dL_setting_1 : decode cL_setting 1 = .ok (.iconst 0, 1) := by decide +kernel
theorem dL_setting_2 : decode cL_setting 2 = .ok (.aload_n 0, 1) := by decide +kernel
theorem dL_setting_3 : decode cL_setting 3 = .ok (.iload_n 1, 1) := by decide +kernel
theorem dL_setting_4 : decode cL_setting 4 = .ok (.invokevirtual 24, 3) := by decide +kernel
theorem dL_setting_7 : decode cL_setting 7 = .ok (.i2l, 1) := by decide +kernel
theorem dL_setting_8 : decode cL_setting 8 = .ok (.lastore, 1) := by decide +kernel
theorem dL_setting_9 : decode cL_setting 9 = .ok (.goto 6, 3) := by decide +kernel
theorem dL_setting_12 : decode cL_setting 12 = .ok (.astore_n 3, 1) := by decide +kernel
theorem dL_setting_13 : decode cL_setting 13 = .ok (.iconst 1, 1) := by decide +kernel
theorem dL_setting_14 : decode cL_setting 14 = .ok (.ireturn, 1) := by decide +kernel
theorem dL_setting_15 : decode cL_setting 15 = .ok (.iconst 0, 1) := by decide +kernel
theorem dL_setting_16 : decode cL_setting 16 = .ok (.ireturn, 1) := by decide +kernel
theorem dL_place_0 : decode cL_place 0 = .ok (.aload_n 3, 1) := by decide +kernel
theorem dL_place_1 : decode cL_place 1 = .ok (.iconst 0, 1) := by decide +kernel
theorem dL_place_2 : decode cL_place 2 = .ok (.aload_n 0, 1) := by decide +kernel
theorem dL_place_3 : decode cL_place 3 = .ok (.iload_n 1, 1) := by decide +kernel
theorem dL_place_4 : decode cL_place 4 = .ok (.iload_n 2, 1) := by decide +kernel
theorem dL_place_5 : decode cL_place 5 = .ok (.invokevirtual 27, 3) := by decide +kernel
theorem dL_place_8 : decode cL_place 8 = .ok (.i2l, 1) := by decide +kernel
theorem dL_place_9 : decode cL_place 9 = .ok (.lastore, 1) := by decide +kernel
theorem dL_place_10 : decode cL_place 10 = .ok (.goto 11, 3) := by decide +kernel
theorem dL_place_13 : decode cL_place 13 = .ok (.astore 4, 2) := by decide +kernel
theorem dL_place_15 : decode cL_place 15 = .ok (.iconst 1, 1) := by decide +kernel
theorem dL_place_16 : decode cL_place 16 = .ok (.ireturn, 1) := by decide +kernel
theorem dL_place_17 : decode cL_place 17 = .ok (.astore 4, 2) := by decide +kernel
theorem dL_place_19 : decode cL_place 19 = .ok (.iconst 2, 1) := by decide +kernel
theorem dL_place_20 : decode cL_place 20 = .ok (.ireturn, 1) := by decide +kernel
theorem dL_place_21 : decode cL_place 21 = .ok (.iconst 0, 1) := by decide +kernel
theorem dL_place_22 : decode cL_place 22 = .ok (.ireturn, 1) := by decide +kernel
theorem dL_room_0 : decode cL_room 0 = .ok (.aload_n 3, 1) := by decide +kernel
theorem dL_room_1 : decode cL_room 1 = .ok (.iconst 0, 1) := by decide +kernel
theorem dL_room_2 : decode cL_room 2 = .ok (.aload_n 0, 1) := by decide +kernel
theorem dL_room_3 : decode cL_room 3 = .ok (.iload_n 1, 1) := by decide +kernel
theorem dL_room_4 : decode cL_room 4 = .ok (.iload_n 2, 1) := by decide +kernel
theorem dL_room_5 : decode cL_room 5 = .ok (.invokevirtual 33, 3) := by decide +kernel
theorem dL_room_8 : decode cL_room 8 = .ok (.i2l, 1) := by decide +kernel
theorem dL_room_9 : decode cL_room 9 = .ok (.lastore, 1) := by decide +kernel
theorem dL_room_10 : decode cL_room 10 = .ok (.goto 11, 3) := by decide +kernel
theorem dL_room_13 : decode cL_room 13 = .ok (.astore 4, 2) := by decide +kernel
theorem dL_room_15 : decode cL_room 15 = .ok (.iconst 1, 1) := by decide +kernel
theorem dL_room_16 : decode cL_room 16 = .ok (.ireturn, 1) := by decide +kernel
theorem dL_room_17 : decode cL_room 17 = .ok (.astore 4, 2) := by decide +kernel
theorem dL_room_19 : decode cL_room 19 = .ok (.iconst 2, 1) := by decide +kernel
theorem dL_room_20 : decode cL_room 20 = .ok (.ireturn, 1) := by decide +kernel
theorem dL_room_21 : decode cL_room 21 = .ok (.iconst 0, 1) := by decide +kernel
theorem dL_room_22 : decode cL_room 22 = .ok (.ireturn, 1) := by decide +kernel
theorem dL_moved_0 : decode cL_moved 0 = .ok (.aload_n 3, 1) := by decide +kernel
theorem dL_moved_1 : decode cL_moved 1 = .ok (.iconst 0, 1) := by decide +kernel
theorem dL_moved_2 : decode cL_moved 2 = .ok (.aload_n 0, 1) := by decide +kernel
theorem dL_moved_3 : decode cL_moved 3 = .ok (.iload_n 1, 1) := by decide +kernel
theorem dL_moved_4 : decode cL_moved 4 = .ok (.iload_n 2, 1) := by decide +kernel
theorem dL_moved_5 : decode cL_moved 5 = .ok (.invokevirtual 36, 3) := by decide +kernel
theorem dL_moved_8 : decode cL_moved 8 = .ok (.i2l, 1) := by decide +kernel
theorem dL_moved_9 : decode cL_moved 9 = .ok (.lastore, 1) := by decide +kernel
theorem dL_moved_10 : decode cL_moved 10 = .ok (.goto 7, 3) := by decide +kernel
theorem dL_moved_13 : decode cL_moved 13 = .ok (.astore 4, 2) := by decide +kernel
theorem dL_moved_15 : decode cL_moved 15 = .ok (.iconst 1, 1) := by decide +kernel
theorem dL_moved_16 : decode cL_moved 16 = .ok (.ireturn, 1) := by decide +kernel
theorem dL_moved_17 : decode cL_moved 17 = .ok (.iconst 0, 1) := by decide +kernel
theorem dL_moved_18 : decode cL_moved 18 = .ok (.ireturn, 1) := by decide +kernel
theorem dL_way_0 : decode cL_way 0 = .ok (.aload_n 3, 1) := by decide +kernel
theorem dL_way_1 : decode cL_way 1 = .ok (.iconst 0, 1) := by decide +kernel
theorem dL_way_2 : decode cL_way 2 = .ok (.aload_n 0, 1) := by decide +kernel
theorem dL_way_3 : decode cL_way 3 = .ok (.iload_n 1, 1) := by decide +kernel
theorem dL_way_4 : decode cL_way 4 = .ok (.iload_n 2, 1) := by decide +kernel
theorem dL_way_5 : decode cL_way 5 = .ok (.invokevirtual 39, 3) := by decide +kernel
theorem dL_way_8 : decode cL_way 8 = .ok (.i2l, 1) := by decide +kernel
theorem dL_way_9 : decode cL_way 9 = .ok (.lastore, 1) := by decide +kernel
theorem dL_way_10 : decode cL_way 10 = .ok (.goto 11, 3) := by decide +kernel
theorem dL_way_13 : decode cL_way 13 = .ok (.astore 4, 2) := by decide +kernel
theorem dL_way_15 : decode cL_way 15 = .ok (.iconst 1, 1) := by decide +kernel
theorem dL_way_16 : decode cL_way 16 = .ok (.ireturn, 1) := by decide +kernel
theorem dL_way_17 : decode cL_way 17 = .ok (.astore 4, 2) := by decide +kernel
theorem dL_way_19 : decode cL_way 19 = .ok (.iconst 2, 1) := by decide +kernel
theorem dL_way_20 : decode cL_way 20 = .ok (.ireturn, 1) := by decide +kernel
theorem dL_way_21 : decode cL_way 21 = .ok (.iconst 0, 1) := by decide +kernel
theorem dL_way_22 : decode cL_way 22 = .ok (.ireturn, 1) := by decide +kernel
theorem dL_addRoom_0 : decode cL_addRoom 0 = .ok (.aload 5, 2) := by decide +kernel
theorem dL_addRoom_2 : decode cL_addRoom 2 = .ok (.iconst 0, 1) := by decide +kernel
theorem dL_addRoom_3 : decode cL_addRoom 3 = .ok (.aload_n 0, 1) := by decide +kernel
theorem dL_addRoom_4 : decode cL_addRoom 4 = .ok (.iload_n 1, 1) := by decide +kernel
theorem dL_addRoom_5 : decode cL_addRoom 5 = .ok (.iload_n 2, 1) := by decide +kernel
theorem dL_addRoom_6 : decode cL_addRoom 6 = .ok (.iload_n 3, 1) := by decide +kernel
theorem dL_addRoom_7 : decode cL_addRoom 7 = .ok (.iload 4, 2) := by decide +kernel
theorem dL_addRoom_9 : decode cL_addRoom 9 = .ok (.invokevirtual 42, 3) := by decide +kernel
theorem dL_addRoom_12 : decode cL_addRoom 12 = .ok (.i2l, 1) := by decide +kernel
theorem dL_addRoom_13 : decode cL_addRoom 13 = .ok (.lastore, 1) := by decide +kernel
theorem dL_addRoom_14 : decode cL_addRoom 14 = .ok (.goto 11, 3) := by decide +kernel
theorem dL_addRoom_17 : decode cL_addRoom 17 = .ok (.astore 6, 2) := by decide +kernel
theorem dL_addRoom_19 : decode cL_addRoom 19 = .ok (.iconst 1, 1) := by decide +kernel
theorem dL_addRoom_20 : decode cL_addRoom 20 = .ok (.ireturn, 1) := by decide +kernel
theorem dL_addRoom_21 : decode cL_addRoom 21 = .ok (.astore 6, 2) := by decide +kernel
theorem dL_addRoom_23 : decode cL_addRoom 23 = .ok (.iconst 2, 1) := by decide +kernel
theorem dL_addRoom_24 : decode cL_addRoom 24 = .ok (.ireturn, 1) := by decide +kernel
theorem dL_addRoom_25 : decode cL_addRoom 25 = .ok (.iconst 0, 1) := by decide +kernel
theorem dL_addRoom_26 : decode cL_addRoom 26 = .ok (.ireturn, 1) := by decide +kernel
theorem dL_setRoom_0 : decode cL_setRoom 0 = .ok (.aload 4, 2) := by decide +kernel
theorem dL_setRoom_2 : decode cL_setRoom 2 = .ok (.iconst 0, 1) := by decide +kernel
theorem dL_setRoom_3 : decode cL_setRoom 3 = .ok (.aload_n 0, 1) := by decide +kernel
theorem dL_setRoom_4 : decode cL_setRoom 4 = .ok (.iload_n 1, 1) := by decide +kernel
theorem dL_setRoom_5 : decode cL_setRoom 5 = .ok (.iload_n 2, 1) := by decide +kernel
theorem dL_setRoom_6 : decode cL_setRoom 6 = .ok (.iload_n 3, 1) := by decide +kernel
theorem dL_setRoom_7 : decode cL_setRoom 7 = .ok (.invokevirtual 46, 3) := by decide +kernel
theorem dL_setRoom_10 : decode cL_setRoom 10 = .ok (.i2l, 1) := by decide +kernel
theorem dL_setRoom_11 : decode cL_setRoom 11 = .ok (.lastore, 1) := by decide +kernel
theorem dL_setRoom_12 : decode cL_setRoom 12 = .ok (.goto 11, 3) := by decide +kernel
theorem dL_setRoom_15 : decode cL_setRoom 15 = .ok (.astore 5, 2) := by decide +kernel
theorem dL_setRoom_17 : decode cL_setRoom 17 = .ok (.iconst 1, 1) := by decide +kernel
theorem dL_setRoom_18 : decode cL_setRoom 18 = .ok (.ireturn, 1) := by decide +kernel
theorem dL_setRoom_19 : decode cL_setRoom 19 = .ok (.astore 5, 2) := by decide +kernel
theorem dL_setRoom_21 : decode cL_setRoom 21 = .ok (.iconst 2, 1) := by decide +kernel
theorem dL_setRoom_22 : decode cL_setRoom 22 = .ok (.ireturn, 1) := by decide +kernel
theorem dL_setRoom_23 : decode cL_setRoom 23 = .ok (.iconst 0, 1) := by decide +kernel
theorem dL_setRoom_24 : decode cL_setRoom 24 = .ok (.ireturn, 1) := by decide +kernel
theorem dL_window_0 : decode cL_window 0 = .ok (.aload_n 3, 1) := by decide +kernel
theorem dL_window_1 : decode cL_window 1 = .ok (.iconst 0, 1) := by decide +kernel
theorem dL_window_2 : decode cL_window 2 = .ok (.aload_n 0, 1) := by decide +kernel
theorem dL_window_3 : decode cL_window 3 = .ok (.iload_n 1, 1) := by decide +kernel
theorem dL_window_4 : decode cL_window 4 = .ok (.iload_n 2, 1) := by decide +kernel
theorem dL_window_5 : decode cL_window 5 = .ok (.invokevirtual 50, 3) := by decide +kernel
theorem dL_window_8 : decode cL_window 8 = .ok (.i2l, 1) := by decide +kernel
theorem dL_window_9 : decode cL_window 9 = .ok (.lastore, 1) := by decide +kernel
theorem dL_window_10 : decode cL_window 10 = .ok (.goto 7, 3) := by decide +kernel
theorem dL_window_13 : decode cL_window 13 = .ok (.astore 4, 2) := by decide +kernel
theorem dL_window_15 : decode cL_window 15 = .ok (.iconst 1, 1) := by decide +kernel
theorem dL_window_16 : decode cL_window 16 = .ok (.ireturn, 1) := by decide +kernel
theorem dL_window_17 : decode cL_window 17 = .ok (.iconst 0, 1) := by decide +kernel
theorem dL_window_18 : decode cL_window 18 = .ok (.ireturn, 1) := by decide +kernel
theorem dL_set_0 : decode cL_set 0 = .ok (.aload_n 3, 1) := by decide +kernel
theorem dL_set_1 : decode cL_set 1 = .ok (.iconst 0, 1) := by decide +kernel
theorem dL_set_2 : decode cL_set 2 = .ok (.aload_n 0, 1) := by decide +kernel
theorem dL_set_3 : decode cL_set 3 = .ok (.iload_n 1, 1) := by decide +kernel
theorem dL_set_4 : decode cL_set 4 = .ok (.iload_n 2, 1) := by decide +kernel
theorem dL_set_5 : decode cL_set 5 = .ok (.invokevirtual 54, 3) := by decide +kernel
theorem dL_set_8 : decode cL_set 8 = .ok (.i2l, 1) := by decide +kernel
theorem dL_set_9 : decode cL_set 9 = .ok (.lastore, 1) := by decide +kernel
theorem dL_set_10 : decode cL_set 10 = .ok (.goto 7, 3) := by decide +kernel
theorem dL_set_13 : decode cL_set 13 = .ok (.astore 4, 2) := by decide +kernel
theorem dL_set_15 : decode cL_set 15 = .ok (.iconst 1, 1) := by decide +kernel
theorem dL_set_16 : decode cL_set 16 = .ok (.ireturn, 1) := by decide +kernel
theorem dL_set_17 : decode cL_set 17 = .ok (.iconst 0, 1) := by decide +kernel
theorem dL_set_18 : decode cL_set 18 = .ok (.ireturn, 1) := by decide +kernel
theorem dL_outside_0 : decode cL_outside 0 = .ok (.aload_n 2, 1) := by decide +kernel
theorem dL_outside_1 : decode cL_outside 1 = .ok (.iconst 0, 1) := by decide +kernel
theorem dL_outside_2 : decode cL_outside 2 = .ok (.aload_n 0, 1) := by decide +kernel
theorem dL_outside_3 : decode cL_outside 3 = .ok (.iload_n 1, 1) := by decide +kernel
theorem dL_outside_4 : decode cL_outside 4 = .ok (.invokevirtual 57, 3) := by decide +kernel
theorem dL_outside_7 : decode cL_outside 7 = .ok (.i2l, 1) := by decide +kernel
theorem dL_outside_8 : decode cL_outside 8 = .ok (.lastore, 1) := by decide +kernel
theorem dL_outside_9 : decode cL_outside 9 = .ok (.goto 6, 3) := by decide +kernel
theorem dL_outside_12 : decode cL_outside 12 = .ok (.astore_n 3, 1) := by decide +kernel
theorem dL_outside_13 : decode cL_outside 13 = .ok (.iconst 1, 1) := by decide +kernel
theorem dL_outside_14 : decode cL_outside 14 = .ok (.ireturn, 1) := by decide +kernel
theorem dL_outside_15 : decode cL_outside 15 = .ok (.iconst 0, 1) := by decide +kernel
theorem dL_outside_16 : decode cL_outside 16 = .ok (.ireturn, 1) := by decide +kernel
theorem dL_pass_0 : decode cL_pass 0 = .ok (.aload_n 2, 1) := by decide +kernel
theorem dL_pass_1 : decode cL_pass 1 = .ok (.iconst 0, 1) := by decide +kernel
theorem dL_pass_2 : decode cL_pass 2 = .ok (.aload_n 0, 1) := by decide +kernel
theorem dL_pass_3 : decode cL_pass 3 = .ok (.iload_n 1, 1) := by decide +kernel
theorem dL_pass_4 : decode cL_pass 4 = .ok (.invokevirtual 60, 3) := by decide +kernel
theorem dL_pass_7 : decode cL_pass 7 = .ok (.i2l, 1) := by decide +kernel
theorem dL_pass_8 : decode cL_pass 8 = .ok (.lastore, 1) := by decide +kernel
theorem dL_pass_9 : decode cL_pass 9 = .ok (.goto 6, 3) := by decide +kernel
theorem dL_pass_12 : decode cL_pass 12 = .ok (.astore_n 3, 1) := by decide +kernel
theorem dL_pass_13 : decode cL_pass 13 = .ok (.iconst 1, 1) := by decide +kernel
theorem dL_pass_14 : decode cL_pass 14 = .ok (.ireturn, 1) := by decide +kernel
theorem dL_pass_15 : decode cL_pass 15 = .ok (.iconst 0, 1) := by decide +kernel
theorem dL_pass_16 : decode cL_pass 16 = .ok (.ireturn, 1) := by decide +kernel
theorem dL_undo_0 : decode cL_undo 0 = .ok (.aload_n 1, 1) := by decide +kernel
theorem dL_undo_1 : decode cL_undo 1 = .ok (.iconst 0, 1) := by decide +kernel
theorem dL_undo_2 : decode cL_undo 2 = .ok (.aload_n 0, 1) := by decide +kernel
theorem dL_undo_3 : decode cL_undo 3 = .ok (.invokevirtual 63, 3) := by decide +kernel
theorem dL_undo_6 : decode cL_undo 6 = .ok (.i2l, 1) := by decide +kernel
theorem dL_undo_7 : decode cL_undo 7 = .ok (.lastore, 1) := by decide +kernel
theorem dL_undo_8 : decode cL_undo 8 = .ok (.goto 6, 3) := by decide +kernel
theorem dL_undo_11 : decode cL_undo 11 = .ok (.astore_n 2, 1) := by decide +kernel
theorem dL_undo_12 : decode cL_undo 12 = .ok (.iconst 1, 1) := by decide +kernel
theorem dL_undo_13 : decode cL_undo 13 = .ok (.ireturn, 1) := by decide +kernel
theorem dL_undo_14 : decode cL_undo 14 = .ok (.iconst 0, 1) := by decide +kernel
theorem dL_undo_15 : decode cL_undo 15 = .ok (.ireturn, 1) := by decide +kernel
