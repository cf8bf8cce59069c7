theorem dX5_outsideCommand_0 : decode cX5_outsideCommand 0 = .ok (.iload_n 1, 1) := by decide +kernel
theorem dX5_outsideCommand_1 : decode cX5_outsideCommand 1 = .ok (.invokestatic 253, 3) := by decide +kernel
theorem dX5_outsideCommand_4 : decode cX5_outsideCommand 4 = .ok (.ifCond .ne 5, 3) := by decide +kernel
theorem dX5_outsideCommand_7 : decode cX5_outsideCommand 7 = .ok (.iconst 0, 1) := by decide +kernel
theorem dX5_outsideCommand_8 : decode cX5_outsideCommand 8 = .ok (.ireturn, 1) := by decide +kernel
theorem dX5_outsideCommand_9 : decode cX5_outsideCommand 9 = .ok (.aload_n 0, 1) := by decide +kernel
theorem dX5_outsideCommand_10 : decode cX5_outsideCommand 10 = .ok (.iload_n 1, 1) := by decide +kernel
theorem dX5_outsideCommand_11 : decode cX5_outsideCommand 11 = .ok (.putfield 82, 3) := by decide +kernel
theorem dX5_outsideCommand_14 : decode cX5_outsideCommand 14 = .ok (.iconst 1, 1) := by decide +kernel
theorem dX5_outsideCommand_15 : decode cX5_outsideCommand 15 = .ok (.ireturn, 1) := by decide +kernel
theorem dX5_settingCommand_0 : decode cX5_settingCommand 0 = .ok (.iload_n 1, 1) := by decide +kernel
theorem dX5_settingCommand_1 : decode cX5_settingCommand 1 = .ok (.iload_n 2, 1) := by decide +kernel
theorem dX5_settingCommand_2 : decode cX5_settingCommand 2 = .ok (.invokestatic 244, 3) := by decide +kernel
theorem dX5_settingCommand_5 : decode cX5_settingCommand 5 = .ok (.ifCond .ne 5, 3) := by decide +kernel
theorem dX5_settingCommand_8 : decode cX5_settingCommand 8 = .ok (.iconst 0, 1) := by decide +kernel
theorem dX5_settingCommand_9 : decode cX5_settingCommand 9 = .ok (.ireturn, 1) := by decide +kernel
theorem dX5_settingCommand_10 : decode cX5_settingCommand 10 = .ok (.aload_n 0, 1) := by decide +kernel
theorem dX5_settingCommand_11 : decode cX5_settingCommand 11 = .ok (.iload_n 1, 1) := by decide +kernel
theorem dX5_settingCommand_12 : decode cX5_settingCommand 12 = .ok (.iload_n 2, 1) := by decide +kernel
theorem dX5_settingCommand_13 : decode cX5_settingCommand 13 = .ok (.invokevirtual 249, 3) := by decide +kernel
theorem dX5_settingCommand_16 : decode cX5_settingCommand 16 = .ok (.iconst 1, 1) := by decide +kernel
theorem dX5_settingCommand_17 : decode cX5_settingCommand 17 = .ok (.ireturn, 1) := by decide +kernel
theorem dX5_windowCommand_0 : decode cX5_windowCommand 0 = .ok (.aload_n 0, 1) := by decide +kernel
theorem dX5_windowCommand_1 : decode cX5_windowCommand 1 = .ok (.iload_n 1, 1) := by decide +kernel
theorem dX5_windowCommand_2 : decode cX5_windowCommand 2 = .ok (.invokevirtual 151, 3) := by decide +kernel
theorem dX5_windowCommand_5 : decode cX5_windowCommand 5 = .ok (.ifCond .ne 5, 3) := by decide +kernel
theorem dX5_windowCommand_8 : decode cX5_windowCommand 8 = .ok (.iconst 0, 1) := by decide +kernel
theorem dX5_windowCommand_9 : decode cX5_windowCommand 9 = .ok (.ireturn, 1) := by decide +kernel
theorem dX5_windowCommand_10 : decode cX5_windowCommand 10 = .ok (.aload_n 0, 1) := by decide +kernel
theorem dX5_windowCommand_11 : decode cX5_windowCommand 11 = .ok (.iload_n 1, 1) := by decide +kernel
theorem dX5_windowCommand_12 : decode cX5_windowCommand 12 = .ok (.iload_n 2, 1) := by decide +kernel
theorem dX5_windowCommand_13 : decode cX5_windowCommand 13 = .ok (.invokevirtual 332, 3) := by decide +kernel
theorem dX5_windowCommand_16 : decode cX5_windowCommand 16 = .ok (.iconst 1, 1) := by decide +kernel
theorem dX5_windowCommand_17 : decode cX5_windowCommand 17 = .ok (.ireturn, 1) := by decide +kernel
theorem dX5_wantedCommand_0 : decode cX5_wantedCommand 0 = .ok (.aload_n 0, 1) := by decide +kernel
theorem dX5_wantedCommand_1 : decode cX5_wantedCommand 1 = .ok (.iload_n 1, 1) := by decide +kernel
theorem dX5_wantedCommand_2 : decode cX5_wantedCommand 2 = .ok (.invokevirtual 151, 3) := by decide +kernel
theorem dX5_wantedCommand_5 : decode cX5_wantedCommand 5 = .ok (.ifCond .eq 10, 3) := by decide +kernel
theorem dX5_wantedCommand_8 : decode cX5_wantedCommand 8 = .ok (.iload_n 2, 1) := by decide +kernel
theorem dX5_wantedCommand_9 : decode cX5_wantedCommand 9 = .ok (.invokestatic 208, 3) := by decide +kernel
theorem dX5_wantedCommand_12 : decode cX5_wantedCommand 12 = .ok (.ifCond .ne 5, 3) := by decide +kernel
theorem dX5_wantedCommand_15 : decode cX5_wantedCommand 15 = .ok (.iconst 0, 1) := by decide +kernel
theorem dX5_wantedCommand_16 : decode cX5_wantedCommand 16 = .ok (.ireturn, 1) := by decide +kernel
theorem dX5_wantedCommand_17 : decode cX5_wantedCommand 17 = .ok (.aload_n 0, 1) := by decide +kernel
theorem dX5_wantedCommand_18 : decode cX5_wantedCommand 18 = .ok (.getfield 156, 3) := by decide +kernel
theorem dX5_wantedCommand_21 : decode cX5_wantedCommand 21 = .ok (.iload_n 1, 1) := by decide +kernel
theorem dX5_wantedCommand_22 : decode cX5_wantedCommand 22 = .ok (.aaload, 1) := by decide +kernel
theorem dX5_wantedCommand_23 : decode cX5_wantedCommand 23 = .ok (.iload_n 2, 1) := by decide +kernel
theorem dX5_wantedCommand_24 : decode cX5_wantedCommand 24 = .ok (.putfield 160, 3) := by decide +kernel
theorem dX5_wantedCommand_27 : decode cX5_wantedCommand 27 = .ok (.iconst 1, 1) := by decide +kernel
theorem dX5_wantedCommand_28 : decode cX5_wantedCommand 28 = .ok (.ireturn, 1) := by decide +kernel
theorem dJ9_floorDiv_7cf53_0 : decode cJ9_floorDiv_7cf53 0 = .ok (.iload_n 0, 1) := by decide +kernel
theorem dJ9_floorDiv_7cf53_1 : decode cJ9_floorDiv_7cf53 1 = .ok (.iload_n 1, 1) := by decide +kernel
theorem dJ9_floorDiv_7cf53_2 : decode cJ9_floorDiv_7cf53 2 = .ok (.idiv, 1) := by decide +kernel
theorem dJ9_floorDiv_7cf53_3 : decode cJ9_floorDiv_7cf53 3 = .ok (.istore_n 2, 1) := by decide +kernel
theorem dJ9_floorDiv_7cf53_4 : decode cJ9_floorDiv_7cf53 4 = .ok (.iload_n 0, 1) := by decide +kernel
theorem dJ9_floorDiv_7cf53_5 : decode cJ9_floorDiv_7cf53 5 = .ok (.iload_n 1, 1) := by decide +kernel
theorem dJ9_floorDiv_7cf53_6 : decode cJ9_floorDiv_7cf53 6 = .ok (.ixor, 1) := by decide +kernel
theorem dJ9_floorDiv_7cf53_7 : decode cJ9_floorDiv_7cf53 7 = .ok (.ifCond .ge 14, 3) := by decide +kernel
theorem dJ9_floorDiv_7cf53_10 : decode cJ9_floorDiv_7cf53 10 = .ok (.iload_n 2, 1) := by decide +kernel
theorem dJ9_floorDiv_7cf53_11 : decode cJ9_floorDiv_7cf53 11 = .ok (.iload_n 1, 1) := by decide +kernel
theorem dJ9_floorDiv_7cf53_12 : decode cJ9_floorDiv_7cf53 12 = .ok (.imul, 1) := by decide +kernel
theorem dJ9_floorDiv_7cf53_13 : decode cJ9_floorDiv_7cf53 13 = .ok (.iload_n 0, 1) := by decide +kernel
theorem dJ9_floorDiv_7cf53_14 : decode cJ9_floorDiv_7cf53 14 = .ok (.if_icmp .eq 7, 3) := by decide +kernel
theorem dJ9_floorDiv_7cf53_17 : decode cJ9_floorDiv_7cf53 17 = .ok (.iload_n 2, 1) := by decide +kernel
theorem dJ9_floorDiv_7cf53_18 : decode cJ9_floorDiv_7cf53 18 = .ok (.iconst 1, 1) := by decide +kernel
theorem dJ9_floorDiv_7cf53_19 : decode cJ9_floorDiv_7cf53 19 = .ok (.isub, 1) := by decide +kernel
theorem dJ9_floorDiv_7cf53_20 : decode cJ9_floorDiv_7cf53 20 = .ok (.ireturn, 1) := by decide +kernel
theorem dJ9_floorDiv_7cf53_21 : decode cJ9_floorDiv_7cf53 21 = .ok (.iload_n 2, 1) := by decide +kernel
theorem dJ9_floorDiv_7cf53_22 : decode cJ9_floorDiv_7cf53 22 = .ok (.ireturn, 1) := by decide +kernel
theorem dJ9_max_7cf53_0 : decode cJ9_max_7cf53 0 = .ok (.iload_n 0, 1) := by decide +kernel
theorem dJ9_max_7cf53_1 : decode cJ9_max_7cf53 1 = .ok (.iload_n 1, 1) := by decide +kernel
theorem dJ9_max_7cf53_2 : decode cJ9_max_7cf53 2 = .ok (.if_icmp .lt 7, 3) := by decide +kernel
theorem dJ9_max_7cf53_5 : decode cJ9_max_7cf53 5 = .ok (.iload_n 0, 1) := by decide +kernel
theorem dJ9_max_7cf53_6 : decode cJ9_max_7cf53 6 = .ok (.goto 4, 3) := by decide +kernel
theorem dJ9_max_7cf53_9 : decode cJ9_max_7cf53 9 = .ok (.iload_n 1, 1) := by decide +kernel
theorem dJ9_max_7cf53_10 : decode cJ9_max_7cf53 10 = .ok (.ireturn, 1) := by decide +kernel
theorem dJ9_min_7cf53_0 : decode cJ9_min_7cf53 0 = .ok (.iload_n 0, 1) := by decide +kernel
theorem dJ9_min_7cf53_1 : decode cJ9_min_7cf53 1 = .ok (.iload_n 1, 1) := by decide +kernel
theorem dJ9_min_7cf53_2 : decode cJ9_min_7cf53 2 = .ok (.if_icmp .gt 7, 3) := by decide +kernel
theorem dJ9_min_7cf53_5 : decode cJ9_min_7cf53 5 = .ok (.iload_n 0, 1) := by decide +kernel
theorem dJ9_min_7cf53_6 : decode cJ9_min_7cf53 6 = .ok (.goto 4, 3) := by decide +kernel
theorem dJ9_min_7cf53_9 : decode cJ9_min_7cf53 9 = .ok (.iload_n 1, 1) := by decide +kernel
theorem dJ9_min_7cf53_10 : decode cJ9_min_7cf53 10 = .ok (.ireturn, 1) := by decide +kernel
theorem dL_draw_0 : decode cL_draw 0 = .ok (.iload_n 1, 1) := by decide +kernel
theorem dL_draw_1 : decode cL_draw 1 = .ok (.aload_n 0, 1) := by decide +kernel
theorem dL_draw_2 : decode cL_draw 2 = .ok (.arraylength, 1) := by decide +kernel
theorem dL_draw_3 : decode cL_draw 3 = .ok (.if_icmp .ge 9, 3) := by decide +kernel
theorem dL_draw_6 : decode cL_draw 6 = .ok (.aload_n 0, 1) := by decide +kernel
theorem dL_draw_7 : decode cL_draw 7 = .ok (.iload_n 1, 1) := by decide +kernel
theorem dL_draw_8 : decode cL_draw 8 = .ok (.iaload, 1) := by decide +kernel
theorem dL_draw_9 : decode cL_draw 9 = .ok (.goto 11, 3) := by decide +kernel
theorem dL_draw_12 : decode cL_draw 12 = .ok (.ldc 7, 2) := by decide +kernel
theorem dL_draw_14 : decode cL_draw 14 = .ok (.iload_n 1, 1) := by decide +kernel
theorem dL_draw_15 : decode cL_draw 15 = .ok (.imul, 1) := by decide +kernel
theorem dL_draw_16 : decode cL_draw 16 = .ok (.sipush 10321, 3) := by decide +kernel
theorem dL_draw_19 : decode cL_draw 19 = .ok (.iadd, 1) := by decide +kernel
theorem dL_draw_20 : decode cL_draw 20 = .ok (.ldc 8, 2) := by decide +kernel
theorem dL_draw_22 : decode cL_draw 22 = .ok (.iand, 1) := by decide +kernel
theorem dL_draw_23 : decode cL_draw 23 = .ok (.ireturn, 1) := by decide +kernel
theorem dL_in_0 : decode cL_in 0 = .ok (.lload_n 0, 1) := by decide +kernel
theorem dL_in_1 : decode cL_in 1 = .ok (.lload_n 2, 1) := by decide +kernel
theorem dL_in_2 : decode cL_in 2 = .ok (.lcmp, 1) := by decide +kernel
theorem dL_in_3 : decode cL_in 3 = .ok (.ifCond .lt 14, 3) := by decide +kernel
theorem dL_in_6 : decode cL_in 6 = .ok (.lload_n 0, 1) := by decide +kernel
theorem dL_in_7 : decode cL_in 7 = .ok (.lload 4, 2) := by decide +kernel
theorem dL_in_9 : decode cL_in 9 = .ok (.lcmp, 1) := by decide +kernel
theorem dL_in_10 : decode cL_in 10 = .ok (.ifCond .gt 7, 3) := by decide +kernel
theorem dL_in_13 : decode cL_in 13 = .ok (.iconst 1, 1) := by decide +kernel
theorem dL_in_14 : decode cL_in 14 = .ok (.goto 4, 3) := by decide +kernel
theorem dL_in_17 : decode cL_in 17 = .ok (.iconst 0, 1) := by decide +kernel
theorem dL_in_18 : decode cL_in 18 = .ok (.ireturn, 1) := by decide +kernel
theorem dL_append_0 : decode cL_append 0 = .ok (.aload_n 0, 1) := by decide +kernel
theorem dL_append_1 : decode cL_append 1 = .ok (.iload_n 1, 1) := by decide +kernel
theorem dL_append_2 : decode cL_append 2 = .ok (.invokevirtual 9, 3) := by decide +kernel
theorem dL_append_5 : decode cL_append 5 = .ok (.i2l, 1) := by decide +kernel
theorem dL_append_6 : decode cL_append 6 = .ok (.lreturn, 1) := by decide +kernel
theorem dL_append_7 : decode cL_append 7 = .ok (.astore_n 2, 1) := by decide +kernel
theorem dL_append_8 : decode cL_append 8 = .ok (.ldc2_w 17, 3) := by decide +kernel
theorem dL_append_11 : decode cL_append 11 = .ok (.lreturn, 1) := by decide +kernel
theorem dL_append_12 : decode cL_append 12 = .ok (.astore_n 2, 1) := by decide +kernel
theorem dL_append_13 : decode cL_append 13 = .ok (.ldc2_w 21, 3) := by decide +kernel
theorem dL_append_16 : decode cL_append 16 = .ok (.lreturn, 1) := by decide +kernel
theorem dL_load_0 : decode cL_load 0 = .ok (.aload_n 0, 1) := by decide +kernel
theorem dL_load_1 : decode cL_load 1 = .ok (.invokevirtual 23, 3) := by decide +kernel
theorem dL_load_4 : decode cL_load 4 = .ok (.i2l, 1) := by decide +kernel
theorem dL_load_5 : decode cL_load 5 = .ok (.lreturn, 1) := by decide +kernel
theorem dL_load_6 : decode cL_load 6 = .ok (.astore_n 1, 1) := by decide +kernel
theorem dL_load_7 : decode cL_load 7 = .ok (.ldc2_w 21, 3) := by decide +kernel
theorem dL_load_10 : decode cL_load 10 = .ok (.lreturn, 1) := by decide +kernel
theorem dL_about_0 : decode cL_about 0 = .ok (.aload_n 0, 1) := by decide +kernel
theorem dL_about_1 : decode cL_about 1 = .ok (.iload_n 1, 1) := by decide +kernel
theorem dL_about_2 : decode cL_about 2 = .ok (.invokevirtual 27, 3) := by decide +kernel
theorem dL_about_5 : decode cL_about 5 = .ok (.i2l, 1) := by decide +kernel
theorem dL_about_6 : decode cL_about 6 = .ok (.lreturn, 1) := by decide +kernel
theorem dL_about_7 : decode cL_about 7 = .ok (.astore_n 2, 1) := by decide +kernel
theorem dL_about_8 : decode cL_about 8 = .ok (.ldc2_w 17, 3) := by decide +kernel
theorem dL_about_11 : decode cL_about 11 = .ok (.lreturn, 1) := by decide +kernel
theorem dL_setting_0 : decode cL_setting 0 = .ok (.aload_n 0, 1) := by decide +kernel
theorem dL_setting_1 : decode cL_setting 1 = .ok (.iload_n 1, 1) := by decide +kernel
theorem dL_setting_2 : decode cL_setting 2 = .ok (.invokevirtual 30, 3) := by decide +kernel
theorem dL_setting_5 : decode cL_setting 5 = .ok (.i2l, 1) := by decide +kernel
theorem dL_setting_6 : decode cL_setting 6 = .ok (.lreturn, 1) := by decide +kernel
theorem dL_setting_7 : decode cL_setting 7 = .ok (.astore_n 2, 1) := by decide +kernel
theorem dL_setting_8 : decode cL_setting 8 = .ok (.ldc2_w 17, 3) := by decide +kernel
theorem dL_setting_11 : decode cL_setting 11 = .ok (.lreturn, 1) := by decide +kernel
theorem dL_place_0 : decode cL_place 0 = .ok (.aload_n 0, 1) := by decide +kernel
theorem dL_place_1 : decode cL_place 1 = .ok (.iload_n 1, 1) := by decide +kernel
theorem dL_place_2 : decode cL_place 2 = .ok (.iload_n 2, 1) := by decide +kernel
theorem dL_place_3 : decode cL_place 3 = .ok (.invokevirtual 33, 3) := by decide +kernel
theorem dL_place_6 : decode cL_place 6 = .ok (.i2l, 1) := by decide +kernel
theorem dL_place_7 : decode cL_place 7 = .ok (.lreturn, 1) := by decide +kernel
theorem dL_place_8 : decode cL_place 8 = .ok (.astore_n 3, 1) := by decide +kernel
theorem dL_place_9 : decode cL_place 9 = .ok (.ldc2_w 39, 3) := by decide +kernel
theorem dL_place_12 : decode cL_place 12 = .ok (.lreturn, 1) := by decide +kernel
theorem dL_place_13 : decode cL_place 13 = .ok (.astore_n 3, 1) := by decide +kernel
theorem dL_place_14 : decode cL_place 14 = .ok (.ldc2_w 17, 3) := by decide +kernel
theorem dL_place_17 : decode cL_place 17 = .ok (.lreturn, 1) := by decide +kernel
theorem dL_room_0 : decode cL_room 0 = .ok (.aload_n 0, 1) := by decide +kernel
theorem dL_room_1 : decode cL_room 1 = .ok (.iload_n 1, 1) := by decide +kernel
theorem dL_room_2 : decode cL_room 2 = .ok (.iload_n 2, 1) := by decide +kernel
theorem dL_room_3 : decode cL_room 3 = .ok (.invokevirtual 41, 3) := by decide +kernel
theorem dL_room_6 : decode cL_room 6 = .ok (.i2l, 1) := by decide +kernel
theorem dL_room_7 : decode cL_room 7 = .ok (.lreturn, 1) := by decide +kernel
theorem dL_room_8 : decode cL_room 8 = .ok (.astore_n 3, 1) := by decide +kernel
theorem dL_room_9 : decode cL_room 9 = .ok (.ldc2_w 39, 3) := by decide +kernel
theorem dL_room_12 : decode cL_room 12 = .ok (.lreturn, 1) := by decide +kernel
theorem dL_room_13 : decode cL_room 13 = .ok (.astore_n 3, 1) := by decide +kernel
theorem dL_room_14 : decode cL_room 14 = .ok (.ldc2_w 17, 3) := by decide +kernel
theorem dL_room_17 : decode cL_room 17 = .ok (.lreturn, 1) := by decide +kernel
theorem dL_moved_0 : decode cL_moved 0 = .ok (.aload_n 0, 1) := by decide +kernel
theorem dL_moved_1 : decode cL_moved 1 = .ok (.iload_n 1, 1) := by decide +kernel
theorem dL_moved_2 : decode cL_moved 2 = .ok (.iload_n 2, 1) := by decide +kernel
theorem dL_moved_3 : decode cL_moved 3 = .ok (.invokevirtual 44, 3) := by decide +kernel
theorem dL_moved_6 : decode cL_moved 6 = .ok (.i2l, 1) := by decide +kernel
theorem dL_moved_7 : decode cL_moved 7 = .ok (.lreturn, 1) := by decide +kernel
theorem dL_moved_8 : decode cL_moved 8 = .ok (.astore_n 3, 1) := by decide +kernel
theorem dL_moved_9 : decode cL_moved 9 = .ok (.ldc2_w 17, 3) := by decide +kernel
theorem dL_moved_12 : decode cL_moved 12 = .ok (.lreturn, 1) := by decide +kernel
theorem dL_way_0 : decode cL_way 0 = .ok (.aload_n 0, 1) := by decide +kernel
theorem dL_way_1 : decode cL_way 1 = .ok (.iload_n 1, 1) := by decide +kernel
theorem dL_way_2 : decode cL_way 2 = .ok (.iload_n 2, 1) := by decide +kernel
theorem dL_way_3 : decode cL_way 3 = .ok (.invokevirtual 47, 3) := by decide +kernel
theorem dL_way_6 : decode cL_way 6 = .ok (.i2l, 1) := by decide +kernel
theorem dL_way_7 : decode cL_way 7 = .ok (.lreturn, 1) := by decide +kernel
theorem dL_way_8 : decode cL_way 8 = .ok (.astore_n 3, 1) := by decide +kernel
theorem dL_way_9 : decode cL_way 9 = .ok (.ldc2_w 39, 3) := by decide +kernel
theorem dL_way_12 : decode cL_way 12 = .ok (.lreturn, 1) := by decide +kernel
theorem dL_way_13 : decode cL_way 13 = .ok (.astore_n 3, 1) := by decide +kernel
theorem dL_way_14 : decode cL_way 14 = .ok (.ldc2_w 17, 3) := by decide +kernel
theorem dL_way_17 : decode cL_way 17 = .ok (.lreturn, 1) := by decide +kernel
theorem dL_addRoom_0 : decode cL_addRoom 0 = .ok (.aload_n 0, 1) := by decide +kernel
theorem dL_addRoom_1 : decode cL_addRoom 1 = .ok (.iload_n 1, 1) := by decide +kernel
theorem dL_addRoom_2 : decode cL_addRoom 2 = .ok (.iload_n 2, 1) := by decide +kernel
theorem dL_addRoom_3 : decode cL_addRoom 3 = .ok (.iload_n 3, 1) := by decide +kernel
theorem dL_addRoom_4 : decode cL_addRoom 4 = .ok (.iload 4, 2) := by decide +kernel
theorem dL_addRoom_6 : decode cL_addRoom 6 = .ok (.invokevirtual 50, 3) := by decide +kernel
theorem dL_addRoom_9 : decode cL_addRoom 9 = .ok (.i2l, 1) := by decide +kernel
theorem dL_addRoom_10 : decode cL_addRoom 10 = .ok (.lreturn, 1) := by decide +kernel
theorem dL_addRoom_11 : decode cL_addRoom 11 = .ok (.astore 5, 2) := by decide +kernel
theorem dL_addRoom_13 : decode cL_addRoom 13 = .ok (.ldc2_w 17, 3) := by decide +kernel
theorem dL_addRoom_16 : decode cL_addRoom 16 = .ok (.lreturn, 1) := by decide +kernel
theorem dL_addRoom_17 : decode cL_addRoom 17 = .ok (.astore 5, 2) := by decide +kernel
theorem dL_addRoom_19 : decode cL_addRoom 19 = .ok (.ldc2_w 21, 3) := by decide +kernel
theorem dL_addRoom_22 : decode cL_addRoom 22 = .ok (.lreturn, 1) := by decide +kernel
theorem dL_setRoom_0 : decode cL_setRoom 0 = .ok (.aload_n 0, 1) := by decide +kernel
theorem dL_setRoom_1 : decode cL_setRoom 1 = .ok (.iload_n 1, 1) := by decide +kernel
theorem dL_setRoom_2 : decode cL_setRoom 2 = .ok (.iload_n 2, 1) := by decide +kernel
theorem dL_setRoom_3 : decode cL_setRoom 3 = .ok (.iload_n 3, 1) := by decide +kernel
theorem dL_setRoom_4 : decode cL_setRoom 4 = .ok (.invokevirtual 54, 3) := by decide +kernel
theorem dL_setRoom_7 : decode cL_setRoom 7 = .ok (.i2l, 1) := by decide +kernel
theorem dL_setRoom_8 : decode cL_setRoom 8 = .ok (.lreturn, 1) := by decide +kernel
theorem dL_setRoom_9 : decode cL_setRoom 9 = .ok (.astore 4, 2) := by decide +kernel
theorem dL_setRoom_11 : decode cL_setRoom 11 = .ok (.ldc2_w 39, 3) := by decide +kernel
theorem dL_setRoom_14 : decode cL_setRoom 14 = .ok (.lreturn, 1) := by decide +kernel
theorem dL_setRoom_15 : decode cL_setRoom 15 = .ok (.astore 4, 2) := by decide +kernel
theorem dL_setRoom_17 : decode cL_setRoom 17 = .ok (.ldc2_w 17, 3) := by decide +kernel
theorem dL_setRoom_20 : decode cL_setRoom 20 = .ok (.lreturn, 1) := by decide +kernel
theorem dL_window_0 : decode cL_window 0 = .ok (.aload_n 0, 1) := by decide +kernel
theorem dL_window_1 : decode cL_window 1 = .ok (.iload_n 1, 1) := by decide +kernel
theorem dL_window_2 : decode cL_window 2 = .ok (.iload_n 2, 1) := by decide +kernel
theorem dL_window_3 : decode cL_window 3 = .ok (.invokevirtual 58, 3) := by decide +kernel
theorem dL_window_6 : decode cL_window 6 = .ok (.i2l, 1) := by decide +kernel
theorem dL_window_7 : decode cL_window 7 = .ok (.lreturn, 1) := by decide +kernel
theorem dL_window_8 : decode cL_window 8 = .ok (.astore_n 3, 1) := by decide +kernel
theorem dL_window_9 : decode cL_window 9 = .ok (.ldc2_w 39, 3) := by decide +kernel
theorem dL_window_12 : decode cL_window 12 = .ok (.lreturn, 1) := by decide +kernel
theorem dL_set_0 : decode cL_set 0 = .ok (.aload_n 0, 1) := by decide +kernel
theorem dL_set_1 : decode cL_set 1 = .ok (.iload_n 1, 1) := by decide +kernel
theorem dL_set_2 : decode cL_set 2 = .ok (.iload_n 2, 1) := by decide +kernel
theorem dL_set_3 : decode cL_set 3 = .ok (.invokevirtual 62, 3) := by decide +kernel
theorem dL_set_6 : decode cL_set 6 = .ok (.i2l, 1) := by decide +kernel
theorem dL_set_7 : decode cL_set 7 = .ok (.lreturn, 1) := by decide +kernel
theorem dL_set_8 : decode cL_set 8 = .ok (.astore_n 3, 1) := by decide +kernel
theorem dL_set_9 : decode cL_set 9 = .ok (.ldc2_w 17, 3) := by decide +kernel
theorem dL_set_12 : decode cL_set 12 = .ok (.lreturn, 1) := by decide +kernel
theorem dL_outside_0 : decode cL_outside 0 = .ok (.aload_n 0, 1) := by decide +kernel
theorem dL_outside_1 : decode cL_outside 1 = .ok (.iload_n 1, 1) := by decide +kernel
theorem dL_outside_2 : decode cL_outside 2 = .ok (.invokevirtual 65, 3) := by decide +kernel
theorem dL_outside_5 : decode cL_outside 5 = .ok (.i2l, 1) := by decide +kernel
theorem dL_outside_6 : decode cL_outside 6 = .ok (.lreturn, 1) := by decide +kernel
theorem dL_outside_7 : decode cL_outside 7 = .ok (.astore_n 2, 1) := by decide +kernel
theorem dL_outside_8 : decode cL_outside 8 = .ok (.ldc2_w 17, 3) := by decide +kernel
theorem dL_outside_11 : decode cL_outside 11 = .ok (.lreturn, 1) := by decide +kernel
theorem dL_pass_0 : decode cL_pass 0 = .ok (.aload_n 0, 1) := by decide +kernel
theorem dL_pass_1 : decode cL_pass 1 = .ok (.iload_n 1, 1) := by decide +kernel
theorem dL_pass_2 : decode cL_pass 2 = .ok (.invokevirtual 68, 3) := by decide +kernel
theorem dL_pass_5 : decode cL_pass 5 = .ok (.i2l, 1) := by decide +kernel
theorem dL_pass_6 : decode cL_pass 6 = .ok (.lreturn, 1) := by decide +kernel
theorem dL_pass_7 : decode cL_pass 7 = .ok (.astore_n 2, 1) := by decide +kernel
theorem dL_pass_8 : decode cL_pass 8 = .ok (.ldc2_w 17, 3) := by decide +kernel
theorem dL_pass_11 : decode cL_pass 11 = .ok (.lreturn, 1) := by decide +kernel
theorem dL_undo_0 : decode cL_undo 0 = .ok (.aload_n 0, 1) := by decide +kernel
theorem dL_undo_1 : decode cL_undo 1 = .ok (.invokevirtual 71, 3) := by decide +kernel
theorem dL_undo_4 : decode cL_undo 4 = .ok (.i2l, 1) := by decide +kernel
theorem dL_undo_5 : decode cL_undo 5 = .ok (.lreturn, 1) := by decide +kernel
theorem dL_undo_6 : decode cL_undo 6 = .ok (.astore_n 1, 1) := by decide +kernel
theorem dL_undo_7 : decode cL_undo 7 = .ok (.ldc2_w 21, 3) := by decide +kernel
theorem dL_undo_10 : decode cL_undo 10 = .ok (.lreturn, 1) := by decide +kernel
theorem dL_ahead_0 : decode cL_ahead 0 = .ok (.aload_n 0, 1) := by decide +kernel
theorem dL_ahead_1 : decode cL_ahead 1 = .ok (.iload_n 1, 1) := by decide +kernel
theorem dL_ahead_2 : decode cL_ahead 2 = .ok (.iload_n 2, 1) := by decide +kernel
theorem dL_ahead_3 : decode cL_ahead 3 = .ok (.invokevirtual 74, 3) := by decide +kernel
theorem dL_ahead_6 : decode cL_ahead 6 = .ok (.i2l, 1) := by decide +kernel
theorem dL_ahead_7 : decode cL_ahead 7 = .ok (.lreturn, 1) := by decide +kernel
theorem dL_ahead_8 : decode cL_ahead 8 = .ok (.astore_n 3, 1) := by decide +kernel
theorem dL_ahead_9 : decode cL_ahead 9 = .ok (.ldc2_w 39, 3) := by decide +kernel
theorem dL_ahead_12 : decode cL_ahead 12 = .ok (.lreturn, 1) := by decide +kernel
theorem dL_ahead_13 : decode cL_ahead 13 = .ok (.astore_n 3, 1) := by decide +kernel
theorem dL_ahead_14 : decode cL_ahead 14 = .ok (.ldc2_w 17, 3) := by decide +kernel
theorem dL_ahead_17 : decode cL_ahead 17 = .ok (.lreturn, 1) := by decide +kernel
theorem dL_minutesTo_0 : decode cL_minutesTo 0 = .ok (.aload_n 0, 1) := by decide +kernel
theorem dL_minutesTo_1 : decode cL_minutesTo 1 = .ok (.iload_n 1, 1) := by decide +kernel
theorem dL_minutesTo_2 : decode cL_minutesTo 2 = .ok (.invokevirtual 77, 3) := by decide +kernel
theorem dL_minutesTo_5 : decode cL_minutesTo 5 = .ok (.i2l, 1) := by decide +kernel
theorem dL_minutesTo_6 : decode cL_minutesTo 6 = .ok (.lreturn, 1) := by decide +kernel
theorem dL_minutesTo_7 : decode cL_minutesTo 7 = .ok (.astore_n 2, 1) := by decide +kernel
theorem dL_minutesTo_8 : decode cL_minutesTo 8 = .ok (.ldc2_w 39, 3) := by decide +kernel
theorem dL_minutesTo_11 : decode cL_minutesTo 11 = .ok (.lreturn, 1) := by decide +kernel
theorem dL_bestSlope_0 : decode cL_bestSlope 0 = .ok (.aload_n 0, 1) := by decide +kernel
theorem dL_bestSlope_1 : decode cL_bestSlope 1 = .ok (.iload_n 1, 1) := by decide +kernel
theorem dL_bestSlope_2 : decode cL_bestSlope 2 = .ok (.invokevirtual 80, 3) := by decide +kernel
theorem dL_bestSlope_5 : decode cL_bestSlope 5 = .ok (.i2l, 1) := by decide +kernel
theorem dL_bestSlope_6 : decode cL_bestSlope 6 = .ok (.lreturn, 1) := by decide +kernel
theorem dL_bestSlope_7 : decode cL_bestSlope 7 = .ok (.astore_n 2, 1) := by decide +kernel
theorem dL_bestSlope_8 : decode cL_bestSlope 8 = .ok (.ldc2_w 17, 3) := by decide +kernel
theorem dL_bestSlope_11 : decode cL_bestSlope 11 = .ok (.lreturn, 1) := by decide +kernel
theorem dL_leastPower_0 : decode cL_leastPower 0 = .ok (.aload_n 0, 1) := by decide +kernel
theorem dL_leastPower_1 : decode cL_leastPower 1 = .ok (.iload_n 1, 1) := by decide +kernel
theorem dL_leastPower_2 : decode cL_leastPower 2 = .ok (.invokevirtual 83, 3) := by decide +kernel
theorem dL_leastPower_5 : decode cL_leastPower 5 = .ok (.i2l, 1) := by decide +kernel
theorem dL_leastPower_6 : decode cL_leastPower 6 = .ok (.lreturn, 1) := by decide +kernel
theorem dL_leastPower_7 : decode cL_leastPower 7 = .ok (.astore_n 2, 1) := by decide +kernel
theorem dL_leastPower_8 : decode cL_leastPower 8 = .ok (.ldc2_w 17, 3) := by decide +kernel
theorem dL_leastPower_11 : decode cL_leastPower 11 = .ok (.lreturn, 1) := by decide +kernel
theorem dL_heatFor_0 : decode cL_heatFor 0 = .ok (.aload_n 0, 1) := by decide +kernel
theorem dL_heatFor_1 : decode cL_heatFor 1 = .ok (.iload_n 1, 1) := by decide +kernel
theorem dL_heatFor_2 : decode cL_heatFor 2 = .ok (.invokevirtual 86, 3) := by decide +kernel
theorem dL_heatFor_5 : decode cL_heatFor 5 = .ok (.i2l, 1) := by decide +kernel
theorem dL_heatFor_6 : decode cL_heatFor 6 = .ok (.lreturn, 1) := by decide +kernel
theorem dL_heatFor_7 : decode cL_heatFor 7 = .ok (.astore_n 2, 1) := by decide +kernel
theorem dL_heatFor_8 : decode cL_heatFor 8 = .ok (.ldc2_w 17, 3) := by decide +kernel
theorem dL_heatFor_11 : decode cL_heatFor 11 = .ok (.lreturn, 1) := by decide +kernel
theorem dL_script_0 : decode cL_script 0 = .ok (.aload_n 0, 1) := by decide +kernel
theorem dL_script_1 : decode cL_script 1 = .ok (.iload_n 1, 1) := by decide +kernel
theorem dL_script_2 : decode cL_script 2 = .ok (.lload_n 2, 1) := by decide +kernel
theorem dL_script_3 : decode cL_script 3 = .ok (.invokevirtual 89, 3) := by decide +kernel
theorem dL_script_6 : decode cL_script 6 = .ok (.i2l, 1) := by decide +kernel
theorem dL_script_7 : decode cL_script 7 = .ok (.lreturn, 1) := by decide +kernel
theorem dL_script_8 : decode cL_script 8 = .ok (.astore 4, 2) := by decide +kernel
theorem dL_script_10 : decode cL_script 10 = .ok (.ldc2_w 17, 3) := by decide +kernel
theorem dL_script_13 : decode cL_script 13 = .ok (.lreturn, 1) := by decide +kernel
theorem dL_simulate_0 : decode cL_simulate 0 = .ok (.aload_n 0, 1) := by decide +kernel
theorem dL_simulate_1 : decode cL_simulate 1 = .ok (.lload_n 1, 1) := by decide +kernel
theorem dL_simulate_2 : decode cL_simulate 2 = .ok (.iload_n 3, 1) := by decide +kernel
theorem dL_simulate_3 : decode cL_simulate 3 = .ok (.invokevirtual 93, 3) := by decide +kernel
theorem dL_simulate_6 : decode cL_simulate 6 = .ok (.lreturn, 1) := by decide +kernel
theorem dL_simulate_7 : decode cL_simulate 7 = .ok (.astore 4, 2) := by decide +kernel
theorem dL_simulate_9 : decode cL_simulate 9 = .ok (.ldc2_w 17, 3) := by decide +kernel
theorem dL_simulate_12 : decode cL_simulate 12 = .ok (.lreturn, 1) := by decide +kernel
theorem dL_save_0 : decode cL_save 0 = .ok (.aload_n 0, 1) := by decide +kernel
theorem dL_save_1 : decode cL_save 1 = .ok (.iload_n 1, 1) := by decide +kernel
theorem dL_save_2 : decode cL_save 2 = .ok (.invokevirtual 97, 3) := by decide +kernel
theorem dL_save_5 : decode cL_save 5 = .ok (.i2l, 1) := by decide +kernel
theorem dL_save_6 : decode cL_save 6 = .ok (.lreturn, 1) := by decide +kernel
theorem dL_save_7 : decode cL_save 7 = .ok (.astore_n 2, 1) := by decide +kernel
theorem dL_save_8 : decode cL_save 8 = .ok (.ldc2_w 39, 3) := by decide +kernel
theorem dL_save_11 : decode cL_save 11 = .ok (.lreturn, 1) := by decide +kernel
theorem dL_restore_0 : decode cL_restore 0 = .ok (.aload_n 0, 1) := by decide +kernel
theorem dL_restore_1 : decode cL_restore 1 = .ok (.iload_n 1, 1) := by decide +kernel
theorem dL_restore_2 : decode cL_restore 2 = .ok (.invokevirtual 100, 3) := by decide +kernel
theorem dL_restore_5 : decode cL_restore 5 = .ok (.i2l, 1) := by decide +kernel
theorem dL_restore_6 : decode cL_restore 6 = .ok (.lreturn, 1) := by decide +kernel
theorem dL_restore_7 : decode cL_restore 7 = .ok (.astore_n 2, 1) := by decide +kernel
theorem dL_restore_8 : decode cL_restore 8 = .ok (.ldc2_w 39, 3) := by decide +kernel
theorem dL_restore_11 : decode cL_restore 11 = .ok (.lreturn, 1) := by decide +kernel
theorem dL_restore_12 : decode cL_restore 12 = .ok (.astore_n 2, 1) := by decide +kernel
theorem dL_restore_13 : decode cL_restore 13 = .ok (.ldc2_w 21, 3) := by decide +kernel
theorem dL_restore_16 : decode cL_restore 16 = .ok (.lreturn, 1) := by decide +kernel
theorem dL_now_0 : decode cL_now 0 = .ok (.ldc2_w 103, 3) := by decide +kernel
theorem dL_now_3 : decode cL_now 3 = .ok (.lstore_n 1, 1) := by decide +kernel
theorem dL_now_4 : decode cL_now 4 = .ok (.iconst 0, 1) := by decide +kernel
theorem dL_now_5 : decode cL_now 5 = .ok (.istore_n 3, 1) := by decide +kernel
theorem dL_now_6 : decode cL_now 6 = .ok (.iload_n 3, 1) := by decide +kernel
theorem dL_now_7 : decode cL_now 7 = .ok (.bipush 13, 2) := by decide +kernel
theorem dL_now_9 : decode cL_now 9 = .ok (.if_icmp .ge 21, 3) := by decide +kernel
theorem dL_now_12 : decode cL_now 12 = .ok (.ldc2_w 105, 3) := by decide +kernel
theorem dL_now_15 : decode cL_now 15 = .ok (.lload_n 1, 1) := by decide +kernel
theorem dL_now_16 : decode cL_now 16 = .ok (.lmul, 1) := by decide +kernel
theorem dL_now_17 : decode cL_now 17 = .ok (.aload_n 0, 1) := by decide +kernel
theorem dL_now_18 : decode cL_now 18 = .ok (.iload_n 3, 1) := by decide +kernel
theorem dL_now_19 : decode cL_now 19 = .ok (.invokestatic 107, 3) := by decide +kernel
theorem dL_now_22 : decode cL_now 22 = .ok (.ladd, 1) := by decide +kernel
theorem dL_now_23 : decode cL_now 23 = .ok (.lstore_n 1, 1) := by decide +kernel
theorem dL_now_24 : decode cL_now 24 = .ok (.iinc 3 1, 3) := by decide +kernel
theorem dL_now_27 : decode cL_now 27 = .ok (.goto (-21), 3) := by decide +kernel
theorem dL_now_30 : decode cL_now 30 = .ok (.iconst 0, 1) := by decide +kernel
theorem dL_now_31 : decode cL_now 31 = .ok (.istore_n 3, 1) := by decide +kernel
theorem dL_now_32 : decode cL_now 32 = .ok (.iload_n 3, 1) := by decide +kernel
theorem dL_now_33 : decode cL_now 33 = .ok (.bipush 9, 2) := by decide +kernel
theorem dL_now_35 : decode cL_now 35 = .ok (.if_icmp .ge 21, 3) := by decide +kernel
theorem dL_now_38 : decode cL_now 38 = .ok (.ldc2_w 105, 3) := by decide +kernel
theorem dL_now_41 : decode cL_now 41 = .ok (.lload_n 1, 1) := by decide +kernel
theorem dL_now_42 : decode cL_now 42 = .ok (.lmul, 1) := by decide +kernel
theorem dL_now_43 : decode cL_now 43 = .ok (.aload_n 0, 1) := by decide +kernel
theorem dL_now_44 : decode cL_now 44 = .ok (.iload_n 3, 1) := by decide +kernel
theorem dL_now_45 : decode cL_now 45 = .ok (.invokestatic 112, 3) := by decide +kernel
theorem dL_now_48 : decode cL_now 48 = .ok (.ladd, 1) := by decide +kernel
theorem dL_now_49 : decode cL_now 49 = .ok (.lstore_n 1, 1) := by decide +kernel
theorem dL_now_50 : decode cL_now 50 = .ok (.iinc 3 1, 3) := by decide +kernel
theorem dL_now_53 : decode cL_now 53 = .ok (.goto (-21), 3) := by decide +kernel
theorem dL_now_56 : decode cL_now 56 = .ok (.iconst 0, 1) := by decide +kernel
theorem dL_now_57 : decode cL_now 57 = .ok (.istore_n 3, 1) := by decide +kernel
theorem dL_now_58 : decode cL_now 58 = .ok (.iload_n 3, 1) := by decide +kernel
theorem dL_now_59 : decode cL_now 59 = .ok (.i2l, 1) := by decide +kernel
theorem dL_now_60 : decode cL_now 60 = .ok (.aload_n 0, 1) := by decide +kernel
theorem dL_now_61 : decode cL_now 61 = .ok (.iconst 0, 1) := by decide +kernel
theorem dL_now_62 : decode cL_now 62 = .ok (.invokestatic 107, 3) := by decide +kernel
theorem dL_now_65 : decode cL_now 65 = .ok (.ldc2_w 114, 3) := by decide +kernel
theorem dL_now_68 : decode cL_now 68 = .ok (.ladd, 1) := by decide +kernel
theorem dL_now_69 : decode cL_now 69 = .ok (.lcmp, 1) := by decide +kernel
theorem dL_now_70 : decode cL_now 70 = .ok (.ifCond .ge 22, 3) := by decide +kernel
theorem dL_now_73 : decode cL_now 73 = .ok (.ldc2_w 105, 3) := by decide +kernel
theorem dL_now_76 : decode cL_now 76 = .ok (.lload_n 1, 1) := by decide +kernel
theorem dL_now_77 : decode cL_now 77 = .ok (.lmul, 1) := by decide +kernel
theorem dL_now_78 : decode cL_now 78 = .ok (.aload_n 0, 1) := by decide +kernel
theorem dL_now_79 : decode cL_now 79 = .ok (.iload_n 3, 1) := by decide +kernel
theorem dL_now_80 : decode cL_now 80 = .ok (.iconst 0, 1) := by decide +kernel
theorem dL_now_81 : decode cL_now 81 = .ok (.invokestatic 116, 3) := by decide +kernel
theorem dL_now_84 : decode cL_now 84 = .ok (.ladd, 1) := by decide +kernel
theorem dL_now_85 : decode cL_now 85 = .ok (.lstore_n 1, 1) := by decide +kernel
theorem dL_now_86 : decode cL_now 86 = .ok (.iinc 3 1, 3) := by decide +kernel
theorem dL_now_89 : decode cL_now 89 = .ok (.goto (-31), 3) := by decide +kernel
theorem dL_now_92 : decode cL_now 92 = .ok (.iconst 0, 1) := by decide +kernel
theorem dL_now_93 : decode cL_now 93 = .ok (.istore_n 3, 1) := by decide +kernel
theorem dL_now_94 : decode cL_now 94 = .ok (.iload_n 3, 1) := by decide +kernel
theorem dL_now_95 : decode cL_now 95 = .ok (.i2l, 1) := by decide +kernel
theorem dL_now_96 : decode cL_now 96 = .ok (.aload_n 0, 1) := by decide +kernel
theorem dL_now_97 : decode cL_now 97 = .ok (.iconst 0, 1) := by decide +kernel
theorem dL_now_98 : decode cL_now 98 = .ok (.invokestatic 107, 3) := by decide +kernel
theorem dL_now_101 : decode cL_now 101 = .ok (.lcmp, 1) := by decide +kernel
theorem dL_now_102 : decode cL_now 102 = .ok (.ifCond .ge 39, 3) := by decide +kernel
theorem dL_now_105 : decode cL_now 105 = .ok (.iconst 0, 1) := by decide +kernel
theorem dL_now_106 : decode cL_now 106 = .ok (.istore 4, 2) := by decide +kernel
theorem dL_now_108 : decode cL_now 108 = .ok (.iload 4, 2) := by decide +kernel
theorem dL_now_110 : decode cL_now 110 = .ok (.bipush 7, 2) := by decide +kernel
theorem dL_now_112 : decode cL_now 112 = .ok (.if_icmp .ge 23, 3) := by decide +kernel
theorem dL_now_115 : decode cL_now 115 = .ok (.ldc2_w 105, 3) := by decide +kernel
theorem dL_now_118 : decode cL_now 118 = .ok (.lload_n 1, 1) := by decide +kernel
theorem dL_now_119 : decode cL_now 119 = .ok (.lmul, 1) := by decide +kernel
theorem dL_now_120 : decode cL_now 120 = .ok (.aload_n 0, 1) := by decide +kernel
theorem dL_now_121 : decode cL_now 121 = .ok (.iload_n 3, 1) := by decide +kernel
theorem dL_now_122 : decode cL_now 122 = .ok (.iload 4, 2) := by decide +kernel
theorem dL_now_124 : decode cL_now 124 = .ok (.invokestatic 119, 3) := by decide +kernel
theorem dL_now_127 : decode cL_now 127 = .ok (.ladd, 1) := by decide +kernel
theorem dL_now_128 : decode cL_now 128 = .ok (.lstore_n 1, 1) := by decide +kernel
theorem dL_now_129 : decode cL_now 129 = .ok (.iinc 4 1, 3) := by decide +kernel
theorem dL_now_132 : decode cL_now 132 = .ok (.goto (-24), 3) := by decide +kernel
theorem dL_now_135 : decode cL_now 135 = .ok (.iinc 3 1, 3) := by decide +kernel
theorem dL_now_138 : decode cL_now 138 = .ok (.goto (-44), 3) := by decide +kernel
theorem dL_now_141 : decode cL_now 141 = .ok (.iconst 0, 1) := by decide +kernel
theorem dL_now_142 : decode cL_now 142 = .ok (.istore_n 3, 1) := by decide +kernel
theorem dL_now_143 : decode cL_now 143 = .ok (.iload_n 3, 1) := by decide +kernel
theorem dL_now_144 : decode cL_now 144 = .ok (.i2l, 1) := by decide +kernel
theorem dL_now_145 : decode cL_now 145 = .ok (.aload_n 0, 1) := by decide +kernel
theorem dL_now_146 : decode cL_now 146 = .ok (.bipush 11, 2) := by decide +kernel
theorem dL_now_148 : decode cL_now 148 = .ok (.invokestatic 107, 3) := by decide +kernel
theorem dL_now_151 : decode cL_now 151 = .ok (.lcmp, 1) := by decide +kernel
theorem dL_now_152 : decode cL_now 152 = .ok (.ifCond .ge 44, 3) := by decide +kernel
theorem dL_now_155 : decode cL_now 155 = .ok (.ldc2_w 105, 3) := by decide +kernel
theorem dL_now_158 : decode cL_now 158 = .ok (.ldc2_w 105, 3) := by decide +kernel
theorem dL_now_161 : decode cL_now 161 = .ok (.ldc2_w 105, 3) := by decide +kernel
theorem dL_now_164 : decode cL_now 164 = .ok (.lload_n 1, 1) := by decide +kernel
theorem dL_now_165 : decode cL_now 165 = .ok (.lmul, 1) := by decide +kernel
theorem dL_now_166 : decode cL_now 166 = .ok (.aload_n 0, 1) := by decide +kernel
theorem dL_now_167 : decode cL_now 167 = .ok (.iload_n 3, 1) := by decide +kernel
theorem dL_now_168 : decode cL_now 168 = .ok (.iconst 0, 1) := by decide +kernel
theorem dL_now_169 : decode cL_now 169 = .ok (.invokestatic 121, 3) := by decide +kernel
theorem dL_now_172 : decode cL_now 172 = .ok (.ladd, 1) := by decide +kernel
theorem dL_now_173 : decode cL_now 173 = .ok (.lmul, 1) := by decide +kernel
theorem dL_now_174 : decode cL_now 174 = .ok (.aload_n 0, 1) := by decide +kernel
theorem dL_now_175 : decode cL_now 175 = .ok (.iload_n 3, 1) := by decide +kernel
theorem dL_now_176 : decode cL_now 176 = .ok (.iconst 1, 1) := by decide +kernel
theorem dL_now_177 : decode cL_now 177 = .ok (.invokestatic 121, 3) := by decide +kernel
theorem dL_now_180 : decode cL_now 180 = .ok (.ladd, 1) := by decide +kernel
theorem dL_now_181 : decode cL_now 181 = .ok (.lmul, 1) := by decide +kernel
theorem dL_now_182 : decode cL_now 182 = .ok (.aload_n 0, 1) := by decide +kernel
theorem dL_now_183 : decode cL_now 183 = .ok (.iload_n 3, 1) := by decide +kernel
theorem dL_now_184 : decode cL_now 184 = .ok (.iconst 2, 1) := by decide +kernel
theorem dL_now_185 : decode cL_now 185 = .ok (.invokestatic 121, 3) := by decide +kernel
theorem dL_now_188 : decode cL_now 188 = .ok (.ladd, 1) := by decide +kernel
theorem dL_now_189 : decode cL_now 189 = .ok (.lstore_n 1, 1) := by decide +kernel
theorem dL_now_190 : decode cL_now 190 = .ok (.iinc 3 1, 3) := by decide +kernel
theorem dL_now_193 : decode cL_now 193 = .ok (.goto (-50), 3) := by decide +kernel
theorem dL_now_196 : decode cL_now 196 = .ok (.lload_n 1, 1) := by decide +kernel
theorem dL_now_197 : decode cL_now 197 = .ok (.lreturn, 1) := by decide +kernel
theorem dL_errors_0 : decode cL_errors 0 = .ok (.aload_n 0, 1) := by decide +kernel
theorem dL_errors_1 : decode cL_errors 1 = .ok (.invokestatic 123, 3) := by decide +kernel
theorem dL_errors_4 : decode cL_errors 4 = .ok (.lstore_n 1, 1) := by decide +kernel
theorem dL_errors_5 : decode cL_errors 5 = .ok (.aload_n 0, 1) := by decide +kernel
theorem dL_errors_6 : decode cL_errors 6 = .ok (.iconst 0, 1) := by decide +kernel
theorem dL_errors_7 : decode cL_errors 7 = .ok (.invokestatic 107, 3) := by decide +kernel
theorem dL_errors_10 : decode cL_errors 10 = .ok (.l2i, 1) := by decide +kernel
theorem dL_errors_11 : decode cL_errors 11 = .ok (.istore_n 3, 1) := by decide +kernel
theorem dL_errors_12 : decode cL_errors 12 = .ok (.aload_n 0, 1) := by decide +kernel
theorem dL_errors_13 : decode cL_errors 13 = .ok (.iconst (-1), 1) := by decide +kernel
theorem dL_errors_14 : decode cL_errors 14 = .ok (.invokestatic 107, 3) := by decide +kernel
theorem dL_errors_17 : decode cL_errors 17 = .ok (.ldc2_w 17, 3) := by decide +kernel
theorem dL_errors_20 : decode cL_errors 20 = .ok (.lcmp, 1) := by decide +kernel
theorem dL_errors_21 : decode cL_errors 21 = .ok (.ifCond .ne 151, 3) := by decide +kernel
theorem dL_errors_24 : decode cL_errors 24 = .ok (.aload_n 0, 1) := by decide +kernel
theorem dL_errors_25 : decode cL_errors 25 = .ok (.bipush 13, 2) := by decide +kernel
theorem dL_errors_27 : decode cL_errors 27 = .ok (.invokestatic 107, 3) := by decide +kernel
theorem dL_errors_30 : decode cL_errors 30 = .ok (.ldc2_w 17, 3) := by decide +kernel
theorem dL_errors_33 : decode cL_errors 33 = .ok (.lcmp, 1) := by decide +kernel
theorem dL_errors_34 : decode cL_errors 34 = .ok (.ifCond .ne 138, 3) := by decide +kernel
theorem dL_errors_37 : decode cL_errors 37 = .ok (.aload_n 0, 1) := by decide +kernel
theorem dL_errors_38 : decode cL_errors 38 = .ok (.bipush 9, 2) := by decide +kernel
theorem dL_errors_40 : decode cL_errors 40 = .ok (.invokestatic 112, 3) := by decide +kernel
theorem dL_errors_43 : decode cL_errors 43 = .ok (.ldc2_w 17, 3) := by decide +kernel
theorem dL_errors_46 : decode cL_errors 46 = .ok (.lcmp, 1) := by decide +kernel
theorem dL_errors_47 : decode cL_errors 47 = .ok (.ifCond .ne 125, 3) := by decide +kernel
theorem dL_errors_50 : decode cL_errors 50 = .ok (.aload_n 0, 1) := by decide +kernel
theorem dL_errors_51 : decode cL_errors 51 = .ok (.iload_n 3, 1) := by decide +kernel
theorem dL_errors_52 : decode cL_errors 52 = .ok (.iconst 2, 1) := by decide +kernel
theorem dL_errors_53 : decode cL_errors 53 = .ok (.iadd, 1) := by decide +kernel
theorem dL_errors_54 : decode cL_errors 54 = .ok (.iconst 5, 1) := by decide +kernel
theorem dL_errors_55 : decode cL_errors 55 = .ok (.invokestatic 116, 3) := by decide +kernel
theorem dL_errors_58 : decode cL_errors 58 = .ok (.ldc2_w 39, 3) := by decide +kernel
theorem dL_errors_61 : decode cL_errors 61 = .ok (.lcmp, 1) := by decide +kernel
theorem dL_errors_62 : decode cL_errors 62 = .ok (.ifCond .ne 110, 3) := by decide +kernel
theorem dL_errors_65 : decode cL_errors 65 = .ok (.aload_n 0, 1) := by decide +kernel
theorem dL_errors_66 : decode cL_errors 66 = .ok (.iconst 1, 1) := by decide +kernel
theorem dL_errors_67 : decode cL_errors 67 = .ok (.iconst 3, 1) := by decide +kernel
theorem dL_errors_68 : decode cL_errors 68 = .ok (.invokestatic 116, 3) := by decide +kernel
theorem dL_errors_71 : decode cL_errors 71 = .ok (.ldc2_w 17, 3) := by decide +kernel
theorem dL_errors_74 : decode cL_errors 74 = .ok (.lcmp, 1) := by decide +kernel
theorem dL_errors_75 : decode cL_errors 75 = .ok (.ifCond .ne 97, 3) := by decide +kernel
theorem dL_errors_78 : decode cL_errors 78 = .ok (.aload_n 0, 1) := by decide +kernel
theorem dL_errors_79 : decode cL_errors 79 = .ok (.iload_n 3, 1) := by decide +kernel
theorem dL_errors_80 : decode cL_errors 80 = .ok (.bipush 9, 2) := by decide +kernel
theorem dL_errors_82 : decode cL_errors 82 = .ok (.invokestatic 119, 3) := by decide +kernel
theorem dL_errors_85 : decode cL_errors 85 = .ok (.ldc2_w 39, 3) := by decide +kernel
theorem dL_errors_88 : decode cL_errors 88 = .ok (.lcmp, 1) := by decide +kernel
theorem dL_errors_89 : decode cL_errors 89 = .ok (.ifCond .ne 83, 3) := by decide +kernel
theorem dL_errors_92 : decode cL_errors 92 = .ok (.iload_n 3, 1) := by decide +kernel
theorem dL_errors_93 : decode cL_errors 93 = .ok (.ifCond .eq 17, 3) := by decide +kernel
theorem dL_errors_96 : decode cL_errors 96 = .ok (.aload_n 0, 1) := by decide +kernel
theorem dL_errors_97 : decode cL_errors 97 = .ok (.iconst 0, 1) := by decide +kernel
theorem dL_errors_98 : decode cL_errors 98 = .ok (.bipush 7, 2) := by decide +kernel
theorem dL_errors_100 : decode cL_errors 100 = .ok (.invokestatic 119, 3) := by decide +kernel
theorem dL_errors_103 : decode cL_errors 103 = .ok (.ldc2_w 17, 3) := by decide +kernel
theorem dL_errors_106 : decode cL_errors 106 = .ok (.lcmp, 1) := by decide +kernel
theorem dL_errors_107 : decode cL_errors 107 = .ok (.ifCond .ne 65, 3) := by decide +kernel
theorem dL_errors_110 : decode cL_errors 110 = .ok (.aload_n 0, 1) := by decide +kernel
theorem dL_errors_111 : decode cL_errors 111 = .ok (.iconst 0, 1) := by decide +kernel
theorem dL_errors_112 : decode cL_errors 112 = .ok (.bipush 10, 2) := by decide +kernel
theorem dL_errors_114 : decode cL_errors 114 = .ok (.invokestatic 127, 3) := by decide +kernel
theorem dL_errors_117 : decode cL_errors 117 = .ok (.ldc2_w 17, 3) := by decide +kernel
theorem dL_errors_120 : decode cL_errors 120 = .ok (.lcmp, 1) := by decide +kernel
theorem dL_errors_121 : decode cL_errors 121 = .ok (.ifCond .ne 51, 3) := by decide +kernel
theorem dL_errors_124 : decode cL_errors 124 = .ok (.aload_n 0, 1) := by decide +kernel
theorem dL_errors_125 : decode cL_errors 125 = .ok (.aload_n 0, 1) := by decide +kernel
theorem dL_errors_126 : decode cL_errors 126 = .ok (.bipush 11, 2) := by decide +kernel
theorem dL_errors_128 : decode cL_errors 128 = .ok (.invokestatic 107, 3) := by decide +kernel
theorem dL_errors_131 : decode cL_errors 131 = .ok (.l2i, 1) := by decide +kernel
theorem dL_errors_132 : decode cL_errors 132 = .ok (.bipush 9, 2) := by decide +kernel
theorem dL_errors_134 : decode cL_errors 134 = .ok (.invokestatic 121, 3) := by decide +kernel
theorem dL_errors_137 : decode cL_errors 137 = .ok (.ldc2_w 39, 3) := by decide +kernel
theorem dL_errors_140 : decode cL_errors 140 = .ok (.lcmp, 1) := by decide +kernel
theorem dL_errors_141 : decode cL_errors 141 = .ok (.ifCond .ne 31, 3) := by decide +kernel
theorem dL_errors_144 : decode cL_errors 144 = .ok (.aload_n 0, 1) := by decide +kernel
theorem dL_errors_145 : decode cL_errors 145 = .ok (.bipush 11, 2) := by decide +kernel
theorem dL_errors_147 : decode cL_errors 147 = .ok (.invokestatic 107, 3) := by decide +kernel
theorem dL_errors_150 : decode cL_errors 150 = .ok (.lconst 0, 1) := by decide +kernel
theorem dL_errors_151 : decode cL_errors 151 = .ok (.lcmp, 1) := by decide +kernel
theorem dL_errors_152 : decode cL_errors 152 = .ok (.ifCond .eq 16, 3) := by decide +kernel
theorem dL_errors_155 : decode cL_errors 155 = .ok (.aload_n 0, 1) := by decide +kernel
theorem dL_errors_156 : decode cL_errors 156 = .ok (.iconst 0, 1) := by decide +kernel
theorem dL_errors_157 : decode cL_errors 157 = .ok (.iconst 3, 1) := by decide +kernel
theorem dL_errors_158 : decode cL_errors 158 = .ok (.invokestatic 121, 3) := by decide +kernel
theorem dL_errors_161 : decode cL_errors 161 = .ok (.ldc2_w 17, 3) := by decide +kernel
theorem dL_errors_164 : decode cL_errors 164 = .ok (.lcmp, 1) := by decide +kernel
theorem dL_errors_165 : decode cL_errors 165 = .ok (.ifCond .ne 7, 3) := by decide +kernel
theorem dL_errors_168 : decode cL_errors 168 = .ok (.iconst 1, 1) := by decide +kernel
theorem dL_errors_169 : decode cL_errors 169 = .ok (.goto 4, 3) := by decide +kernel
theorem dL_errors_172 : decode cL_errors 172 = .ok (.iconst 0, 1) := by decide +kernel
theorem dL_errors_173 : decode cL_errors 173 = .ok (.istore 4, 2) := by decide +kernel
theorem dL_errors_175 : decode cL_errors 175 = .ok (.iload 4, 2) := by decide +kernel
theorem dL_errors_177 : decode cL_errors 177 = .ok (.ifCond .eq 265, 3) := by decide +kernel
theorem dL_errors_180 : decode cL_errors 180 = .ok (.aload_n 0, 1) := by decide +kernel
theorem dL_errors_181 : decode cL_errors 181 = .ok (.bipush 10, 2) := by decide +kernel
theorem dL_errors_183 : decode cL_errors 183 = .ok (.bipush 20, 2) := by decide +kernel
theorem dL_errors_185 : decode cL_errors 185 = .ok (.iconst 1, 1) := by decide +kernel
theorem dL_errors_186 : decode cL_errors 186 = .ok (.iconst 1, 1) := by decide +kernel
theorem dL_errors_187 : decode cL_errors 187 = .ok (.invokestatic 129, 3) := by decide +kernel
theorem dL_errors_190 : decode cL_errors 190 = .ok (.ldc2_w 17, 3) := by decide +kernel
theorem dL_errors_193 : decode cL_errors 193 = .ok (.lcmp, 1) := by decide +kernel
theorem dL_errors_194 : decode cL_errors 194 = .ok (.ifCond .ne 248, 3) := by decide +kernel
theorem dL_errors_197 : decode cL_errors 197 = .ok (.aload_n 0, 1) := by decide +kernel
theorem dL_errors_198 : decode cL_errors 198 = .ok (.iconst 1, 1) := by decide +kernel
theorem dL_errors_199 : decode cL_errors 199 = .ok (.bipush 9, 2) := by decide +kernel
theorem dL_errors_201 : decode cL_errors 201 = .ok (.iconst 1, 1) := by decide +kernel
theorem dL_errors_202 : decode cL_errors 202 = .ok (.iconst 1, 1) := by decide +kernel
theorem dL_errors_203 : decode cL_errors 203 = .ok (.invokestatic 129, 3) := by decide +kernel
theorem dL_errors_206 : decode cL_errors 206 = .ok (.ldc2_w 17, 3) := by decide +kernel
theorem dL_errors_209 : decode cL_errors 209 = .ok (.lcmp, 1) := by decide +kernel
theorem dL_errors_210 : decode cL_errors 210 = .ok (.ifCond .ne 232, 3) := by decide +kernel
theorem dL_errors_213 : decode cL_errors 213 = .ok (.aload_n 0, 1) := by decide +kernel
theorem dL_errors_214 : decode cL_errors 214 = .ok (.iconst 1, 1) := by decide +kernel
theorem dL_errors_215 : decode cL_errors 215 = .ok (.bipush 20, 2) := by decide +kernel
theorem dL_errors_217 : decode cL_errors 217 = .ok (.iconst 0, 1) := by decide +kernel
theorem dL_errors_218 : decode cL_errors 218 = .ok (.iconst 1, 1) := by decide +kernel
theorem dL_errors_219 : decode cL_errors 219 = .ok (.invokestatic 129, 3) := by decide +kernel
theorem dL_errors_222 : decode cL_errors 222 = .ok (.ldc2_w 17, 3) := by decide +kernel
theorem dL_errors_225 : decode cL_errors 225 = .ok (.lcmp, 1) := by decide +kernel
theorem dL_errors_226 : decode cL_errors 226 = .ok (.ifCond .ne 216, 3) := by decide +kernel
theorem dL_errors_229 : decode cL_errors 229 = .ok (.aload_n 0, 1) := by decide +kernel
theorem dL_errors_230 : decode cL_errors 230 = .ok (.iconst 1, 1) := by decide +kernel
theorem dL_errors_231 : decode cL_errors 231 = .ok (.bipush 20, 2) := by decide +kernel
theorem dL_errors_233 : decode cL_errors 233 = .ok (.iconst 1, 1) := by decide +kernel
theorem dL_errors_234 : decode cL_errors 234 = .ok (.bipush 10, 2) := by decide +kernel
theorem dL_errors_236 : decode cL_errors 236 = .ok (.invokestatic 129, 3) := by decide +kernel
theorem dL_errors_239 : decode cL_errors 239 = .ok (.ldc2_w 17, 3) := by decide +kernel
theorem dL_errors_242 : decode cL_errors 242 = .ok (.lcmp, 1) := by decide +kernel
theorem dL_errors_243 : decode cL_errors 243 = .ok (.ifCond .ne 199, 3) := by decide +kernel
theorem dL_errors_246 : decode cL_errors 246 = .ok (.iload_n 3, 1) := by decide +kernel
theorem dL_errors_247 : decode cL_errors 247 = .ok (.bipush 6, 2) := by decide +kernel
theorem dL_errors_249 : decode cL_errors 249 = .ok (.if_icmp .lt 19, 3) := by decide +kernel
theorem dL_errors_252 : decode cL_errors 252 = .ok (.aload_n 0, 1) := by decide +kernel
theorem dL_errors_253 : decode cL_errors 253 = .ok (.iconst 1, 1) := by decide +kernel
theorem dL_errors_254 : decode cL_errors 254 = .ok (.bipush 20, 2) := by decide +kernel
theorem dL_errors_256 : decode cL_errors 256 = .ok (.iconst 1, 1) := by decide +kernel
theorem dL_errors_257 : decode cL_errors 257 = .ok (.iconst 1, 1) := by decide +kernel
theorem dL_errors_258 : decode cL_errors 258 = .ok (.invokestatic 129, 3) := by decide +kernel
theorem dL_errors_261 : decode cL_errors 261 = .ok (.ldc2_w 21, 3) := by decide +kernel
theorem dL_errors_264 : decode cL_errors 264 = .ok (.lcmp, 1) := by decide +kernel
theorem dL_errors_265 : decode cL_errors 265 = .ok (.ifCond .ne 177, 3) := by decide +kernel
theorem dL_errors_268 : decode cL_errors 268 = .ok (.aload_n 0, 1) := by decide +kernel
theorem dL_errors_269 : decode cL_errors 269 = .ok (.iload_n 3, 1) := by decide +kernel
theorem dL_errors_270 : decode cL_errors 270 = .ok (.iconst 5, 1) := by decide +kernel
theorem dL_errors_271 : decode cL_errors 271 = .ok (.iconst 1, 1) := by decide +kernel
theorem dL_errors_272 : decode cL_errors 272 = .ok (.invokestatic 132, 3) := by decide +kernel
theorem dL_errors_275 : decode cL_errors 275 = .ok (.ldc2_w 39, 3) := by decide +kernel
theorem dL_errors_278 : decode cL_errors 278 = .ok (.lcmp, 1) := by decide +kernel
theorem dL_errors_279 : decode cL_errors 279 = .ok (.ifCond .ne 163, 3) := by decide +kernel
theorem dL_errors_282 : decode cL_errors 282 = .ok (.iload_n 3, 1) := by decide +kernel
theorem dL_errors_283 : decode cL_errors 283 = .ok (.ifCond .eq 61, 3) := by decide +kernel
theorem dL_errors_286 : decode cL_errors 286 = .ok (.aload_n 0, 1) := by decide +kernel
theorem dL_errors_287 : decode cL_errors 287 = .ok (.iconst 0, 1) := by decide +kernel
theorem dL_errors_288 : decode cL_errors 288 = .ok (.iconst 3, 1) := by decide +kernel
theorem dL_errors_289 : decode cL_errors 289 = .ok (.iconst 1, 1) := by decide +kernel
theorem dL_errors_290 : decode cL_errors 290 = .ok (.invokestatic 132, 3) := by decide +kernel
theorem dL_errors_293 : decode cL_errors 293 = .ok (.ldc2_w 17, 3) := by decide +kernel
theorem dL_errors_296 : decode cL_errors 296 = .ok (.lcmp, 1) := by decide +kernel
theorem dL_errors_297 : decode cL_errors 297 = .ok (.ifCond .ne 145, 3) := by decide +kernel
theorem dL_errors_300 : decode cL_errors 300 = .ok (.aload_n 0, 1) := by decide +kernel
theorem dL_errors_301 : decode cL_errors 301 = .ok (.iconst 0, 1) := by decide +kernel
theorem dL_errors_302 : decode cL_errors 302 = .ok (.iconst 0, 1) := by decide +kernel
theorem dL_errors_303 : decode cL_errors 303 = .ok (.bipush 9, 2) := by decide +kernel
theorem dL_errors_305 : decode cL_errors 305 = .ok (.invokestatic 132, 3) := by decide +kernel
theorem dL_errors_308 : decode cL_errors 308 = .ok (.ldc2_w 17, 3) := by decide +kernel
theorem dL_errors_311 : decode cL_errors 311 = .ok (.lcmp, 1) := by decide +kernel
theorem dL_errors_312 : decode cL_errors 312 = .ok (.ifCond .ne 130, 3) := by decide +kernel
theorem dL_errors_315 : decode cL_errors 315 = .ok (.aload_n 0, 1) := by decide +kernel
theorem dL_errors_316 : decode cL_errors 316 = .ok (.iconst 0, 1) := by decide +kernel
theorem dL_errors_317 : decode cL_errors 317 = .ok (.iconst 1, 1) := by decide +kernel
theorem dL_errors_318 : decode cL_errors 318 = .ok (.iconst 0, 1) := by decide +kernel
theorem dL_errors_319 : decode cL_errors 319 = .ok (.invokestatic 132, 3) := by decide +kernel
theorem dL_errors_322 : decode cL_errors 322 = .ok (.ldc2_w 17, 3) := by decide +kernel
theorem dL_errors_325 : decode cL_errors 325 = .ok (.lcmp, 1) := by decide +kernel
theorem dL_errors_326 : decode cL_errors 326 = .ok (.ifCond .ne 116, 3) := by decide +kernel
theorem dL_errors_329 : decode cL_errors 329 = .ok (.aload_n 0, 1) := by decide +kernel
theorem dL_errors_330 : decode cL_errors 330 = .ok (.iconst 0, 1) := by decide +kernel
theorem dL_errors_331 : decode cL_errors 331 = .ok (.iconst 2, 1) := by decide +kernel
theorem dL_errors_332 : decode cL_errors 332 = .ok (.bipush 10, 2) := by decide +kernel
theorem dL_errors_334 : decode cL_errors 334 = .ok (.invokestatic 132, 3) := by decide +kernel
theorem dL_errors_337 : decode cL_errors 337 = .ok (.ldc2_w 17, 3) := by decide +kernel
theorem dL_errors_340 : decode cL_errors 340 = .ok (.lcmp, 1) := by decide +kernel
theorem dL_errors_341 : decode cL_errors 341 = .ok (.ifCond .ne 101, 3) := by decide +kernel
theorem dL_errors_344 : decode cL_errors 344 = .ok (.aload_n 0, 1) := by decide +kernel
theorem dL_errors_345 : decode cL_errors 345 = .ok (.iload_n 3, 1) := by decide +kernel
theorem dL_errors_346 : decode cL_errors 346 = .ok (.iconst 1, 1) := by decide +kernel
theorem dL_errors_347 : decode cL_errors 347 = .ok (.invokestatic 135, 3) := by decide +kernel
theorem dL_errors_350 : decode cL_errors 350 = .ok (.ldc2_w 39, 3) := by decide +kernel
theorem dL_errors_353 : decode cL_errors 353 = .ok (.lcmp, 1) := by decide +kernel
theorem dL_errors_354 : decode cL_errors 354 = .ok (.ifCond .ne 88, 3) := by decide +kernel
theorem dL_errors_357 : decode cL_errors 357 = .ok (.aload_n 0, 1) := by decide +kernel
theorem dL_errors_358 : decode cL_errors 358 = .ok (.iconst 0, 1) := by decide +kernel
theorem dL_errors_359 : decode cL_errors 359 = .ok (.sipush 201, 3) := by decide +kernel
theorem dL_errors_362 : decode cL_errors 362 = .ok (.invokestatic 138, 3) := by decide +kernel
theorem dL_errors_365 : decode cL_errors 365 = .ok (.ldc2_w 17, 3) := by decide +kernel
theorem dL_errors_368 : decode cL_errors 368 = .ok (.lcmp, 1) := by decide +kernel
theorem dL_errors_369 : decode cL_errors 369 = .ok (.ifCond .ne 73, 3) := by decide +kernel
theorem dL_errors_372 : decode cL_errors 372 = .ok (.aload_n 0, 1) := by decide +kernel
theorem dL_errors_373 : decode cL_errors 373 = .ok (.iconst 1, 1) := by decide +kernel
theorem dL_errors_374 : decode cL_errors 374 = .ok (.bipush 29, 2) := by decide +kernel
theorem dL_errors_376 : decode cL_errors 376 = .ok (.invokestatic 138, 3) := by decide +kernel
theorem dL_errors_379 : decode cL_errors 379 = .ok (.ldc2_w 17, 3) := by decide +kernel
theorem dL_errors_382 : decode cL_errors 382 = .ok (.lcmp, 1) := by decide +kernel
theorem dL_errors_383 : decode cL_errors 383 = .ok (.ifCond .ne 59, 3) := by decide +kernel
theorem dL_errors_386 : decode cL_errors 386 = .ok (.aload_n 0, 1) := by decide +kernel
theorem dL_errors_387 : decode cL_errors 387 = .ok (.iconst 5, 1) := by decide +kernel
theorem dL_errors_388 : decode cL_errors 388 = .ok (.iconst 0, 1) := by decide +kernel
theorem dL_errors_389 : decode cL_errors 389 = .ok (.invokestatic 138, 3) := by decide +kernel
theorem dL_errors_392 : decode cL_errors 392 = .ok (.ldc2_w 17, 3) := by decide +kernel
theorem dL_errors_395 : decode cL_errors 395 = .ok (.lcmp, 1) := by decide +kernel
theorem dL_errors_396 : decode cL_errors 396 = .ok (.ifCond .ne 46, 3) := by decide +kernel
theorem dL_errors_399 : decode cL_errors 399 = .ok (.aload_n 0, 1) := by decide +kernel
theorem dL_errors_400 : decode cL_errors 400 = .ok (.bipush 9, 2) := by decide +kernel
theorem dL_errors_402 : decode cL_errors 402 = .ok (.iconst 5, 1) := by decide +kernel
theorem dL_errors_403 : decode cL_errors 403 = .ok (.invokestatic 138, 3) := by decide +kernel
theorem dL_errors_406 : decode cL_errors 406 = .ok (.ldc2_w 17, 3) := by decide +kernel
theorem dL_errors_409 : decode cL_errors 409 = .ok (.lcmp, 1) := by decide +kernel
theorem dL_errors_410 : decode cL_errors 410 = .ok (.ifCond .ne 32, 3) := by decide +kernel
theorem dL_errors_413 : decode cL_errors 413 = .ok (.aload_n 0, 1) := by decide +kernel
theorem dL_errors_414 : decode cL_errors 414 = .ok (.bipush (-21), 2) := by decide +kernel
theorem dL_errors_416 : decode cL_errors 416 = .ok (.invokestatic 140, 3) := by decide +kernel
theorem dL_errors_419 : decode cL_errors 419 = .ok (.ldc2_w 17, 3) := by decide +kernel
theorem dL_errors_422 : decode cL_errors 422 = .ok (.lcmp, 1) := by decide +kernel
theorem dL_errors_423 : decode cL_errors 423 = .ok (.ifCond .ne 19, 3) := by decide +kernel
theorem dL_errors_426 : decode cL_errors 426 = .ok (.aload_n 0, 1) := by decide +kernel
theorem dL_errors_427 : decode cL_errors 427 = .ok (.iconst 0, 1) := by decide +kernel
theorem dL_errors_428 : decode cL_errors 428 = .ok (.invokestatic 142, 3) := by decide +kernel
theorem dL_errors_431 : decode cL_errors 431 = .ok (.ldc2_w 17, 3) := by decide +kernel
theorem dL_errors_434 : decode cL_errors 434 = .ok (.lcmp, 1) := by decide +kernel
theorem dL_errors_435 : decode cL_errors 435 = .ok (.ifCond .ne 7, 3) := by decide +kernel
theorem dL_errors_438 : decode cL_errors 438 = .ok (.iconst 1, 1) := by decide +kernel
theorem dL_errors_439 : decode cL_errors 439 = .ok (.goto 4, 3) := by decide +kernel
theorem dL_errors_442 : decode cL_errors 442 = .ok (.iconst 0, 1) := by decide +kernel
theorem dL_errors_443 : decode cL_errors 443 = .ok (.istore 4, 2) := by decide +kernel
theorem dL_errors_445 : decode cL_errors 445 = .ok (.iload 4, 2) := by decide +kernel
theorem dL_errors_447 : decode cL_errors 447 = .ok (.ifCond .eq 173, 3) := by decide +kernel
theorem dL_errors_450 : decode cL_errors 450 = .ok (.aload_n 0, 1) := by decide +kernel
theorem dL_errors_451 : decode cL_errors 451 = .ok (.iload_n 3, 1) := by decide +kernel
theorem dL_errors_452 : decode cL_errors 452 = .ok (.iconst 2, 1) := by decide +kernel
theorem dL_errors_453 : decode cL_errors 453 = .ok (.iadd, 1) := by decide +kernel
theorem dL_errors_454 : decode cL_errors 454 = .ok (.sipush 241, 3) := by decide +kernel
theorem dL_errors_457 : decode cL_errors 457 = .ok (.invokestatic 144, 3) := by decide +kernel
theorem dL_errors_460 : decode cL_errors 460 = .ok (.ldc2_w 39, 3) := by decide +kernel
theorem dL_errors_463 : decode cL_errors 463 = .ok (.lcmp, 1) := by decide +kernel
theorem dL_errors_464 : decode cL_errors 464 = .ok (.ifCond .ne 156, 3) := by decide +kernel
theorem dL_errors_467 : decode cL_errors 467 = .ok (.aload_n 0, 1) := by decide +kernel
theorem dL_errors_468 : decode cL_errors 468 = .ok (.iconst 0, 1) := by decide +kernel
theorem dL_errors_469 : decode cL_errors 469 = .ok (.iconst (-1), 1) := by decide +kernel
theorem dL_errors_470 : decode cL_errors 470 = .ok (.invokestatic 144, 3) := by decide +kernel
theorem dL_errors_473 : decode cL_errors 473 = .ok (.ldc2_w 17, 3) := by decide +kernel
theorem dL_errors_476 : decode cL_errors 476 = .ok (.lcmp, 1) := by decide +kernel
theorem dL_errors_477 : decode cL_errors 477 = .ok (.ifCond .ne 143, 3) := by decide +kernel
theorem dL_errors_480 : decode cL_errors 480 = .ok (.aload_n 0, 1) := by decide +kernel
theorem dL_errors_481 : decode cL_errors 481 = .ok (.iconst (-1), 1) := by decide +kernel
theorem dL_errors_482 : decode cL_errors 482 = .ok (.invokestatic 146, 3) := by decide +kernel
theorem dL_errors_485 : decode cL_errors 485 = .ok (.ldc2_w 39, 3) := by decide +kernel
theorem dL_errors_488 : decode cL_errors 488 = .ok (.lcmp, 1) := by decide +kernel
theorem dL_errors_489 : decode cL_errors 489 = .ok (.ifCond .ne 131, 3) := by decide +kernel
theorem dL_errors_492 : decode cL_errors 492 = .ok (.aload_n 0, 1) := by decide +kernel
theorem dL_errors_493 : decode cL_errors 493 = .ok (.iconst 0, 1) := by decide +kernel
theorem dL_errors_494 : decode cL_errors 494 = .ok (.invokestatic 148, 3) := by decide +kernel
theorem dL_errors_497 : decode cL_errors 497 = .ok (.ldc2_w 17, 3) := by decide +kernel
theorem dL_errors_500 : decode cL_errors 500 = .ok (.lcmp, 1) := by decide +kernel
theorem dL_errors_501 : decode cL_errors 501 = .ok (.ifCond .ne 119, 3) := by decide +kernel
theorem dL_errors_504 : decode cL_errors 504 = .ok (.aload_n 0, 1) := by decide +kernel
theorem dL_errors_505 : decode cL_errors 505 = .ok (.iconst (-1), 1) := by decide +kernel
theorem dL_errors_506 : decode cL_errors 506 = .ok (.invokestatic 150, 3) := by decide +kernel
theorem dL_errors_509 : decode cL_errors 509 = .ok (.ldc2_w 17, 3) := by decide +kernel
theorem dL_errors_512 : decode cL_errors 512 = .ok (.lcmp, 1) := by decide +kernel
theorem dL_errors_513 : decode cL_errors 513 = .ok (.ifCond .ne 107, 3) := by decide +kernel
theorem dL_errors_516 : decode cL_errors 516 = .ok (.aload_n 0, 1) := by decide +kernel
theorem dL_errors_517 : decode cL_errors 517 = .ok (.sipush 241, 3) := by decide +kernel
theorem dL_errors_520 : decode cL_errors 520 = .ok (.invokestatic 152, 3) := by decide +kernel
theorem dL_errors_523 : decode cL_errors 523 = .ok (.ldc2_w 17, 3) := by decide +kernel
theorem dL_errors_526 : decode cL_errors 526 = .ok (.lcmp, 1) := by decide +kernel
theorem dL_errors_527 : decode cL_errors 527 = .ok (.ifCond .ne 93, 3) := by decide +kernel
theorem dL_errors_530 : decode cL_errors 530 = .ok (.aload_n 0, 1) := by decide +kernel
theorem dL_errors_531 : decode cL_errors 531 = .ok (.iconst 0, 1) := by decide +kernel
theorem dL_errors_532 : decode cL_errors 532 = .ok (.lconst 0, 1) := by decide +kernel
theorem dL_errors_533 : decode cL_errors 533 = .ok (.invokestatic 154, 3) := by decide +kernel
theorem dL_errors_536 : decode cL_errors 536 = .ok (.ldc2_w 17, 3) := by decide +kernel
theorem dL_errors_539 : decode cL_errors 539 = .ok (.lcmp, 1) := by decide +kernel
theorem dL_errors_540 : decode cL_errors 540 = .ok (.ifCond .ne 80, 3) := by decide +kernel
theorem dL_errors_543 : decode cL_errors 543 = .ok (.aload_n 0, 1) := by decide +kernel
theorem dL_errors_544 : decode cL_errors 544 = .ok (.iconst 4, 1) := by decide +kernel
theorem dL_errors_545 : decode cL_errors 545 = .ok (.ldc2_w 158, 3) := by decide +kernel
theorem dL_errors_548 : decode cL_errors 548 = .ok (.invokestatic 154, 3) := by decide +kernel
theorem dL_errors_551 : decode cL_errors 551 = .ok (.ldc2_w 17, 3) := by decide +kernel
theorem dL_errors_554 : decode cL_errors 554 = .ok (.lcmp, 1) := by decide +kernel
theorem dL_errors_555 : decode cL_errors 555 = .ok (.ifCond .ne 65, 3) := by decide +kernel
theorem dL_errors_558 : decode cL_errors 558 = .ok (.aload_n 0, 1) := by decide +kernel
theorem dL_errors_559 : decode cL_errors 559 = .ok (.lconst 1, 1) := by decide +kernel
theorem dL_errors_560 : decode cL_errors 560 = .ok (.iconst 0, 1) := by decide +kernel
theorem dL_errors_561 : decode cL_errors 561 = .ok (.invokestatic 160, 3) := by decide +kernel
theorem dL_errors_564 : decode cL_errors 564 = .ok (.ldc2_w 17, 3) := by decide +kernel
theorem dL_errors_567 : decode cL_errors 567 = .ok (.lcmp, 1) := by decide +kernel
theorem dL_errors_568 : decode cL_errors 568 = .ok (.ifCond .ne 52, 3) := by decide +kernel
theorem dL_errors_571 : decode cL_errors 571 = .ok (.aload_n 0, 1) := by decide +kernel
theorem dL_errors_572 : decode cL_errors 572 = .ok (.iconst 2, 1) := by decide +kernel
theorem dL_errors_573 : decode cL_errors 573 = .ok (.invokestatic 163, 3) := by decide +kernel
theorem dL_errors_576 : decode cL_errors 576 = .ok (.ldc2_w 39, 3) := by decide +kernel
theorem dL_errors_579 : decode cL_errors 579 = .ok (.lcmp, 1) := by decide +kernel
theorem dL_errors_580 : decode cL_errors 580 = .ok (.ifCond .ne 40, 3) := by decide +kernel
theorem dL_errors_583 : decode cL_errors 583 = .ok (.aload_n 0, 1) := by decide +kernel
theorem dL_errors_584 : decode cL_errors 584 = .ok (.iconst 2, 1) := by decide +kernel
theorem dL_errors_585 : decode cL_errors 585 = .ok (.invokestatic 165, 3) := by decide +kernel
theorem dL_errors_588 : decode cL_errors 588 = .ok (.ldc2_w 39, 3) := by decide +kernel
theorem dL_errors_591 : decode cL_errors 591 = .ok (.lcmp, 1) := by decide +kernel
theorem dL_errors_592 : decode cL_errors 592 = .ok (.ifCond .ne 28, 3) := by decide +kernel
theorem dL_errors_595 : decode cL_errors 595 = .ok (.aload_n 0, 1) := by decide +kernel
theorem dL_errors_596 : decode cL_errors 596 = .ok (.iconst (-1), 1) := by decide +kernel
theorem dL_errors_597 : decode cL_errors 597 = .ok (.invokestatic 167, 3) := by decide +kernel
theorem dL_errors_600 : decode cL_errors 600 = .ok (.ldc2_w 17, 3) := by decide +kernel
theorem dL_errors_603 : decode cL_errors 603 = .ok (.lcmp, 1) := by decide +kernel
theorem dL_errors_604 : decode cL_errors 604 = .ok (.ifCond .ne 16, 3) := by decide +kernel
theorem dL_errors_607 : decode cL_errors 607 = .ok (.aload_n 0, 1) := by decide +kernel
theorem dL_errors_608 : decode cL_errors 608 = .ok (.invokestatic 123, 3) := by decide +kernel
theorem dL_errors_611 : decode cL_errors 611 = .ok (.lload_n 1, 1) := by decide +kernel
theorem dL_errors_612 : decode cL_errors 612 = .ok (.lcmp, 1) := by decide +kernel
theorem dL_errors_613 : decode cL_errors 613 = .ok (.ifCond .ne 7, 3) := by decide +kernel
theorem dL_errors_616 : decode cL_errors 616 = .ok (.iconst 1, 1) := by decide +kernel
theorem dL_errors_617 : decode cL_errors 617 = .ok (.goto 4, 3) := by decide +kernel
theorem dL_errors_620 : decode cL_errors 620 = .ok (.iconst 0, 1) := by decide +kernel
theorem dL_errors_621 : decode cL_errors 621 = .ok (.ireturn, 1) := by decide +kernel
theorem dL_kept_0 : decode cL_kept 0 = .ok (.aload_n 0, 1) := by decide +kernel
theorem dL_kept_1 : decode cL_kept 1 = .ok (.iconst 0, 1) := by decide +kernel
theorem dL_kept_2 : decode cL_kept 2 = .ok (.invokestatic 107, 3) := by decide +kernel
theorem dL_kept_5 : decode cL_kept 5 = .ok (.l2i, 1) := by decide +kernel
theorem dL_kept_6 : decode cL_kept 6 = .ok (.istore_n 1, 1) := by decide +kernel
theorem dL_kept_7 : decode cL_kept 7 = .ok (.aload_n 0, 1) := by decide +kernel
theorem dL_kept_8 : decode cL_kept 8 = .ok (.bipush 11, 2) := by decide +kernel
theorem dL_kept_10 : decode cL_kept 10 = .ok (.invokestatic 107, 3) := by decide +kernel
theorem dL_kept_13 : decode cL_kept 13 = .ok (.l2i, 1) := by decide +kernel
theorem dL_kept_14 : decode cL_kept 14 = .ok (.istore_n 2, 1) := by decide +kernel
theorem dL_kept_15 : decode cL_kept 15 = .ok (.bipush 10, 2) := by decide +kernel
theorem dL_kept_17 : decode cL_kept 17 = .ok (.newarray .int, 2) := by decide +kernel
theorem dL_kept_19 : decode cL_kept 19 = .ok (.astore_n 3, 1) := by decide +kernel
theorem dL_kept_20 : decode cL_kept 20 = .ok (.aload_n 3, 1) := by decide +kernel
theorem dL_kept_21 : decode cL_kept 21 = .ok (.iconst 0, 1) := by decide +kernel
theorem dL_kept_22 : decode cL_kept 22 = .ok (.sipush 800, 3) := by decide +kernel
theorem dL_kept_25 : decode cL_kept 25 = .ok (.iastore, 1) := by decide +kernel
theorem dL_kept_26 : decode cL_kept 26 = .ok (.aload_n 3, 1) := by decide +kernel
theorem dL_kept_27 : decode cL_kept 27 = .ok (.iconst 1, 1) := by decide +kernel
theorem dL_kept_28 : decode cL_kept 28 = .ok (.sipush 1200, 3) := by decide +kernel
theorem dL_kept_31 : decode cL_kept 31 = .ok (.iastore, 1) := by decide +kernel
theorem dL_kept_32 : decode cL_kept 32 = .ok (.iconst 1, 1) := by decide +kernel
theorem dL_kept_33 : decode cL_kept 33 = .ok (.istore 4, 2) := by decide +kernel
theorem dL_kept_35 : decode cL_kept 35 = .ok (.lconst 0, 1) := by decide +kernel
theorem dL_kept_36 : decode cL_kept 36 = .ok (.lstore 5, 2) := by decide +kernel
theorem dL_kept_38 : decode cL_kept 38 = .ok (.iconst 0, 1) := by decide +kernel
theorem dL_kept_39 : decode cL_kept 39 = .ok (.istore 7, 2) := by decide +kernel
theorem dL_kept_41 : decode cL_kept 41 = .ok (.iload 7, 2) := by decide +kernel
theorem dL_kept_43 : decode cL_kept 43 = .ok (.iload_n 2, 1) := by decide +kernel
theorem dL_kept_44 : decode cL_kept 44 = .ok (.if_icmp .ge 241, 3) := by decide +kernel
theorem dL_kept_47 : decode cL_kept 47 = .ok (.iload 4, 2) := by decide +kernel
theorem dL_kept_49 : decode cL_kept 49 = .ok (.ifCond .eq 236, 3) := by decide +kernel
theorem dL_kept_52 : decode cL_kept 52 = .ok (.aload_n 0, 1) := by decide +kernel
theorem dL_kept_53 : decode cL_kept 53 = .ok (.iload 7, 2) := by decide +kernel
theorem dL_kept_55 : decode cL_kept 55 = .ok (.iconst 0, 1) := by decide +kernel
theorem dL_kept_56 : decode cL_kept 56 = .ok (.invokestatic 121, 3) := by decide +kernel
theorem dL_kept_59 : decode cL_kept 59 = .ok (.l2i, 1) := by decide +kernel
theorem dL_kept_60 : decode cL_kept 60 = .ok (.istore 8, 2) := by decide +kernel
theorem dL_kept_62 : decode cL_kept 62 = .ok (.aload_n 0, 1) := by decide +kernel
theorem dL_kept_63 : decode cL_kept 63 = .ok (.iload 7, 2) := by decide +kernel
theorem dL_kept_65 : decode cL_kept 65 = .ok (.iconst 1, 1) := by decide +kernel
theorem dL_kept_66 : decode cL_kept 66 = .ok (.invokestatic 121, 3) := by decide +kernel
theorem dL_kept_69 : decode cL_kept 69 = .ok (.l2i, 1) := by decide +kernel
theorem dL_kept_70 : decode cL_kept 70 = .ok (.istore 9, 2) := by decide +kernel
theorem dL_kept_72 : decode cL_kept 72 = .ok (.aload_n 0, 1) := by decide +kernel
theorem dL_kept_73 : decode cL_kept 73 = .ok (.iload 7, 2) := by decide +kernel
theorem dL_kept_75 : decode cL_kept 75 = .ok (.iconst 2, 1) := by decide +kernel
theorem dL_kept_76 : decode cL_kept 76 = .ok (.invokestatic 121, 3) := by decide +kernel
theorem dL_kept_79 : decode cL_kept 79 = .ok (.lstore 10, 2) := by decide +kernel
theorem dL_kept_81 : decode cL_kept 81 = .ok (.iload 8, 2) := by decide +kernel
theorem dL_kept_83 : decode cL_kept 83 = .ok (.i2l, 1) := by decide +kernel
theorem dL_kept_84 : decode cL_kept 84 = .ok (.lconst 0, 1) := by decide +kernel
theorem dL_kept_85 : decode cL_kept 85 = .ok (.ldc2_w 169, 3) := by decide +kernel
theorem dL_kept_88 : decode cL_kept 88 = .ok (.invokestatic 171, 3) := by decide +kernel
theorem dL_kept_91 : decode cL_kept 91 = .ok (.ifCond .eq 104, 3) := by decide +kernel
theorem dL_kept_94 : decode cL_kept 94 = .ok (.iload 9, 2) := by decide +kernel
theorem dL_kept_96 : decode cL_kept 96 = .ok (.i2l, 1) := by decide +kernel
theorem dL_kept_97 : decode cL_kept 97 = .ok (.lconst 0, 1) := by decide +kernel
theorem dL_kept_98 : decode cL_kept 98 = .ok (.ldc2_w 169, 3) := by decide +kernel
theorem dL_kept_101 : decode cL_kept 101 = .ok (.invokestatic 171, 3) := by decide +kernel
theorem dL_kept_104 : decode cL_kept 104 = .ok (.ifCond .eq 91, 3) := by decide +kernel
theorem dL_kept_107 : decode cL_kept 107 = .ok (.iload 8, 2) := by decide +kernel
theorem dL_kept_109 : decode cL_kept 109 = .ok (.iload 9, 2) := by decide +kernel
theorem dL_kept_111 : decode cL_kept 111 = .ok (.if_icmp .eq 84, 3) := by decide +kernel
theorem dL_kept_114 : decode cL_kept 114 = .ok (.lload 10, 2) := by decide +kernel
theorem dL_kept_116 : decode cL_kept 116 = .ok (.lconst 0, 1) := by decide +kernel
theorem dL_kept_117 : decode cL_kept 117 = .ok (.lcmp, 1) := by decide +kernel
theorem dL_kept_118 : decode cL_kept 118 = .ok (.ifCond .le 77, 3) := by decide +kernel
theorem dL_kept_121 : decode cL_kept 121 = .ok (.aload_n 0, 1) := by decide +kernel
theorem dL_kept_122 : decode cL_kept 122 = .ok (.iload 8, 2) := by decide +kernel
theorem dL_kept_124 : decode cL_kept 124 = .ok (.iload 9, 2) := by decide +kernel
theorem dL_kept_126 : decode cL_kept 126 = .ok (.invokestatic 127, 3) := by decide +kernel
theorem dL_kept_129 : decode cL_kept 129 = .ok (.lload 10, 2) := by decide +kernel
theorem dL_kept_131 : decode cL_kept 131 = .ok (.lcmp, 1) := by decide +kernel
theorem dL_kept_132 : decode cL_kept 132 = .ok (.ifCond .ne 63, 3) := by decide +kernel
theorem dL_kept_135 : decode cL_kept 135 = .ok (.iload 8, 2) := by decide +kernel
theorem dL_kept_137 : decode cL_kept 137 = .ok (.bipush 9, 2) := by decide +kernel
theorem dL_kept_139 : decode cL_kept 139 = .ok (.if_icmp .eq 10, 3) := by decide +kernel
theorem dL_kept_142 : decode cL_kept 142 = .ok (.iload 9, 2) := by decide +kernel
theorem dL_kept_144 : decode cL_kept 144 = .ok (.bipush 9, 2) := by decide +kernel
theorem dL_kept_146 : decode cL_kept 146 = .ok (.if_icmp .eq 49, 3) := by decide +kernel
theorem dL_kept_149 : decode cL_kept 149 = .ok (.iload 8, 2) := by decide +kernel
theorem dL_kept_151 : decode cL_kept 151 = .ok (.bipush 9, 2) := by decide +kernel
theorem dL_kept_153 : decode cL_kept 153 = .ok (.if_icmp .ne 38, 3) := by decide +kernel
theorem dL_kept_156 : decode cL_kept 156 = .ok (.iload 9, 2) := by decide +kernel
theorem dL_kept_158 : decode cL_kept 158 = .ok (.ifCond .eq 33, 3) := by decide +kernel
theorem dL_kept_161 : decode cL_kept 161 = .ok (.iload 9, 2) := by decide +kernel
theorem dL_kept_163 : decode cL_kept 163 = .ok (.iconst 1, 1) := by decide +kernel
theorem dL_kept_164 : decode cL_kept 164 = .ok (.if_icmp .le 31, 3) := by decide +kernel
theorem dL_kept_167 : decode cL_kept 167 = .ok (.iload 9, 2) := by decide +kernel
theorem dL_kept_169 : decode cL_kept 169 = .ok (.bipush 8, 2) := by decide +kernel
theorem dL_kept_171 : decode cL_kept 171 = .ok (.if_icmp .ge 24, 3) := by decide +kernel
theorem dL_kept_174 : decode cL_kept 174 = .ok (.lload 10, 2) := by decide +kernel
theorem dL_kept_176 : decode cL_kept 176 = .ok (.ldc2_w 175, 3) := by decide +kernel
theorem dL_kept_179 : decode cL_kept 179 = .ok (.aload_n 0, 1) := by decide +kernel
theorem dL_kept_180 : decode cL_kept 180 = .ok (.iload 9, 2) := by decide +kernel
theorem dL_kept_182 : decode cL_kept 182 = .ok (.iconst 2, 1) := by decide +kernel
theorem dL_kept_183 : decode cL_kept 183 = .ok (.invokestatic 116, 3) := by decide +kernel
theorem dL_kept_186 : decode cL_kept 186 = .ok (.lmul, 1) := by decide +kernel
theorem dL_kept_187 : decode cL_kept 187 = .ok (.lcmp, 1) := by decide +kernel
theorem dL_kept_188 : decode cL_kept 188 = .ok (.ifCond .ne 7, 3) := by decide +kernel
theorem dL_kept_191 : decode cL_kept 191 = .ok (.iconst 1, 1) := by decide +kernel
theorem dL_kept_192 : decode cL_kept 192 = .ok (.goto 4, 3) := by decide +kernel
theorem dL_kept_195 : decode cL_kept 195 = .ok (.iconst 0, 1) := by decide +kernel
theorem dL_kept_196 : decode cL_kept 196 = .ok (.istore 4, 2) := by decide +kernel
theorem dL_kept_198 : decode cL_kept 198 = .ok (.iconst 0, 1) := by decide +kernel
theorem dL_kept_199 : decode cL_kept 199 = .ok (.istore 12, 2) := by decide +kernel
theorem dL_kept_201 : decode cL_kept 201 = .ok (.iload 12, 2) := by decide +kernel
theorem dL_kept_203 : decode cL_kept 203 = .ok (.iload 7, 2) := by decide +kernel
theorem dL_kept_205 : decode cL_kept 205 = .ok (.if_icmp .ge 49, 3) := by decide +kernel
theorem dL_kept_208 : decode cL_kept 208 = .ok (.iload 4, 2) := by decide +kernel
theorem dL_kept_210 : decode cL_kept 210 = .ok (.ifCond .eq 44, 3) := by decide +kernel
theorem dL_kept_213 : decode cL_kept 213 = .ok (.aload_n 0, 1) := by decide +kernel
theorem dL_kept_214 : decode cL_kept 214 = .ok (.iload 12, 2) := by decide +kernel
theorem dL_kept_216 : decode cL_kept 216 = .ok (.iconst 0, 1) := by decide +kernel
theorem dL_kept_217 : decode cL_kept 217 = .ok (.invokestatic 121, 3) := by decide +kernel
theorem dL_kept_220 : decode cL_kept 220 = .ok (.iload 8, 2) := by decide +kernel
theorem dL_kept_222 : decode cL_kept 222 = .ok (.i2l, 1) := by decide +kernel
theorem dL_kept_223 : decode cL_kept 223 = .ok (.lcmp, 1) := by decide +kernel
theorem dL_kept_224 : decode cL_kept 224 = .ok (.ifCond .ne 17, 3) := by decide +kernel
theorem dL_kept_227 : decode cL_kept 227 = .ok (.aload_n 0, 1) := by decide +kernel
theorem dL_kept_228 : decode cL_kept 228 = .ok (.iload 12, 2) := by decide +kernel
theorem dL_kept_230 : decode cL_kept 230 = .ok (.iconst 1, 1) := by decide +kernel
theorem dL_kept_231 : decode cL_kept 231 = .ok (.invokestatic 121, 3) := by decide +kernel
theorem dL_kept_234 : decode cL_kept 234 = .ok (.iload 9, 2) := by decide +kernel
theorem dL_kept_236 : decode cL_kept 236 = .ok (.i2l, 1) := by decide +kernel
theorem dL_kept_237 : decode cL_kept 237 = .ok (.lcmp, 1) := by decide +kernel
theorem dL_kept_238 : decode cL_kept 238 = .ok (.ifCond .eq 7, 3) := by decide +kernel
theorem dL_kept_241 : decode cL_kept 241 = .ok (.iconst 1, 1) := by decide +kernel
theorem dL_kept_242 : decode cL_kept 242 = .ok (.goto 4, 3) := by decide +kernel
theorem dL_kept_245 : decode cL_kept 245 = .ok (.iconst 0, 1) := by decide +kernel
theorem dL_kept_246 : decode cL_kept 246 = .ok (.istore 4, 2) := by decide +kernel
theorem dL_kept_248 : decode cL_kept 248 = .ok (.iinc 12 1, 3) := by decide +kernel
theorem dL_kept_251 : decode cL_kept 251 = .ok (.goto (-50), 3) := by decide +kernel
theorem dL_kept_254 : decode cL_kept 254 = .ok (.iload 4, 2) := by decide +kernel
theorem dL_kept_256 : decode cL_kept 256 = .ok (.ifCond .eq 23, 3) := by decide +kernel
theorem dL_kept_259 : decode cL_kept 259 = .ok (.aload_n 3, 1) := by decide +kernel
theorem dL_kept_260 : decode cL_kept 260 = .ok (.iload 8, 2) := by decide +kernel
theorem dL_kept_262 : decode cL_kept 262 = .ok (.dup2, 1) := by decide +kernel
theorem dL_kept_263 : decode cL_kept 263 = .ok (.iaload, 1) := by decide +kernel
theorem dL_kept_264 : decode cL_kept 264 = .ok (.lload 10, 2) := by decide +kernel
theorem dL_kept_266 : decode cL_kept 266 = .ok (.l2i, 1) := by decide +kernel
theorem dL_kept_267 : decode cL_kept 267 = .ok (.isub, 1) := by decide +kernel
theorem dL_kept_268 : decode cL_kept 268 = .ok (.iastore, 1) := by decide +kernel
theorem dL_kept_269 : decode cL_kept 269 = .ok (.aload_n 3, 1) := by decide +kernel
theorem dL_kept_270 : decode cL_kept 270 = .ok (.iload 9, 2) := by decide +kernel
theorem dL_kept_272 : decode cL_kept 272 = .ok (.dup2, 1) := by decide +kernel
theorem dL_kept_273 : decode cL_kept 273 = .ok (.iaload, 1) := by decide +kernel
theorem dL_kept_274 : decode cL_kept 274 = .ok (.lload 10, 2) := by decide +kernel
theorem dL_kept_276 : decode cL_kept 276 = .ok (.l2i, 1) := by decide +kernel
theorem dL_kept_277 : decode cL_kept 277 = .ok (.iadd, 1) := by decide +kernel
theorem dL_kept_278 : decode cL_kept 278 = .ok (.iastore, 1) := by decide +kernel
theorem dL_kept_279 : decode cL_kept 279 = .ok (.iinc 7 1, 3) := by decide +kernel
theorem dL_kept_282 : decode cL_kept 282 = .ok (.goto (-241), 3) := by decide +kernel
theorem dL_kept_285 : decode cL_kept 285 = .ok (.iconst 0, 1) := by decide +kernel
theorem dL_kept_286 : decode cL_kept 286 = .ok (.istore 7, 2) := by decide +kernel
theorem dL_kept_288 : decode cL_kept 288 = .ok (.iload 7, 2) := by decide +kernel
theorem dL_kept_290 : decode cL_kept 290 = .ok (.iload_n 1, 1) := by decide +kernel
theorem dL_kept_291 : decode cL_kept 291 = .ok (.iconst 2, 1) := by decide +kernel
theorem dL_kept_292 : decode cL_kept 292 = .ok (.iadd, 1) := by decide +kernel
theorem dL_kept_293 : decode cL_kept 293 = .ok (.if_icmp .ge 103, 3) := by decide +kernel
theorem dL_kept_296 : decode cL_kept 296 = .ok (.iload 4, 2) := by decide +kernel
theorem dL_kept_298 : decode cL_kept 298 = .ok (.ifCond .eq 98, 3) := by decide +kernel
theorem dL_kept_301 : decode cL_kept 301 = .ok (.aload_n 0, 1) := by decide +kernel
theorem dL_kept_302 : decode cL_kept 302 = .ok (.iload 7, 2) := by decide +kernel
theorem dL_kept_304 : decode cL_kept 304 = .ok (.iconst 0, 1) := by decide +kernel
theorem dL_kept_305 : decode cL_kept 305 = .ok (.invokestatic 116, 3) := by decide +kernel
theorem dL_kept_308 : decode cL_kept 308 = .ok (.lstore 8, 2) := by decide +kernel
theorem dL_kept_310 : decode cL_kept 310 = .ok (.aload_n 0, 1) := by decide +kernel
theorem dL_kept_311 : decode cL_kept 311 = .ok (.iload 7, 2) := by decide +kernel
theorem dL_kept_313 : decode cL_kept 313 = .ok (.iconst 2, 1) := by decide +kernel
theorem dL_kept_314 : decode cL_kept 314 = .ok (.invokestatic 116, 3) := by decide +kernel
theorem dL_kept_317 : decode cL_kept 317 = .ok (.lstore 10, 2) := by decide +kernel
theorem dL_kept_319 : decode cL_kept 319 = .ok (.aload_n 0, 1) := by decide +kernel
theorem dL_kept_320 : decode cL_kept 320 = .ok (.iload 7, 2) := by decide +kernel
theorem dL_kept_322 : decode cL_kept 322 = .ok (.iconst 1, 1) := by decide +kernel
theorem dL_kept_323 : decode cL_kept 323 = .ok (.invokestatic 116, 3) := by decide +kernel
theorem dL_kept_326 : decode cL_kept 326 = .ok (.lstore 12, 2) := by decide +kernel
theorem dL_kept_328 : decode cL_kept 328 = .ok (.lload 8, 2) := by decide +kernel
theorem dL_kept_330 : decode cL_kept 330 = .ok (.aload_n 3, 1) := by decide +kernel
theorem dL_kept_331 : decode cL_kept 331 = .ok (.iload 7, 2) := by decide +kernel
theorem dL_kept_333 : decode cL_kept 333 = .ok (.iaload, 1) := by decide +kernel
theorem dL_kept_334 : decode cL_kept 334 = .ok (.i2l, 1) := by decide +kernel
theorem dL_kept_335 : decode cL_kept 335 = .ok (.lcmp, 1) := by decide +kernel
theorem dL_kept_336 : decode cL_kept 336 = .ok (.ifCond .ne 44, 3) := by decide +kernel
theorem dL_kept_339 : decode cL_kept 339 = .ok (.lload 12, 2) := by decide +kernel
theorem dL_kept_341 : decode cL_kept 341 = .ok (.lload 10, 2) := by decide +kernel
theorem dL_kept_343 : decode cL_kept 343 = .ok (.lmul, 1) := by decide +kernel
theorem dL_kept_344 : decode cL_kept 344 = .ok (.lload 8, 2) := by decide +kernel
theorem dL_kept_346 : decode cL_kept 346 = .ok (.lcmp, 1) := by decide +kernel
theorem dL_kept_347 : decode cL_kept 347 = .ok (.ifCond .gt 33, 3) := by decide +kernel
theorem dL_kept_350 : decode cL_kept 350 = .ok (.lload 8, 2) := by decide +kernel
theorem dL_kept_352 : decode cL_kept 352 = .ok (.lload 12, 2) := by decide +kernel
theorem dL_kept_354 : decode cL_kept 354 = .ok (.lconst 1, 1) := by decide +kernel
theorem dL_kept_355 : decode cL_kept 355 = .ok (.ladd, 1) := by decide +kernel
theorem dL_kept_356 : decode cL_kept 356 = .ok (.lload 10, 2) := by decide +kernel
theorem dL_kept_358 : decode cL_kept 358 = .ok (.lmul, 1) := by decide +kernel
theorem dL_kept_359 : decode cL_kept 359 = .ok (.lcmp, 1) := by decide +kernel
theorem dL_kept_360 : decode cL_kept 360 = .ok (.ifCond .ge 20, 3) := by decide +kernel
theorem dL_kept_363 : decode cL_kept 363 = .ok (.aload_n 0, 1) := by decide +kernel
theorem dL_kept_364 : decode cL_kept 364 = .ok (.iload 7, 2) := by decide +kernel
theorem dL_kept_366 : decode cL_kept 366 = .ok (.iconst 0, 1) := by decide +kernel
theorem dL_kept_367 : decode cL_kept 367 = .ok (.invokestatic 144, 3) := by decide +kernel
theorem dL_kept_370 : decode cL_kept 370 = .ok (.lload 12, 2) := by decide +kernel
theorem dL_kept_372 : decode cL_kept 372 = .ok (.lcmp, 1) := by decide +kernel
theorem dL_kept_373 : decode cL_kept 373 = .ok (.ifCond .ne 7, 3) := by decide +kernel
theorem dL_kept_376 : decode cL_kept 376 = .ok (.iconst 1, 1) := by decide +kernel
theorem dL_kept_377 : decode cL_kept 377 = .ok (.goto 4, 3) := by decide +kernel
theorem dL_kept_380 : decode cL_kept 380 = .ok (.iconst 0, 1) := by decide +kernel
theorem dL_kept_381 : decode cL_kept 381 = .ok (.istore 4, 2) := by decide +kernel
theorem dL_kept_383 : decode cL_kept 383 = .ok (.lload 5, 2) := by decide +kernel
theorem dL_kept_385 : decode cL_kept 385 = .ok (.lload 8, 2) := by decide +kernel
theorem dL_kept_387 : decode cL_kept 387 = .ok (.ladd, 1) := by decide +kernel
theorem dL_kept_388 : decode cL_kept 388 = .ok (.lstore 5, 2) := by decide +kernel
theorem dL_kept_390 : decode cL_kept 390 = .ok (.iinc 7 1, 3) := by decide +kernel
theorem dL_kept_393 : decode cL_kept 393 = .ok (.goto (-105), 3) := by decide +kernel
theorem dL_kept_396 : decode cL_kept 396 = .ok (.lconst 0, 1) := by decide +kernel
theorem dL_kept_397 : decode cL_kept 397 = .ok (.lstore 7, 2) := by decide +kernel
theorem dL_kept_399 : decode cL_kept 399 = .ok (.iconst 0, 1) := by decide +kernel
theorem dL_kept_400 : decode cL_kept 400 = .ok (.istore 9, 2) := by decide +kernel
theorem dL_kept_402 : decode cL_kept 402 = .ok (.iload 9, 2) := by decide +kernel
theorem dL_kept_404 : decode cL_kept 404 = .ok (.iload_n 1, 1) := by decide +kernel
theorem dL_kept_405 : decode cL_kept 405 = .ok (.if_icmp .ge 138, 3) := by decide +kernel
theorem dL_kept_408 : decode cL_kept 408 = .ok (.iload 4, 2) := by decide +kernel
theorem dL_kept_410 : decode cL_kept 410 = .ok (.ifCond .eq 133, 3) := by decide +kernel
theorem dL_kept_413 : decode cL_kept 413 = .ok (.aload_n 0, 1) := by decide +kernel
theorem dL_kept_414 : decode cL_kept 414 = .ok (.iload 9, 2) := by decide +kernel
theorem dL_kept_416 : decode cL_kept 416 = .ok (.iconst 4, 1) := by decide +kernel
theorem dL_kept_417 : decode cL_kept 417 = .ok (.invokestatic 119, 3) := by decide +kernel
theorem dL_kept_420 : decode cL_kept 420 = .ok (.aload_n 0, 1) := by decide +kernel
theorem dL_kept_421 : decode cL_kept 421 = .ok (.iload 9, 2) := by decide +kernel
theorem dL_kept_423 : decode cL_kept 423 = .ok (.iconst 5, 1) := by decide +kernel
theorem dL_kept_424 : decode cL_kept 424 = .ok (.invokestatic 119, 3) := by decide +kernel
theorem dL_kept_427 : decode cL_kept 427 = .ok (.ladd, 1) := by decide +kernel
theorem dL_kept_428 : decode cL_kept 428 = .ok (.aload_n 0, 1) := by decide +kernel
theorem dL_kept_429 : decode cL_kept 429 = .ok (.iload 9, 2) := by decide +kernel
theorem dL_kept_431 : decode cL_kept 431 = .ok (.bipush 6, 2) := by decide +kernel
theorem dL_kept_433 : decode cL_kept 433 = .ok (.invokestatic 119, 3) := by decide +kernel
theorem dL_kept_436 : decode cL_kept 436 = .ok (.ladd, 1) := by decide +kernel
theorem dL_kept_437 : decode cL_kept 437 = .ok (.lstore 10, 2) := by decide +kernel
theorem dL_kept_439 : decode cL_kept 439 = .ok (.lload 10, 2) := by decide +kernel
theorem dL_kept_441 : decode cL_kept 441 = .ok (.aload_n 0, 1) := by decide +kernel
theorem dL_kept_442 : decode cL_kept 442 = .ok (.iconst 1, 1) := by decide +kernel
theorem dL_kept_443 : decode cL_kept 443 = .ok (.invokestatic 107, 3) := by decide +kernel
theorem dL_kept_446 : decode cL_kept 446 = .ok (.lcmp, 1) := by decide +kernel
theorem dL_kept_447 : decode cL_kept 447 = .ok (.ifCond .gt 75, 3) := by decide +kernel
theorem dL_kept_450 : decode cL_kept 450 = .ok (.aload_n 0, 1) := by decide +kernel
theorem dL_kept_451 : decode cL_kept 451 = .ok (.iload 9, 2) := by decide +kernel
theorem dL_kept_453 : decode cL_kept 453 = .ok (.iconst 4, 1) := by decide +kernel
theorem dL_kept_454 : decode cL_kept 454 = .ok (.invokestatic 119, 3) := by decide +kernel
theorem dL_kept_457 : decode cL_kept 457 = .ok (.lconst 0, 1) := by decide +kernel
theorem dL_kept_458 : decode cL_kept 458 = .ok (.lcmp, 1) := by decide +kernel
theorem dL_kept_459 : decode cL_kept 459 = .ok (.ifCond .lt 63, 3) := by decide +kernel
theorem dL_kept_462 : decode cL_kept 462 = .ok (.aload_n 0, 1) := by decide +kernel
theorem dL_kept_463 : decode cL_kept 463 = .ok (.iload 9, 2) := by decide +kernel
theorem dL_kept_465 : decode cL_kept 465 = .ok (.iconst 5, 1) := by decide +kernel
theorem dL_kept_466 : decode cL_kept 466 = .ok (.invokestatic 119, 3) := by decide +kernel
theorem dL_kept_469 : decode cL_kept 469 = .ok (.lconst 0, 1) := by decide +kernel
theorem dL_kept_470 : decode cL_kept 470 = .ok (.lcmp, 1) := by decide +kernel
theorem dL_kept_471 : decode cL_kept 471 = .ok (.ifCond .lt 51, 3) := by decide +kernel
theorem dL_kept_474 : decode cL_kept 474 = .ok (.aload_n 0, 1) := by decide +kernel
theorem dL_kept_475 : decode cL_kept 475 = .ok (.iload 9, 2) := by decide +kernel
theorem dL_kept_477 : decode cL_kept 477 = .ok (.bipush 6, 2) := by decide +kernel
theorem dL_kept_479 : decode cL_kept 479 = .ok (.invokestatic 119, 3) := by decide +kernel
theorem dL_kept_482 : decode cL_kept 482 = .ok (.lconst 0, 1) := by decide +kernel
theorem dL_kept_483 : decode cL_kept 483 = .ok (.lcmp, 1) := by decide +kernel
theorem dL_kept_484 : decode cL_kept 484 = .ok (.ifCond .lt 38, 3) := by decide +kernel
theorem dL_kept_487 : decode cL_kept 487 = .ok (.aload_n 0, 1) := by decide +kernel
theorem dL_kept_488 : decode cL_kept 488 = .ok (.iconst 2, 1) := by decide +kernel
theorem dL_kept_489 : decode cL_kept 489 = .ok (.iload 9, 2) := by decide +kernel
theorem dL_kept_491 : decode cL_kept 491 = .ok (.iadd, 1) := by decide +kernel
theorem dL_kept_492 : decode cL_kept 492 = .ok (.iconst 1, 1) := by decide +kernel
theorem dL_kept_493 : decode cL_kept 493 = .ok (.invokestatic 116, 3) := by decide +kernel
theorem dL_kept_496 : decode cL_kept 496 = .ok (.aload_n 0, 1) := by decide +kernel
theorem dL_kept_497 : decode cL_kept 497 = .ok (.iload 9, 2) := by decide +kernel
theorem dL_kept_499 : decode cL_kept 499 = .ok (.iconst 0, 1) := by decide +kernel
theorem dL_kept_500 : decode cL_kept 500 = .ok (.invokestatic 119, 3) := by decide +kernel
theorem dL_kept_503 : decode cL_kept 503 = .ok (.lcmp, 1) := by decide +kernel
theorem dL_kept_504 : decode cL_kept 504 = .ok (.ifCond .lt 14, 3) := by decide +kernel
theorem dL_kept_507 : decode cL_kept 507 = .ok (.aload_n 0, 1) := by decide +kernel
theorem dL_kept_508 : decode cL_kept 508 = .ok (.iload 9, 2) := by decide +kernel
theorem dL_kept_510 : decode cL_kept 510 = .ok (.invokestatic 146, 3) := by decide +kernel
theorem dL_kept_513 : decode cL_kept 513 = .ok (.lconst 0, 1) := by decide +kernel
theorem dL_kept_514 : decode cL_kept 514 = .ok (.lcmp, 1) := by decide +kernel
theorem dL_kept_515 : decode cL_kept 515 = .ok (.ifCond .ne 7, 3) := by decide +kernel
theorem dL_kept_518 : decode cL_kept 518 = .ok (.iconst 1, 1) := by decide +kernel
theorem dL_kept_519 : decode cL_kept 519 = .ok (.goto 4, 3) := by decide +kernel
theorem dL_kept_522 : decode cL_kept 522 = .ok (.iconst 0, 1) := by decide +kernel
theorem dL_kept_523 : decode cL_kept 523 = .ok (.istore 4, 2) := by decide +kernel
theorem dL_kept_525 : decode cL_kept 525 = .ok (.lload 7, 2) := by decide +kernel
theorem dL_kept_527 : decode cL_kept 527 = .ok (.aload_n 0, 1) := by decide +kernel
theorem dL_kept_528 : decode cL_kept 528 = .ok (.iload 9, 2) := by decide +kernel
theorem dL_kept_530 : decode cL_kept 530 = .ok (.iconst 4, 1) := by decide +kernel
theorem dL_kept_531 : decode cL_kept 531 = .ok (.invokestatic 119, 3) := by decide +kernel
theorem dL_kept_534 : decode cL_kept 534 = .ok (.ladd, 1) := by decide +kernel
theorem dL_kept_535 : decode cL_kept 535 = .ok (.lstore 7, 2) := by decide +kernel
theorem dL_kept_537 : decode cL_kept 537 = .ok (.iinc 9 1, 3) := by decide +kernel
theorem dL_kept_540 : decode cL_kept 540 = .ok (.goto (-138), 3) := by decide +kernel
theorem dL_kept_543 : decode cL_kept 543 = .ok (.aload_n 0, 1) := by decide +kernel
theorem dL_kept_544 : decode cL_kept 544 = .ok (.iconst 5, 1) := by decide +kernel
theorem dL_kept_545 : decode cL_kept 545 = .ok (.invokestatic 107, 3) := by decide +kernel
theorem dL_kept_548 : decode cL_kept 548 = .ok (.lstore 9, 2) := by decide +kernel
theorem dL_kept_550 : decode cL_kept 550 = .ok (.iload 4, 2) := by decide +kernel
theorem dL_kept_552 : decode cL_kept 552 = .ok (.ifCond .eq 124, 3) := by decide +kernel
theorem dL_kept_555 : decode cL_kept 555 = .ok (.aload_n 0, 1) := by decide +kernel
theorem dL_kept_556 : decode cL_kept 556 = .ok (.bipush 10, 2) := by decide +kernel
theorem dL_kept_558 : decode cL_kept 558 = .ok (.invokestatic 107, 3) := by decide +kernel
theorem dL_kept_561 : decode cL_kept 561 = .ok (.lload 5, 2) := by decide +kernel
theorem dL_kept_563 : decode cL_kept 563 = .ok (.lcmp, 1) := by decide +kernel
theorem dL_kept_564 : decode cL_kept 564 = .ok (.ifCond .ne 112, 3) := by decide +kernel
theorem dL_kept_567 : decode cL_kept 567 = .ok (.aload_n 0, 1) := by decide +kernel
theorem dL_kept_568 : decode cL_kept 568 = .ok (.bipush 12, 2) := by decide +kernel
theorem dL_kept_570 : decode cL_kept 570 = .ok (.invokestatic 107, 3) := by decide +kernel
theorem dL_kept_573 : decode cL_kept 573 = .ok (.lload 7, 2) := by decide +kernel
theorem dL_kept_575 : decode cL_kept 575 = .ok (.lcmp, 1) := by decide +kernel
theorem dL_kept_576 : decode cL_kept 576 = .ok (.ifCond .ne 100, 3) := by decide +kernel
theorem dL_kept_579 : decode cL_kept 579 = .ok (.lload 9, 2) := by decide +kernel
theorem dL_kept_581 : decode cL_kept 581 = .ok (.lconst 0, 1) := by decide +kernel
theorem dL_kept_582 : decode cL_kept 582 = .ok (.ldc2_w 177, 3) := by decide +kernel
theorem dL_kept_585 : decode cL_kept 585 = .ok (.invokestatic 171, 3) := by decide +kernel
theorem dL_kept_588 : decode cL_kept 588 = .ok (.ifCond .eq 88, 3) := by decide +kernel
theorem dL_kept_591 : decode cL_kept 591 = .ok (.aload_n 0, 1) := by decide +kernel
theorem dL_kept_592 : decode cL_kept 592 = .ok (.bipush 7, 2) := by decide +kernel
theorem dL_kept_594 : decode cL_kept 594 = .ok (.invokestatic 107, 3) := by decide +kernel
theorem dL_kept_597 : decode cL_kept 597 = .ok (.lconst 0, 1) := by decide +kernel
theorem dL_kept_598 : decode cL_kept 598 = .ok (.ldc2_w 179, 3) := by decide +kernel
theorem dL_kept_601 : decode cL_kept 601 = .ok (.invokestatic 171, 3) := by decide +kernel
theorem dL_kept_604 : decode cL_kept 604 = .ok (.ifCond .eq 72, 3) := by decide +kernel
theorem dL_kept_607 : decode cL_kept 607 = .ok (.aload_n 0, 1) := by decide +kernel
theorem dL_kept_608 : decode cL_kept 608 = .ok (.iconst 4, 1) := by decide +kernel
theorem dL_kept_609 : decode cL_kept 609 = .ok (.invokestatic 107, 3) := by decide +kernel
theorem dL_kept_612 : decode cL_kept 612 = .ok (.lconst 0, 1) := by decide +kernel
theorem dL_kept_613 : decode cL_kept 613 = .ok (.aload_n 0, 1) := by decide +kernel
theorem dL_kept_614 : decode cL_kept 614 = .ok (.iconst 1, 1) := by decide +kernel
theorem dL_kept_615 : decode cL_kept 615 = .ok (.invokestatic 107, 3) := by decide +kernel
theorem dL_kept_618 : decode cL_kept 618 = .ok (.invokestatic 171, 3) := by decide +kernel
theorem dL_kept_621 : decode cL_kept 621 = .ok (.ifCond .eq 55, 3) := by decide +kernel
theorem dL_kept_624 : decode cL_kept 624 = .ok (.aload_n 0, 1) := by decide +kernel
theorem dL_kept_625 : decode cL_kept 625 = .ok (.bipush 8, 2) := by decide +kernel
theorem dL_kept_627 : decode cL_kept 627 = .ok (.invokestatic 107, 3) := by decide +kernel
theorem dL_kept_630 : decode cL_kept 630 = .ok (.ldc2_w 181, 3) := by decide +kernel
theorem dL_kept_633 : decode cL_kept 633 = .ok (.ldc2_w 183, 3) := by decide +kernel
theorem dL_kept_636 : decode cL_kept 636 = .ok (.invokestatic 171, 3) := by decide +kernel
theorem dL_kept_639 : decode cL_kept 639 = .ok (.ifCond .eq 37, 3) := by decide +kernel
theorem dL_kept_642 : decode cL_kept 642 = .ok (.aload_n 0, 1) := by decide +kernel
theorem dL_kept_643 : decode cL_kept 643 = .ok (.iconst 0, 1) := by decide +kernel
theorem dL_kept_644 : decode cL_kept 644 = .ok (.invokestatic 152, 3) := by decide +kernel
theorem dL_kept_647 : decode cL_kept 647 = .ok (.lconst 0, 1) := by decide +kernel
theorem dL_kept_648 : decode cL_kept 648 = .ok (.lcmp, 1) := by decide +kernel
theorem dL_kept_649 : decode cL_kept 649 = .ok (.ifCond .ne 27, 3) := by decide +kernel
theorem dL_kept_652 : decode cL_kept 652 = .ok (.aload_n 0, 1) := by decide +kernel
theorem dL_kept_653 : decode cL_kept 653 = .ok (.iconst 1, 1) := by decide +kernel
theorem dL_kept_654 : decode cL_kept 654 = .ok (.invokestatic 148, 3) := by decide +kernel
theorem dL_kept_657 : decode cL_kept 657 = .ok (.iload_n 1, 1) := by decide +kernel
theorem dL_kept_658 : decode cL_kept 658 = .ok (.ifCond .ne 9, 3) := by decide +kernel
theorem dL_kept_661 : decode cL_kept 661 = .ok (.ldc2_w 185, 3) := by decide +kernel
theorem dL_kept_664 : decode cL_kept 664 = .ok (.goto 4, 3) := by decide +kernel
theorem dL_kept_667 : decode cL_kept 667 = .ok (.lconst 0, 1) := by decide +kernel
theorem dL_kept_668 : decode cL_kept 668 = .ok (.lcmp, 1) := by decide +kernel
theorem dL_kept_669 : decode cL_kept 669 = .ok (.ifCond .lt 7, 3) := by decide +kernel
theorem dL_kept_672 : decode cL_kept 672 = .ok (.iconst 1, 1) := by decide +kernel
theorem dL_kept_673 : decode cL_kept 673 = .ok (.goto 4, 3) := by decide +kernel
theorem dL_kept_676 : decode cL_kept 676 = .ok (.iconst 0, 1) := by decide +kernel
theorem dL_kept_677 : decode cL_kept 677 = .ok (.ireturn, 1) := by decide +kernel
theorem dL_follows_0 : decode cL_follows 0 = .ok (.aload_n 0, 1) := by decide +kernel
theorem dL_follows_1 : decode cL_follows 1 = .ok (.invokestatic 123, 3) := by decide +kernel
theorem dL_follows_4 : decode cL_follows 4 = .ok (.lstore_n 2, 1) := by decide +kernel
theorem dL_follows_5 : decode cL_follows 5 = .ok (.aload_n 0, 1) := by decide +kernel
theorem dL_follows_6 : decode cL_follows 6 = .ok (.iconst 0, 1) := by decide +kernel
theorem dL_follows_7 : decode cL_follows 7 = .ok (.invokestatic 107, 3) := by decide +kernel
theorem dL_follows_10 : decode cL_follows 10 = .ok (.l2i, 1) := by decide +kernel
theorem dL_follows_11 : decode cL_follows 11 = .ok (.istore 4, 2) := by decide +kernel
theorem dL_follows_13 : decode cL_follows 13 = .ok (.iconst 1, 1) := by decide +kernel
theorem dL_follows_14 : decode cL_follows 14 = .ok (.iload_n 1, 1) := by decide +kernel
theorem dL_follows_15 : decode cL_follows 15 = .ok (.bipush 60, 2) := by decide +kernel
theorem dL_follows_17 : decode cL_follows 17 = .ok (.irem, 1) := by decide +kernel
theorem dL_follows_18 : decode cL_follows 18 = .ok (.iadd, 1) := by decide +kernel
theorem dL_follows_19 : decode cL_follows 19 = .ok (.istore 5, 2) := by decide +kernel
theorem dL_follows_21 : decode cL_follows 21 = .ok (.iload_n 1, 1) := by decide +kernel
theorem dL_follows_22 : decode cL_follows 22 = .ok (.bipush 60, 2) := by decide +kernel
theorem dL_follows_24 : decode cL_follows 24 = .ok (.idiv, 1) := by decide +kernel
theorem dL_follows_25 : decode cL_follows 25 = .ok (.iload 4, 2) := by decide +kernel
theorem dL_follows_27 : decode cL_follows 27 = .ok (.iconst 2, 1) := by decide +kernel
theorem dL_follows_28 : decode cL_follows 28 = .ok (.iadd, 1) := by decide +kernel
theorem dL_follows_29 : decode cL_follows 29 = .ok (.irem, 1) := by decide +kernel
theorem dL_follows_30 : decode cL_follows 30 = .ok (.istore 6, 2) := by decide +kernel
theorem dL_follows_32 : decode cL_follows 32 = .ok (.aload_n 0, 1) := by decide +kernel
theorem dL_follows_33 : decode cL_follows 33 = .ok (.iconst 1, 1) := by decide +kernel
theorem dL_follows_34 : decode cL_follows 34 = .ok (.invokestatic 107, 3) := by decide +kernel
theorem dL_follows_37 : decode cL_follows 37 = .ok (.lstore 7, 2) := by decide +kernel
theorem dL_follows_39 : decode cL_follows 39 = .ok (.aload_n 0, 1) := by decide +kernel
theorem dL_follows_40 : decode cL_follows 40 = .ok (.iload 6, 2) := by decide +kernel
theorem dL_follows_42 : decode cL_follows 42 = .ok (.iload 5, 2) := by decide +kernel
theorem dL_follows_44 : decode cL_follows 44 = .ok (.invokestatic 144, 3) := by decide +kernel
theorem dL_follows_47 : decode cL_follows 47 = .ok (.lstore 9, 2) := by decide +kernel
theorem dL_follows_49 : decode cL_follows 49 = .ok (.aload_n 0, 1) := by decide +kernel
theorem dL_follows_50 : decode cL_follows 50 = .ok (.iload 5, 2) := by decide +kernel
theorem dL_follows_52 : decode cL_follows 52 = .ok (.invokestatic 152, 3) := by decide +kernel
theorem dL_follows_55 : decode cL_follows 55 = .ok (.lstore 11, 2) := by decide +kernel
theorem dL_follows_57 : decode cL_follows 57 = .ok (.aload_n 0, 1) := by decide +kernel
theorem dL_follows_58 : decode cL_follows 58 = .ok (.bipush 9, 2) := by decide +kernel
theorem dL_follows_60 : decode cL_follows 60 = .ok (.iconst 0, 1) := by decide +kernel
theorem dL_follows_61 : decode cL_follows 61 = .ok (.invokestatic 127, 3) := by decide +kernel
theorem dL_follows_64 : decode cL_follows 64 = .ok (.lstore 13, 2) := by decide +kernel
theorem dL_follows_66 : decode cL_follows 66 = .ok (.aload_n 0, 1) := by decide +kernel
theorem dL_follows_67 : decode cL_follows 67 = .ok (.iconst 1, 1) := by decide +kernel
theorem dL_follows_68 : decode cL_follows 68 = .ok (.invokestatic 187, 3) := by decide +kernel
theorem dL_follows_71 : decode cL_follows 71 = .ok (.istore 15, 2) := by decide +kernel
theorem dL_follows_73 : decode cL_follows 73 = .ok (.aload_n 0, 1) := by decide +kernel
theorem dL_follows_74 : decode cL_follows 74 = .ok (.iconst 0, 1) := by decide +kernel
theorem dL_follows_75 : decode cL_follows 75 = .ok (.invokestatic 187, 3) := by decide +kernel
theorem dL_follows_78 : decode cL_follows 78 = .ok (.istore 16, 2) := by decide +kernel
theorem dL_follows_80 : decode cL_follows 80 = .ok (.aload_n 0, 1) := by decide +kernel
theorem dL_follows_81 : decode cL_follows 81 = .ok (.iconst 5, 1) := by decide +kernel
theorem dL_follows_82 : decode cL_follows 82 = .ok (.invokestatic 107, 3) := by decide +kernel
theorem dL_follows_85 : decode cL_follows 85 = .ok (.lstore 17, 2) := by decide +kernel
theorem dL_follows_87 : decode cL_follows 87 = .ok (.aload_n 0, 1) := by decide +kernel
theorem dL_follows_88 : decode cL_follows 88 = .ok (.iconst 5, 1) := by decide +kernel
theorem dL_follows_89 : decode cL_follows 89 = .ok (.invokestatic 112, 3) := by decide +kernel
theorem dL_follows_92 : decode cL_follows 92 = .ok (.lstore 19, 2) := by decide +kernel
theorem dL_follows_94 : decode cL_follows 94 = .ok (.aload_n 0, 1) := by decide +kernel
theorem dL_follows_95 : decode cL_follows 95 = .ok (.bipush 12, 2) := by decide +kernel
theorem dL_follows_97 : decode cL_follows 97 = .ok (.invokestatic 107, 3) := by decide +kernel
theorem dL_follows_100 : decode cL_follows 100 = .ok (.lstore 21, 2) := by decide +kernel
theorem dL_follows_102 : decode cL_follows 102 = .ok (.aload_n 0, 1) := by decide +kernel
theorem dL_follows_103 : decode cL_follows 103 = .ok (.iconst 1, 1) := by decide +kernel
theorem dL_follows_104 : decode cL_follows 104 = .ok (.invokestatic 163, 3) := by decide +kernel
theorem dL_follows_107 : decode cL_follows 107 = .ok (.lload 7, 2) := by decide +kernel
theorem dL_follows_109 : decode cL_follows 109 = .ok (.lcmp, 1) := by decide +kernel
theorem dL_follows_110 : decode cL_follows 110 = .ok (.ifCond .ne 35, 3) := by decide +kernel
theorem dL_follows_113 : decode cL_follows 113 = .ok (.aload_n 0, 1) := by decide +kernel
theorem dL_follows_114 : decode cL_follows 114 = .ok (.iconst 1, 1) := by decide +kernel
theorem dL_follows_115 : decode cL_follows 115 = .ok (.ldc2_w 191, 3) := by decide +kernel
theorem dL_follows_118 : decode cL_follows 118 = .ok (.iload 5, 2) := by decide +kernel
theorem dL_follows_120 : decode cL_follows 120 = .ok (.i2l, 1) := by decide +kernel
theorem dL_follows_121 : decode cL_follows 121 = .ok (.ladd, 1) := by decide +kernel
theorem dL_follows_122 : decode cL_follows 122 = .ok (.invokestatic 154, 3) := by decide +kernel
theorem dL_follows_125 : decode cL_follows 125 = .ok (.ldc2_w 185, 3) := by decide +kernel
theorem dL_follows_128 : decode cL_follows 128 = .ok (.lcmp, 1) := by decide +kernel
theorem dL_follows_129 : decode cL_follows 129 = .ok (.ifCond .ne 16, 3) := by decide +kernel
theorem dL_follows_132 : decode cL_follows 132 = .ok (.aload_n 0, 1) := by decide +kernel
theorem dL_follows_133 : decode cL_follows 133 = .ok (.invokestatic 123, 3) := by decide +kernel
theorem dL_follows_136 : decode cL_follows 136 = .ok (.lload_n 2, 1) := by decide +kernel
theorem dL_follows_137 : decode cL_follows 137 = .ok (.lcmp, 1) := by decide +kernel
theorem dL_follows_138 : decode cL_follows 138 = .ok (.ifCond .ne 7, 3) := by decide +kernel
theorem dL_follows_141 : decode cL_follows 141 = .ok (.iconst 1, 1) := by decide +kernel
theorem dL_follows_142 : decode cL_follows 142 = .ok (.goto 4, 3) := by decide +kernel
theorem dL_follows_145 : decode cL_follows 145 = .ok (.iconst 0, 1) := by decide +kernel
theorem dL_follows_146 : decode cL_follows 146 = .ok (.istore 23, 2) := by decide +kernel
theorem dL_follows_148 : decode cL_follows 148 = .ok (.aload_n 0, 1) := by decide +kernel
theorem dL_follows_149 : decode cL_follows 149 = .ok (.iload 5, 2) := by decide +kernel
theorem dL_follows_151 : decode cL_follows 151 = .ok (.invokestatic 142, 3) := by decide +kernel
theorem dL_follows_154 : decode cL_follows 154 = .ok (.lstore 24, 2) := by decide +kernel
theorem dL_follows_156 : decode cL_follows 156 = .ok (.iload 23, 2) := by decide +kernel
theorem dL_follows_158 : decode cL_follows 158 = .ok (.ifCond .eq 84, 3) := by decide +kernel
theorem dL_follows_161 : decode cL_follows 161 = .ok (.aload_n 0, 1) := by decide +kernel
theorem dL_follows_162 : decode cL_follows 162 = .ok (.iload 6, 2) := by decide +kernel
theorem dL_follows_164 : decode cL_follows 164 = .ok (.iconst 1, 1) := by decide +kernel
theorem dL_follows_165 : decode cL_follows 165 = .ok (.invokestatic 116, 3) := by decide +kernel
theorem dL_follows_168 : decode cL_follows 168 = .ok (.lload 9, 2) := by decide +kernel
theorem dL_follows_170 : decode cL_follows 170 = .ok (.lcmp, 1) := by decide +kernel
theorem dL_follows_171 : decode cL_follows 171 = .ok (.ifCond .ne 71, 3) := by decide +kernel
theorem dL_follows_174 : decode cL_follows 174 = .ok (.aload_n 0, 1) := by decide +kernel
theorem dL_follows_175 : decode cL_follows 175 = .ok (.bipush 9, 2) := by decide +kernel
theorem dL_follows_177 : decode cL_follows 177 = .ok (.iconst 0, 1) := by decide +kernel
theorem dL_follows_178 : decode cL_follows 178 = .ok (.invokestatic 127, 3) := by decide +kernel
theorem dL_follows_181 : decode cL_follows 181 = .ok (.lload 13, 2) := by decide +kernel
theorem dL_follows_183 : decode cL_follows 183 = .ok (.lload 11, 2) := by decide +kernel
theorem dL_follows_185 : decode cL_follows 185 = .ok (.ladd, 1) := by decide +kernel
theorem dL_follows_186 : decode cL_follows 186 = .ok (.lcmp, 1) := by decide +kernel
theorem dL_follows_187 : decode cL_follows 187 = .ok (.ifCond .ne 55, 3) := by decide +kernel
theorem dL_follows_190 : decode cL_follows 190 = .ok (.aload_n 0, 1) := by decide +kernel
theorem dL_follows_191 : decode cL_follows 191 = .ok (.bipush 12, 2) := by decide +kernel
theorem dL_follows_193 : decode cL_follows 193 = .ok (.invokestatic 107, 3) := by decide +kernel
theorem dL_follows_196 : decode cL_follows 196 = .ok (.lload 21, 2) := by decide +kernel
theorem dL_follows_198 : decode cL_follows 198 = .ok (.lload 24, 2) := by decide +kernel
theorem dL_follows_200 : decode cL_follows 200 = .ok (.ladd, 1) := by decide +kernel
theorem dL_follows_201 : decode cL_follows 201 = .ok (.lcmp, 1) := by decide +kernel
theorem dL_follows_202 : decode cL_follows 202 = .ok (.ifCond .ne 40, 3) := by decide +kernel
theorem dL_follows_205 : decode cL_follows 205 = .ok (.aload_n 0, 1) := by decide +kernel
theorem dL_follows_206 : decode cL_follows 206 = .ok (.iconst 1, 1) := by decide +kernel
theorem dL_follows_207 : decode cL_follows 207 = .ok (.invokestatic 107, 3) := by decide +kernel
theorem dL_follows_210 : decode cL_follows 210 = .ok (.lload 7, 2) := by decide +kernel
theorem dL_follows_212 : decode cL_follows 212 = .ok (.iload 5, 2) := by decide +kernel
theorem dL_follows_214 : decode cL_follows 214 = .ok (.i2l, 1) := by decide +kernel
theorem dL_follows_215 : decode cL_follows 215 = .ok (.ladd, 1) := by decide +kernel
theorem dL_follows_216 : decode cL_follows 216 = .ok (.lcmp, 1) := by decide +kernel
theorem dL_follows_217 : decode cL_follows 217 = .ok (.ifCond .ne 25, 3) := by decide +kernel
theorem dL_follows_220 : decode cL_follows 220 = .ok (.aload_n 0, 1) := by decide +kernel
theorem dL_follows_221 : decode cL_follows 221 = .ok (.invokestatic 193, 3) := by decide +kernel
theorem dL_follows_224 : decode cL_follows 224 = .ok (.lconst 0, 1) := by decide +kernel
theorem dL_follows_225 : decode cL_follows 225 = .ok (.lcmp, 1) := by decide +kernel
theorem dL_follows_226 : decode cL_follows 226 = .ok (.ifCond .lt 16, 3) := by decide +kernel
theorem dL_follows_229 : decode cL_follows 229 = .ok (.aload_n 0, 1) := by decide +kernel
theorem dL_follows_230 : decode cL_follows 230 = .ok (.invokestatic 123, 3) := by decide +kernel
theorem dL_follows_233 : decode cL_follows 233 = .ok (.lload_n 2, 1) := by decide +kernel
theorem dL_follows_234 : decode cL_follows 234 = .ok (.lcmp, 1) := by decide +kernel
theorem dL_follows_235 : decode cL_follows 235 = .ok (.ifCond .ne 7, 3) := by decide +kernel
theorem dL_follows_238 : decode cL_follows 238 = .ok (.iconst 1, 1) := by decide +kernel
theorem dL_follows_239 : decode cL_follows 239 = .ok (.goto 4, 3) := by decide +kernel
theorem dL_follows_242 : decode cL_follows 242 = .ok (.iconst 0, 1) := by decide +kernel
theorem dL_follows_243 : decode cL_follows 243 = .ok (.istore 23, 2) := by decide +kernel
theorem dL_follows_245 : decode cL_follows 245 = .ok (.iload 23, 2) := by decide +kernel
theorem dL_follows_247 : decode cL_follows 247 = .ok (.ifCond .eq 176, 3) := by decide +kernel
theorem dL_follows_250 : decode cL_follows 250 = .ok (.aload_n 0, 1) := by decide +kernel
theorem dL_follows_251 : decode cL_follows 251 = .ok (.iconst 1, 1) := by decide +kernel
theorem dL_follows_252 : decode cL_follows 252 = .ok (.invokestatic 142, 3) := by decide +kernel
theorem dL_follows_255 : decode cL_follows 255 = .ok (.lconst 0, 1) := by decide +kernel
theorem dL_follows_256 : decode cL_follows 256 = .ok (.lcmp, 1) := by decide +kernel
theorem dL_follows_257 : decode cL_follows 257 = .ok (.ifCond .lt 166, 3) := by decide +kernel
theorem dL_follows_260 : decode cL_follows 260 = .ok (.iload 15, 2) := by decide +kernel
theorem dL_follows_262 : decode cL_follows 262 = .ok (.ifCond .ne 7, 3) := by decide +kernel
theorem dL_follows_265 : decode cL_follows 265 = .ok (.iconst 1, 1) := by decide +kernel
theorem dL_follows_266 : decode cL_follows 266 = .ok (.goto 4, 3) := by decide +kernel
theorem dL_follows_269 : decode cL_follows 269 = .ok (.iconst 0, 1) := by decide +kernel
theorem dL_follows_270 : decode cL_follows 270 = .ok (.aload_n 0, 1) := by decide +kernel
theorem dL_follows_271 : decode cL_follows 271 = .ok (.iconst 3, 1) := by decide +kernel
theorem dL_follows_272 : decode cL_follows 272 = .ok (.invokestatic 107, 3) := by decide +kernel
theorem dL_follows_275 : decode cL_follows 275 = .ok (.lconst 1, 1) := by decide +kernel
theorem dL_follows_276 : decode cL_follows 276 = .ok (.lcmp, 1) := by decide +kernel
theorem dL_follows_277 : decode cL_follows 277 = .ok (.ifCond .ne 7, 3) := by decide +kernel
theorem dL_follows_280 : decode cL_follows 280 = .ok (.iconst 1, 1) := by decide +kernel
theorem dL_follows_281 : decode cL_follows 281 = .ok (.goto 4, 3) := by decide +kernel
theorem dL_follows_284 : decode cL_follows 284 = .ok (.iconst 0, 1) := by decide +kernel
theorem dL_follows_285 : decode cL_follows 285 = .ok (.if_icmp .ne 138, 3) := by decide +kernel
theorem dL_follows_288 : decode cL_follows 288 = .ok (.iload 15, 2) := by decide +kernel
theorem dL_follows_290 : decode cL_follows 290 = .ok (.iconst 1, 1) := by decide +kernel
theorem dL_follows_291 : decode cL_follows 291 = .ok (.if_icmp .ne 14, 3) := by decide +kernel
theorem dL_follows_294 : decode cL_follows 294 = .ok (.aload_n 0, 1) := by decide +kernel
theorem dL_follows_295 : decode cL_follows 295 = .ok (.bipush 6, 2) := by decide +kernel
theorem dL_follows_297 : decode cL_follows 297 = .ok (.invokestatic 107, 3) := by decide +kernel
theorem dL_follows_300 : decode cL_follows 300 = .ok (.lconst 1, 1) := by decide +kernel
theorem dL_follows_301 : decode cL_follows 301 = .ok (.lcmp, 1) := by decide +kernel
theorem dL_follows_302 : decode cL_follows 302 = .ok (.ifCond .ne 121, 3) := by decide +kernel
theorem dL_follows_305 : decode cL_follows 305 = .ok (.iload 16, 2) := by decide +kernel
theorem dL_follows_307 : decode cL_follows 307 = .ok (.ifCond .ne 7, 3) := by decide +kernel
theorem dL_follows_310 : decode cL_follows 310 = .ok (.iconst 1, 1) := by decide +kernel
theorem dL_follows_311 : decode cL_follows 311 = .ok (.goto 4, 3) := by decide +kernel
theorem dL_follows_314 : decode cL_follows 314 = .ok (.iconst 0, 1) := by decide +kernel
theorem dL_follows_315 : decode cL_follows 315 = .ok (.aload_n 0, 1) := by decide +kernel
theorem dL_follows_316 : decode cL_follows 316 = .ok (.iconst 5, 1) := by decide +kernel
theorem dL_follows_317 : decode cL_follows 317 = .ok (.invokestatic 107, 3) := by decide +kernel
theorem dL_follows_320 : decode cL_follows 320 = .ok (.ldc2_w 177, 3) := by decide +kernel
theorem dL_follows_323 : decode cL_follows 323 = .ok (.lcmp, 1) := by decide +kernel
theorem dL_follows_324 : decode cL_follows 324 = .ok (.ifCond .ne 7, 3) := by decide +kernel
theorem dL_follows_327 : decode cL_follows 327 = .ok (.iconst 1, 1) := by decide +kernel
theorem dL_follows_328 : decode cL_follows 328 = .ok (.goto 4, 3) := by decide +kernel
theorem dL_follows_331 : decode cL_follows 331 = .ok (.iconst 0, 1) := by decide +kernel
theorem dL_follows_332 : decode cL_follows 332 = .ok (.if_icmp .ne 91, 3) := by decide +kernel
theorem dL_follows_335 : decode cL_follows 335 = .ok (.iload 16, 2) := by decide +kernel
theorem dL_follows_337 : decode cL_follows 337 = .ok (.iconst 1, 1) := by decide +kernel
theorem dL_follows_338 : decode cL_follows 338 = .ok (.if_icmp .ne 24, 3) := by decide +kernel
theorem dL_follows_341 : decode cL_follows 341 = .ok (.aload_n 0, 1) := by decide +kernel
theorem dL_follows_342 : decode cL_follows 342 = .ok (.bipush 6, 2) := by decide +kernel
theorem dL_follows_344 : decode cL_follows 344 = .ok (.invokestatic 107, 3) := by decide +kernel
theorem dL_follows_347 : decode cL_follows 347 = .ok (.lconst 1, 1) := by decide +kernel
theorem dL_follows_348 : decode cL_follows 348 = .ok (.lcmp, 1) := by decide +kernel
theorem dL_follows_349 : decode cL_follows 349 = .ok (.ifCond .ne 74, 3) := by decide +kernel
theorem dL_follows_352 : decode cL_follows 352 = .ok (.aload_n 0, 1) := by decide +kernel
theorem dL_follows_353 : decode cL_follows 353 = .ok (.iconst 5, 1) := by decide +kernel
theorem dL_follows_354 : decode cL_follows 354 = .ok (.invokestatic 107, 3) := by decide +kernel
theorem dL_follows_357 : decode cL_follows 357 = .ok (.lconst 0, 1) := by decide +kernel
theorem dL_follows_358 : decode cL_follows 358 = .ok (.lcmp, 1) := by decide +kernel
theorem dL_follows_359 : decode cL_follows 359 = .ok (.ifCond .ne 64, 3) := by decide +kernel
theorem dL_follows_362 : decode cL_follows 362 = .ok (.aload_n 0, 1) := by decide +kernel
theorem dL_follows_363 : decode cL_follows 363 = .ok (.bipush 6, 2) := by decide +kernel
theorem dL_follows_365 : decode cL_follows 365 = .ok (.invokestatic 107, 3) := by decide +kernel
theorem dL_follows_368 : decode cL_follows 368 = .ok (.lconst 1, 1) := by decide +kernel
theorem dL_follows_369 : decode cL_follows 369 = .ok (.lcmp, 1) := by decide +kernel
theorem dL_follows_370 : decode cL_follows 370 = .ok (.ifCond .eq 31, 3) := by decide +kernel
theorem dL_follows_373 : decode cL_follows 373 = .ok (.aload_n 0, 1) := by decide +kernel
theorem dL_follows_374 : decode cL_follows 374 = .ok (.iconst 5, 1) := by decide +kernel
theorem dL_follows_375 : decode cL_follows 375 = .ok (.invokestatic 107, 3) := by decide +kernel
theorem dL_follows_378 : decode cL_follows 378 = .ok (.lload 17, 2) := by decide +kernel
theorem dL_follows_380 : decode cL_follows 380 = .ok (.lsub, 1) := by decide +kernel
theorem dL_follows_381 : decode cL_follows 381 = .ok (.lload 19, 2) := by decide +kernel
theorem dL_follows_383 : decode cL_follows 383 = .ok (.lcmp, 1) := by decide +kernel
theorem dL_follows_384 : decode cL_follows 384 = .ok (.ifCond .gt 39, 3) := by decide +kernel
theorem dL_follows_387 : decode cL_follows 387 = .ok (.lload 17, 2) := by decide +kernel
theorem dL_follows_389 : decode cL_follows 389 = .ok (.aload_n 0, 1) := by decide +kernel
theorem dL_follows_390 : decode cL_follows 390 = .ok (.iconst 5, 1) := by decide +kernel
theorem dL_follows_391 : decode cL_follows 391 = .ok (.invokestatic 107, 3) := by decide +kernel
theorem dL_follows_394 : decode cL_follows 394 = .ok (.lsub, 1) := by decide +kernel
theorem dL_follows_395 : decode cL_follows 395 = .ok (.lload 19, 2) := by decide +kernel
theorem dL_follows_397 : decode cL_follows 397 = .ok (.lcmp, 1) := by decide +kernel
theorem dL_follows_398 : decode cL_follows 398 = .ok (.ifCond .gt 25, 3) := by decide +kernel
theorem dL_follows_401 : decode cL_follows 401 = .ok (.aload_n 0, 1) := by decide +kernel
theorem dL_follows_402 : decode cL_follows 402 = .ok (.invokestatic 193, 3) := by decide +kernel
theorem dL_follows_405 : decode cL_follows 405 = .ok (.lconst 0, 1) := by decide +kernel
theorem dL_follows_406 : decode cL_follows 406 = .ok (.lcmp, 1) := by decide +kernel
theorem dL_follows_407 : decode cL_follows 407 = .ok (.ifCond .lt 16, 3) := by decide +kernel
theorem dL_follows_410 : decode cL_follows 410 = .ok (.aload_n 0, 1) := by decide +kernel
theorem dL_follows_411 : decode cL_follows 411 = .ok (.invokestatic 123, 3) := by decide +kernel
theorem dL_follows_414 : decode cL_follows 414 = .ok (.lload_n 2, 1) := by decide +kernel
theorem dL_follows_415 : decode cL_follows 415 = .ok (.lcmp, 1) := by decide +kernel
theorem dL_follows_416 : decode cL_follows 416 = .ok (.ifCond .ne 7, 3) := by decide +kernel
theorem dL_follows_419 : decode cL_follows 419 = .ok (.iconst 1, 1) := by decide +kernel
theorem dL_follows_420 : decode cL_follows 420 = .ok (.goto 4, 3) := by decide +kernel
theorem dL_follows_423 : decode cL_follows 423 = .ok (.iconst 0, 1) := by decide +kernel
theorem dL_follows_424 : decode cL_follows 424 = .ok (.istore 23, 2) := by decide +kernel
theorem dL_follows_426 : decode cL_follows 426 = .ok (.iload 4, 2) := by decide +kernel
theorem dL_follows_428 : decode cL_follows 428 = .ok (.ifCond .le 369, 3) := by decide +kernel
theorem dL_follows_431 : decode cL_follows 431 = .ok (.iload 23, 2) := by decide +kernel
theorem dL_follows_433 : decode cL_follows 433 = .ok (.ifCond .eq 364, 3) := by decide +kernel
theorem dL_follows_436 : decode cL_follows 436 = .ok (.iload_n 1, 1) := by decide +kernel
theorem dL_follows_437 : decode cL_follows 437 = .ok (.bipush 7, 2) := by decide +kernel
theorem dL_follows_439 : decode cL_follows 439 = .ok (.idiv, 1) := by decide +kernel
theorem dL_follows_440 : decode cL_follows 440 = .ok (.iload 4, 2) := by decide +kernel
theorem dL_follows_442 : decode cL_follows 442 = .ok (.irem, 1) := by decide +kernel
theorem dL_follows_443 : decode cL_follows 443 = .ok (.istore 26, 2) := by decide +kernel
theorem dL_follows_445 : decode cL_follows 445 = .ok (.aload_n 0, 1) := by decide +kernel
theorem dL_follows_446 : decode cL_follows 446 = .ok (.iload 26, 2) := by decide +kernel
theorem dL_follows_448 : decode cL_follows 448 = .ok (.invokestatic 146, 3) := by decide +kernel
theorem dL_follows_451 : decode cL_follows 451 = .ok (.lstore 27, 2) := by decide +kernel
theorem dL_follows_453 : decode cL_follows 453 = .ok (.lload 27, 2) := by decide +kernel
theorem dL_follows_455 : decode cL_follows 455 = .ok (.ldc2_w 185, 3) := by decide +kernel
theorem dL_follows_458 : decode cL_follows 458 = .ok (.lcmp, 1) := by decide +kernel
theorem dL_follows_459 : decode cL_follows 459 = .ok (.ifCond .eq 83, 3) := by decide +kernel
theorem dL_follows_462 : decode cL_follows 462 = .ok (.lload 27, 2) := by decide +kernel
theorem dL_follows_464 : decode cL_follows 464 = .ok (.lconst 0, 1) := by decide +kernel
theorem dL_follows_465 : decode cL_follows 465 = .ok (.lcmp, 1) := by decide +kernel
theorem dL_follows_466 : decode cL_follows 466 = .ok (.ifCond .le 49, 3) := by decide +kernel
theorem dL_follows_469 : decode cL_follows 469 = .ok (.aload_n 0, 1) := by decide +kernel
theorem dL_follows_470 : decode cL_follows 470 = .ok (.iconst 2, 1) := by decide +kernel
theorem dL_follows_471 : decode cL_follows 471 = .ok (.iload 26, 2) := by decide +kernel
theorem dL_follows_473 : decode cL_follows 473 = .ok (.iadd, 1) := by decide +kernel
theorem dL_follows_474 : decode cL_follows 474 = .ok (.lload 27, 2) := by decide +kernel
theorem dL_follows_476 : decode cL_follows 476 = .ok (.l2i, 1) := by decide +kernel
theorem dL_follows_477 : decode cL_follows 477 = .ok (.iconst 1, 1) := by decide +kernel
theorem dL_follows_478 : decode cL_follows 478 = .ok (.isub, 1) := by decide +kernel
theorem dL_follows_479 : decode cL_follows 479 = .ok (.invokestatic 144, 3) := by decide +kernel
theorem dL_follows_482 : decode cL_follows 482 = .ok (.aload_n 0, 1) := by decide +kernel
theorem dL_follows_483 : decode cL_follows 483 = .ok (.iload 26, 2) := by decide +kernel
theorem dL_follows_485 : decode cL_follows 485 = .ok (.iconst 0, 1) := by decide +kernel
theorem dL_follows_486 : decode cL_follows 486 = .ok (.invokestatic 119, 3) := by decide +kernel
theorem dL_follows_489 : decode cL_follows 489 = .ok (.lcmp, 1) := by decide +kernel
theorem dL_follows_490 : decode cL_follows 490 = .ok (.ifCond .ge 25, 3) := by decide +kernel
theorem dL_follows_493 : decode cL_follows 493 = .ok (.aload_n 0, 1) := by decide +kernel
theorem dL_follows_494 : decode cL_follows 494 = .ok (.iconst 2, 1) := by decide +kernel
theorem dL_follows_495 : decode cL_follows 495 = .ok (.iload 26, 2) := by decide +kernel
theorem dL_follows_497 : decode cL_follows 497 = .ok (.iadd, 1) := by decide +kernel
theorem dL_follows_498 : decode cL_follows 498 = .ok (.lload 27, 2) := by decide +kernel
theorem dL_follows_500 : decode cL_follows 500 = .ok (.l2i, 1) := by decide +kernel
theorem dL_follows_501 : decode cL_follows 501 = .ok (.invokestatic 144, 3) := by decide +kernel
theorem dL_follows_504 : decode cL_follows 504 = .ok (.aload_n 0, 1) := by decide +kernel
theorem dL_follows_505 : decode cL_follows 505 = .ok (.iload 26, 2) := by decide +kernel
theorem dL_follows_507 : decode cL_follows 507 = .ok (.iconst 0, 1) := by decide +kernel
theorem dL_follows_508 : decode cL_follows 508 = .ok (.invokestatic 119, 3) := by decide +kernel
theorem dL_follows_511 : decode cL_follows 511 = .ok (.lcmp, 1) := by decide +kernel
theorem dL_follows_512 : decode cL_follows 512 = .ok (.ifCond .ge 30, 3) := by decide +kernel
theorem dL_follows_515 : decode cL_follows 515 = .ok (.lload 27, 2) := by decide +kernel
theorem dL_follows_517 : decode cL_follows 517 = .ok (.lconst 0, 1) := by decide +kernel
theorem dL_follows_518 : decode cL_follows 518 = .ok (.lcmp, 1) := by decide +kernel
theorem dL_follows_519 : decode cL_follows 519 = .ok (.ifCond .ne 27, 3) := by decide +kernel
theorem dL_follows_522 : decode cL_follows 522 = .ok (.aload_n 0, 1) := by decide +kernel
theorem dL_follows_523 : decode cL_follows 523 = .ok (.iconst 2, 1) := by decide +kernel
theorem dL_follows_524 : decode cL_follows 524 = .ok (.iload 26, 2) := by decide +kernel
theorem dL_follows_526 : decode cL_follows 526 = .ok (.iadd, 1) := by decide +kernel
theorem dL_follows_527 : decode cL_follows 527 = .ok (.iconst 1, 1) := by decide +kernel
theorem dL_follows_528 : decode cL_follows 528 = .ok (.invokestatic 116, 3) := by decide +kernel
theorem dL_follows_531 : decode cL_follows 531 = .ok (.aload_n 0, 1) := by decide +kernel
theorem dL_follows_532 : decode cL_follows 532 = .ok (.iload 26, 2) := by decide +kernel
theorem dL_follows_534 : decode cL_follows 534 = .ok (.iconst 0, 1) := by decide +kernel
theorem dL_follows_535 : decode cL_follows 535 = .ok (.invokestatic 119, 3) := by decide +kernel
theorem dL_follows_538 : decode cL_follows 538 = .ok (.lcmp, 1) := by decide +kernel
theorem dL_follows_539 : decode cL_follows 539 = .ok (.ifCond .lt 7, 3) := by decide +kernel
theorem dL_follows_542 : decode cL_follows 542 = .ok (.iconst 1, 1) := by decide +kernel
theorem dL_follows_543 : decode cL_follows 543 = .ok (.goto 4, 3) := by decide +kernel
theorem dL_follows_546 : decode cL_follows 546 = .ok (.iconst 0, 1) := by decide +kernel
theorem dL_follows_547 : decode cL_follows 547 = .ok (.istore 23, 2) := by decide +kernel
theorem dL_follows_549 : decode cL_follows 549 = .ok (.iconst 1, 1) := by decide +kernel
theorem dL_follows_550 : decode cL_follows 550 = .ok (.iload_n 1, 1) := by decide +kernel
theorem dL_follows_551 : decode cL_follows 551 = .ok (.bipush 30, 2) := by decide +kernel
theorem dL_follows_553 : decode cL_follows 553 = .ok (.irem, 1) := by decide +kernel
theorem dL_follows_554 : decode cL_follows 554 = .ok (.iadd, 1) := by decide +kernel
theorem dL_follows_555 : decode cL_follows 555 = .ok (.istore 29, 2) := by decide +kernel
theorem dL_follows_557 : decode cL_follows 557 = .ok (.aload_n 0, 1) := by decide +kernel
theorem dL_follows_558 : decode cL_follows 558 = .ok (.iload 29, 2) := by decide +kernel
theorem dL_follows_560 : decode cL_follows 560 = .ok (.invokestatic 148, 3) := by decide +kernel
theorem dL_follows_563 : decode cL_follows 563 = .ok (.lstore 30, 2) := by decide +kernel
theorem dL_follows_565 : decode cL_follows 565 = .ok (.iload 23, 2) := by decide +kernel
theorem dL_follows_567 : decode cL_follows 567 = .ok (.ifCond .eq 43, 3) := by decide +kernel
theorem dL_follows_570 : decode cL_follows 570 = .ok (.lload 30, 2) := by decide +kernel
theorem dL_follows_572 : decode cL_follows 572 = .ok (.lconst 0, 1) := by decide +kernel
theorem dL_follows_573 : decode cL_follows 573 = .ok (.ldc2_w 195, 3) := by decide +kernel
theorem dL_follows_576 : decode cL_follows 576 = .ok (.invokestatic 171, 3) := by decide +kernel
theorem dL_follows_579 : decode cL_follows 579 = .ok (.ifCond .eq 31, 3) := by decide +kernel
theorem dL_follows_582 : decode cL_follows 582 = .ok (.aload_n 0, 1) := by decide +kernel
theorem dL_follows_583 : decode cL_follows 583 = .ok (.iconst 4, 1) := by decide +kernel
theorem dL_follows_584 : decode cL_follows 584 = .ok (.lload 30, 2) := by decide +kernel
theorem dL_follows_586 : decode cL_follows 586 = .ok (.l2i, 1) := by decide +kernel
theorem dL_follows_587 : decode cL_follows 587 = .ok (.invokestatic 138, 3) := by decide +kernel
theorem dL_follows_590 : decode cL_follows 590 = .ok (.lconst 0, 1) := by decide +kernel
theorem dL_follows_591 : decode cL_follows 591 = .ok (.lcmp, 1) := by decide +kernel
theorem dL_follows_592 : decode cL_follows 592 = .ok (.ifCond .lt 18, 3) := by decide +kernel
theorem dL_follows_595 : decode cL_follows 595 = .ok (.aload_n 0, 1) := by decide +kernel
theorem dL_follows_596 : decode cL_follows 596 = .ok (.iload 29, 2) := by decide +kernel
theorem dL_follows_598 : decode cL_follows 598 = .ok (.invokestatic 142, 3) := by decide +kernel
theorem dL_follows_601 : decode cL_follows 601 = .ok (.lconst 0, 1) := by decide +kernel
theorem dL_follows_602 : decode cL_follows 602 = .ok (.lcmp, 1) := by decide +kernel
theorem dL_follows_603 : decode cL_follows 603 = .ok (.ifCond .lt 7, 3) := by decide +kernel
theorem dL_follows_606 : decode cL_follows 606 = .ok (.iconst 1, 1) := by decide +kernel
theorem dL_follows_607 : decode cL_follows 607 = .ok (.goto 4, 3) := by decide +kernel
theorem dL_follows_610 : decode cL_follows 610 = .ok (.iconst 0, 1) := by decide +kernel
theorem dL_follows_611 : decode cL_follows 611 = .ok (.istore 23, 2) := by decide +kernel
theorem dL_follows_613 : decode cL_follows 613 = .ok (.aload_n 0, 1) := by decide +kernel
theorem dL_follows_614 : decode cL_follows 614 = .ok (.bipush 12, 2) := by decide +kernel
theorem dL_follows_616 : decode cL_follows 616 = .ok (.invokestatic 107, 3) := by decide +kernel
theorem dL_follows_619 : decode cL_follows 619 = .ok (.lstore 32, 2) := by decide +kernel
theorem dL_follows_621 : decode cL_follows 621 = .ok (.iload 23, 2) := by decide +kernel
theorem dL_follows_623 : decode cL_follows 623 = .ok (.ifCond .eq 92, 3) := by decide +kernel
theorem dL_follows_626 : decode cL_follows 626 = .ok (.aload_n 0, 1) := by decide +kernel
theorem dL_follows_627 : decode cL_follows 627 = .ok (.invokestatic 193, 3) := by decide +kernel
theorem dL_follows_630 : decode cL_follows 630 = .ok (.lconst 0, 1) := by decide +kernel
theorem dL_follows_631 : decode cL_follows 631 = .ok (.lcmp, 1) := by decide +kernel
theorem dL_follows_632 : decode cL_follows 632 = .ok (.ifCond .lt 83, 3) := by decide +kernel
theorem dL_follows_635 : decode cL_follows 635 = .ok (.aload_n 0, 1) := by decide +kernel
theorem dL_follows_636 : decode cL_follows 636 = .ok (.iconst 4, 1) := by decide +kernel
theorem dL_follows_637 : decode cL_follows 637 = .ok (.iload_n 1, 1) := by decide +kernel
theorem dL_follows_638 : decode cL_follows 638 = .ok (.bipush 30, 2) := by decide +kernel
theorem dL_follows_640 : decode cL_follows 640 = .ok (.idiv, 1) := by decide +kernel
theorem dL_follows_641 : decode cL_follows 641 = .ok (.bipush 31, 2) := by decide +kernel
theorem dL_follows_643 : decode cL_follows 643 = .ok (.irem, 1) := by decide +kernel
theorem dL_follows_644 : decode cL_follows 644 = .ok (.invokestatic 138, 3) := by decide +kernel
theorem dL_follows_647 : decode cL_follows 647 = .ok (.lconst 0, 1) := by decide +kernel
theorem dL_follows_648 : decode cL_follows 648 = .ok (.lcmp, 1) := by decide +kernel
theorem dL_follows_649 : decode cL_follows 649 = .ok (.ifCond .lt 66, 3) := by decide +kernel
theorem dL_follows_652 : decode cL_follows 652 = .ok (.aload_n 0, 1) := by decide +kernel
theorem dL_follows_653 : decode cL_follows 653 = .ok (.iload 29, 2) := by decide +kernel
theorem dL_follows_655 : decode cL_follows 655 = .ok (.invokestatic 142, 3) := by decide +kernel
theorem dL_follows_658 : decode cL_follows 658 = .ok (.lconst 0, 1) := by decide +kernel
theorem dL_follows_659 : decode cL_follows 659 = .ok (.lcmp, 1) := by decide +kernel
theorem dL_follows_660 : decode cL_follows 660 = .ok (.ifCond .lt 55, 3) := by decide +kernel
theorem dL_follows_663 : decode cL_follows 663 = .ok (.aload_n 0, 1) := by decide +kernel
theorem dL_follows_664 : decode cL_follows 664 = .ok (.bipush 12, 2) := by decide +kernel
theorem dL_follows_666 : decode cL_follows 666 = .ok (.invokestatic 107, 3) := by decide +kernel
theorem dL_follows_669 : decode cL_follows 669 = .ok (.lload 32, 2) := by decide +kernel
theorem dL_follows_671 : decode cL_follows 671 = .ok (.lcmp, 1) := by decide +kernel
theorem dL_follows_672 : decode cL_follows 672 = .ok (.ifCond .gt 43, 3) := by decide +kernel
theorem dL_follows_675 : decode cL_follows 675 = .ok (.aload_n 0, 1) := by decide +kernel
theorem dL_follows_676 : decode cL_follows 676 = .ok (.invokestatic 193, 3) := by decide +kernel
theorem dL_follows_679 : decode cL_follows 679 = .ok (.lconst 0, 1) := by decide +kernel
theorem dL_follows_680 : decode cL_follows 680 = .ok (.lcmp, 1) := by decide +kernel
theorem dL_follows_681 : decode cL_follows 681 = .ok (.ifCond .lt 34, 3) := by decide +kernel
theorem dL_follows_684 : decode cL_follows 684 = .ok (.aload_n 0, 1) := by decide +kernel
theorem dL_follows_685 : decode cL_follows 685 = .ok (.invokestatic 193, 3) := by decide +kernel
theorem dL_follows_688 : decode cL_follows 688 = .ok (.lconst 0, 1) := by decide +kernel
theorem dL_follows_689 : decode cL_follows 689 = .ok (.lcmp, 1) := by decide +kernel
theorem dL_follows_690 : decode cL_follows 690 = .ok (.ifCond .lt 25, 3) := by decide +kernel
theorem dL_follows_693 : decode cL_follows 693 = .ok (.aload_n 0, 1) := by decide +kernel
theorem dL_follows_694 : decode cL_follows 694 = .ok (.invokestatic 193, 3) := by decide +kernel
theorem dL_follows_697 : decode cL_follows 697 = .ok (.lconst 0, 1) := by decide +kernel
theorem dL_follows_698 : decode cL_follows 698 = .ok (.lcmp, 1) := by decide +kernel
theorem dL_follows_699 : decode cL_follows 699 = .ok (.ifCond .lt 16, 3) := by decide +kernel
theorem dL_follows_702 : decode cL_follows 702 = .ok (.aload_n 0, 1) := by decide +kernel
theorem dL_follows_703 : decode cL_follows 703 = .ok (.invokestatic 123, 3) := by decide +kernel
theorem dL_follows_706 : decode cL_follows 706 = .ok (.lload_n 2, 1) := by decide +kernel
theorem dL_follows_707 : decode cL_follows 707 = .ok (.lcmp, 1) := by decide +kernel
theorem dL_follows_708 : decode cL_follows 708 = .ok (.ifCond .ne 7, 3) := by decide +kernel
theorem dL_follows_711 : decode cL_follows 711 = .ok (.iconst 1, 1) := by decide +kernel
theorem dL_follows_712 : decode cL_follows 712 = .ok (.goto 4, 3) := by decide +kernel
theorem dL_follows_715 : decode cL_follows 715 = .ok (.iconst 0, 1) := by decide +kernel
theorem dL_follows_716 : decode cL_follows 716 = .ok (.istore 23, 2) := by decide +kernel
theorem dL_follows_718 : decode cL_follows 718 = .ok (.aload_n 0, 1) := by decide +kernel
theorem dL_follows_719 : decode cL_follows 719 = .ok (.iload 29, 2) := by decide +kernel
theorem dL_follows_721 : decode cL_follows 721 = .ok (.invokestatic 150, 3) := by decide +kernel
theorem dL_follows_724 : decode cL_follows 724 = .ok (.lstore 34, 2) := by decide +kernel
theorem dL_follows_726 : decode cL_follows 726 = .ok (.iload 23, 2) := by decide +kernel
theorem dL_follows_728 : decode cL_follows 728 = .ok (.ifCond .eq 66, 3) := by decide +kernel
theorem dL_follows_731 : decode cL_follows 731 = .ok (.lload 34, 2) := by decide +kernel
theorem dL_follows_733 : decode cL_follows 733 = .ok (.ldc2_w 185, 3) := by decide +kernel
theorem dL_follows_736 : decode cL_follows 736 = .ok (.lcmp, 1) := by decide +kernel
theorem dL_follows_737 : decode cL_follows 737 = .ok (.ifCond .eq 53, 3) := by decide +kernel
theorem dL_follows_740 : decode cL_follows 740 = .ok (.lload 34, 2) := by decide +kernel
theorem dL_follows_742 : decode cL_follows 742 = .ok (.ldc2_w 197, 3) := by decide +kernel
theorem dL_follows_745 : decode cL_follows 745 = .ok (.lrem, 1) := by decide +kernel
theorem dL_follows_746 : decode cL_follows 746 = .ok (.lconst 0, 1) := by decide +kernel
theorem dL_follows_747 : decode cL_follows 747 = .ok (.lcmp, 1) := by decide +kernel
theorem dL_follows_748 : decode cL_follows 748 = .ok (.ifCond .ne 46, 3) := by decide +kernel
theorem dL_follows_751 : decode cL_follows 751 = .ok (.lload 34, 2) := by decide +kernel
theorem dL_follows_753 : decode cL_follows 753 = .ok (.lconst 0, 1) := by decide +kernel
theorem dL_follows_754 : decode cL_follows 754 = .ok (.ldc2_w 199, 3) := by decide +kernel
theorem dL_follows_757 : decode cL_follows 757 = .ok (.invokestatic 171, 3) := by decide +kernel
theorem dL_follows_760 : decode cL_follows 760 = .ok (.ifCond .eq 34, 3) := by decide +kernel
theorem dL_follows_763 : decode cL_follows 763 = .ok (.aload_n 0, 1) := by decide +kernel
theorem dL_follows_764 : decode cL_follows 764 = .ok (.iload 29, 2) := by decide +kernel
theorem dL_follows_766 : decode cL_follows 766 = .ok (.iconst 1, 1) := by decide +kernel
theorem dL_follows_767 : decode cL_follows 767 = .ok (.iadd, 1) := by decide +kernel
theorem dL_follows_768 : decode cL_follows 768 = .ok (.invokestatic 150, 3) := by decide +kernel
theorem dL_follows_771 : decode cL_follows 771 = .ok (.lload 34, 2) := by decide +kernel
theorem dL_follows_773 : decode cL_follows 773 = .ok (.lcmp, 1) := by decide +kernel
theorem dL_follows_774 : decode cL_follows 774 = .ok (.ifCond .gt 20, 3) := by decide +kernel
theorem dL_follows_777 : decode cL_follows 777 = .ok (.aload_n 0, 1) := by decide +kernel
theorem dL_follows_778 : decode cL_follows 778 = .ok (.iload 29, 2) := by decide +kernel
theorem dL_follows_780 : decode cL_follows 780 = .ok (.iconst 1, 1) := by decide +kernel
theorem dL_follows_781 : decode cL_follows 781 = .ok (.iadd, 1) := by decide +kernel
theorem dL_follows_782 : decode cL_follows 782 = .ok (.invokestatic 150, 3) := by decide +kernel
theorem dL_follows_785 : decode cL_follows 785 = .ok (.lconst 0, 1) := by decide +kernel
theorem dL_follows_786 : decode cL_follows 786 = .ok (.lcmp, 1) := by decide +kernel
theorem dL_follows_787 : decode cL_follows 787 = .ok (.ifCond .lt 7, 3) := by decide +kernel
theorem dL_follows_790 : decode cL_follows 790 = .ok (.iconst 1, 1) := by decide +kernel
theorem dL_follows_791 : decode cL_follows 791 = .ok (.goto 4, 3) := by decide +kernel
theorem dL_follows_794 : decode cL_follows 794 = .ok (.iconst 0, 1) := by decide +kernel
theorem dL_follows_795 : decode cL_follows 795 = .ok (.istore 23, 2) := by decide +kernel
theorem dL_follows_797 : decode cL_follows 797 = .ok (.iload 23, 2) := by decide +kernel
theorem dL_follows_799 : decode cL_follows 799 = .ok (.ifCond .eq 56, 3) := by decide +kernel
theorem dL_follows_802 : decode cL_follows 802 = .ok (.aload_n 0, 1) := by decide +kernel
theorem dL_follows_803 : decode cL_follows 803 = .ok (.iload_n 1, 1) := by decide +kernel
theorem dL_follows_804 : decode cL_follows 804 = .ok (.i2l, 1) := by decide +kernel
theorem dL_follows_805 : decode cL_follows 805 = .ok (.iconst 2, 1) := by decide +kernel
theorem dL_follows_806 : decode cL_follows 806 = .ok (.invokestatic 160, 3) := by decide +kernel
theorem dL_follows_809 : decode cL_follows 809 = .ok (.aload_n 0, 1) := by decide +kernel
theorem dL_follows_810 : decode cL_follows 810 = .ok (.iload_n 1, 1) := by decide +kernel
theorem dL_follows_811 : decode cL_follows 811 = .ok (.i2l, 1) := by decide +kernel
theorem dL_follows_812 : decode cL_follows 812 = .ok (.iconst 2, 1) := by decide +kernel
theorem dL_follows_813 : decode cL_follows 813 = .ok (.invokestatic 160, 3) := by decide +kernel
theorem dL_follows_816 : decode cL_follows 816 = .ok (.lcmp, 1) := by decide +kernel
theorem dL_follows_817 : decode cL_follows 817 = .ok (.ifCond .ne 38, 3) := by decide +kernel
theorem dL_follows_820 : decode cL_follows 820 = .ok (.aload_n 0, 1) := by decide +kernel
theorem dL_follows_821 : decode cL_follows 821 = .ok (.iload_n 1, 1) := by decide +kernel
theorem dL_follows_822 : decode cL_follows 822 = .ok (.i2l, 1) := by decide +kernel
theorem dL_follows_823 : decode cL_follows 823 = .ok (.iconst 1, 1) := by decide +kernel
theorem dL_follows_824 : decode cL_follows 824 = .ok (.invokestatic 160, 3) := by decide +kernel
theorem dL_follows_827 : decode cL_follows 827 = .ok (.ldc2_w 201, 3) := by decide +kernel
theorem dL_follows_830 : decode cL_follows 830 = .ok (.ldiv, 1) := by decide +kernel
theorem dL_follows_831 : decode cL_follows 831 = .ok (.ldc2_w 197, 3) := by decide +kernel
theorem dL_follows_834 : decode cL_follows 834 = .ok (.iload 4, 2) := by decide +kernel
theorem dL_follows_836 : decode cL_follows 836 = .ok (.i2l, 1) := by decide +kernel
theorem dL_follows_837 : decode cL_follows 837 = .ok (.lmul, 1) := by decide +kernel
theorem dL_follows_838 : decode cL_follows 838 = .ok (.lcmp, 1) := by decide +kernel
theorem dL_follows_839 : decode cL_follows 839 = .ok (.ifCond .gt 16, 3) := by decide +kernel
theorem dL_follows_842 : decode cL_follows 842 = .ok (.aload_n 0, 1) := by decide +kernel
theorem dL_follows_843 : decode cL_follows 843 = .ok (.invokestatic 123, 3) := by decide +kernel
theorem dL_follows_846 : decode cL_follows 846 = .ok (.lload_n 2, 1) := by decide +kernel
theorem dL_follows_847 : decode cL_follows 847 = .ok (.lcmp, 1) := by decide +kernel
theorem dL_follows_848 : decode cL_follows 848 = .ok (.ifCond .ne 7, 3) := by decide +kernel
theorem dL_follows_851 : decode cL_follows 851 = .ok (.iconst 1, 1) := by decide +kernel
theorem dL_follows_852 : decode cL_follows 852 = .ok (.goto 4, 3) := by decide +kernel
theorem dL_follows_855 : decode cL_follows 855 = .ok (.iconst 0, 1) := by decide +kernel
theorem dL_follows_856 : decode cL_follows 856 = .ok (.istore 23, 2) := by decide +kernel
theorem dL_follows_858 : decode cL_follows 858 = .ok (.iload 23, 2) := by decide +kernel
theorem dL_follows_860 : decode cL_follows 860 = .ok (.ifCond .eq 38, 3) := by decide +kernel
theorem dL_follows_863 : decode cL_follows 863 = .ok (.aload_n 0, 1) := by decide +kernel
theorem dL_follows_864 : decode cL_follows 864 = .ok (.iconst 1, 1) := by decide +kernel
theorem dL_follows_865 : decode cL_follows 865 = .ok (.invokestatic 165, 3) := by decide +kernel
theorem dL_follows_868 : decode cL_follows 868 = .ok (.lload 7, 2) := by decide +kernel
theorem dL_follows_870 : decode cL_follows 870 = .ok (.lcmp, 1) := by decide +kernel
theorem dL_follows_871 : decode cL_follows 871 = .ok (.ifCond .ne 27, 3) := by decide +kernel
theorem dL_follows_874 : decode cL_follows 874 = .ok (.aload_n 0, 1) := by decide +kernel
theorem dL_follows_875 : decode cL_follows 875 = .ok (.invokestatic 123, 3) := by decide +kernel
theorem dL_follows_878 : decode cL_follows 878 = .ok (.lload_n 2, 1) := by decide +kernel
theorem dL_follows_879 : decode cL_follows 879 = .ok (.lcmp, 1) := by decide +kernel
theorem dL_follows_880 : decode cL_follows 880 = .ok (.ifCond .ne 18, 3) := by decide +kernel
theorem dL_follows_883 : decode cL_follows 883 = .ok (.aload_n 0, 1) := by decide +kernel
theorem dL_follows_884 : decode cL_follows 884 = .ok (.invokestatic 193, 3) := by decide +kernel
theorem dL_follows_887 : decode cL_follows 887 = .ok (.ldc2_w 21, 3) := by decide +kernel
theorem dL_follows_890 : decode cL_follows 890 = .ok (.lcmp, 1) := by decide +kernel
theorem dL_follows_891 : decode cL_follows 891 = .ok (.ifCond .ne 7, 3) := by decide +kernel
theorem dL_follows_894 : decode cL_follows 894 = .ok (.iconst 1, 1) := by decide +kernel
theorem dL_follows_895 : decode cL_follows 895 = .ok (.goto 4, 3) := by decide +kernel
theorem dL_follows_898 : decode cL_follows 898 = .ok (.iconst 0, 1) := by decide +kernel
theorem dL_follows_899 : decode cL_follows 899 = .ok (.ireturn, 1) := by decide +kernel
