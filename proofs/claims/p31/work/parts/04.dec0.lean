theorem dX0_init_0 : decode cX0_init 0 = .ok (.aload_n 0, 1) := by decide +kernel
theorem dX0_init_1 : decode cX0_init 1 = .ok (.invokespecial 3, 3) := by decide +kernel
theorem dX0_init_4 : decode cX0_init 4 = .ok (.aload_n 0, 1) := by decide +kernel
theorem dX0_init_5 : decode cX0_init 5 = .ok (.bipush 14, 2) := by decide +kernel
theorem dX0_init_7 : decode cX0_init 7 = .ok (.anewarray 9, 3) := by decide +kernel
theorem dX0_init_10 : decode cX0_init 10 = .ok (.putfield 11, 3) := by decide +kernel
theorem dX0_init_13 : decode cX0_init 13 = .ok (.iconst 0, 1) := by decide +kernel
theorem dX0_init_14 : decode cX0_init 14 = .ok (.istore_n 1, 1) := by decide +kernel
theorem dX0_init_15 : decode cX0_init 15 = .ok (.iload_n 1, 1) := by decide +kernel
theorem dX0_init_16 : decode cX0_init 16 = .ok (.aload_n 0, 1) := by decide +kernel
theorem dX0_init_17 : decode cX0_init 17 = .ok (.getfield 11, 3) := by decide +kernel
theorem dX0_init_20 : decode cX0_init 20 = .ok (.arraylength, 1) := by decide +kernel
theorem dX0_init_21 : decode cX0_init 21 = .ok (.if_icmp .ge 22, 3) := by decide +kernel
theorem dX0_init_24 : decode cX0_init 24 = .ok (.aload_n 0, 1) := by decide +kernel
theorem dX0_init_25 : decode cX0_init 25 = .ok (.getfield 11, 3) := by decide +kernel
theorem dX0_init_28 : decode cX0_init 28 = .ok (.iload_n 1, 1) := by decide +kernel
theorem dX0_init_29 : decode cX0_init 29 = .ok (.new 9, 3) := by decide +kernel
theorem dX0_init_32 : decode cX0_init 32 = .ok (.dup, 1) := by decide +kernel
theorem dX0_init_33 : decode cX0_init 33 = .ok (.invokespecial 17, 3) := by decide +kernel
theorem dX0_init_36 : decode cX0_init 36 = .ok (.aastore, 1) := by decide +kernel
theorem dX0_init_37 : decode cX0_init 37 = .ok (.iinc 1 1, 3) := by decide +kernel
theorem dX0_init_40 : decode cX0_init 40 = .ok (.goto (-25), 3) := by decide +kernel
theorem dX0_init_43 : decode cX0_init 43 = .ok (.return_, 1) := by decide +kernel
theorem dX0_isEmpty_0 : decode cX0_isEmpty 0 = .ok (.aload_n 0, 1) := by decide +kernel
theorem dX0_isEmpty_1 : decode cX0_isEmpty 1 = .ok (.getfield 18, 3) := by decide +kernel
theorem dX0_isEmpty_4 : decode cX0_isEmpty 4 = .ok (.ifCond .gt 7, 3) := by decide +kernel
theorem dX0_isEmpty_7 : decode cX0_isEmpty 7 = .ok (.iconst 1, 1) := by decide +kernel
theorem dX0_isEmpty_8 : decode cX0_isEmpty 8 = .ok (.goto 4, 3) := by decide +kernel
theorem dX0_isEmpty_11 : decode cX0_isEmpty 11 = .ok (.iconst 0, 1) := by decide +kernel
theorem dX0_isEmpty_12 : decode cX0_isEmpty 12 = .ok (.ireturn, 1) := by decide +kernel
theorem dX0_forgetAll_0 : decode cX0_forgetAll 0 = .ok (.aload_n 0, 1) := by decide +kernel
theorem dX0_forgetAll_1 : decode cX0_forgetAll 1 = .ok (.iconst 0, 1) := by decide +kernel
theorem dX0_forgetAll_2 : decode cX0_forgetAll 2 = .ok (.putfield 18, 3) := by decide +kernel
theorem dX0_forgetAll_5 : decode cX0_forgetAll 5 = .ok (.return_, 1) := by decide +kernel
theorem dX0_remember_0 : decode cX0_remember 0 = .ok (.aload_n 0, 1) := by decide +kernel
theorem dX0_remember_1 : decode cX0_remember 1 = .ok (.getfield 18, 3) := by decide +kernel
theorem dX0_remember_4 : decode cX0_remember 4 = .ok (.bipush 14, 2) := by decide +kernel
theorem dX0_remember_6 : decode cX0_remember 6 = .ok (.if_icmp .lt 7, 3) := by decide +kernel
theorem dX0_remember_9 : decode cX0_remember 9 = .ok (.aload_n 0, 1) := by decide +kernel
theorem dX0_remember_10 : decode cX0_remember 10 = .ok (.invokevirtual 22, 3) := by decide +kernel
theorem dX0_remember_13 : decode cX0_remember 13 = .ok (.aload_n 0, 1) := by decide +kernel
theorem dX0_remember_14 : decode cX0_remember 14 = .ok (.getfield 18, 3) := by decide +kernel
theorem dX0_remember_17 : decode cX0_remember 17 = .ok (.ifCond .lt 35, 3) := by decide +kernel
theorem dX0_remember_20 : decode cX0_remember 20 = .ok (.aload_n 0, 1) := by decide +kernel
theorem dX0_remember_21 : decode cX0_remember 21 = .ok (.getfield 18, 3) := by decide +kernel
theorem dX0_remember_24 : decode cX0_remember 24 = .ok (.bipush 14, 2) := by decide +kernel
theorem dX0_remember_26 : decode cX0_remember 26 = .ok (.if_icmp .ge 26, 3) := by decide +kernel
theorem dX0_remember_29 : decode cX0_remember 29 = .ok (.aload_n 0, 1) := by decide +kernel
theorem dX0_remember_30 : decode cX0_remember 30 = .ok (.getfield 11, 3) := by decide +kernel
theorem dX0_remember_33 : decode cX0_remember 33 = .ok (.aload_n 0, 1) := by decide +kernel
theorem dX0_remember_34 : decode cX0_remember 34 = .ok (.getfield 18, 3) := by decide +kernel
theorem dX0_remember_37 : decode cX0_remember 37 = .ok (.aaload, 1) := by decide +kernel
theorem dX0_remember_38 : decode cX0_remember 38 = .ok (.aload_n 1, 1) := by decide +kernel
theorem dX0_remember_39 : decode cX0_remember 39 = .ok (.invokevirtual 25, 3) := by decide +kernel
theorem dX0_remember_42 : decode cX0_remember 42 = .ok (.aload_n 0, 1) := by decide +kernel
theorem dX0_remember_43 : decode cX0_remember 43 = .ok (.dup, 1) := by decide +kernel
theorem dX0_remember_44 : decode cX0_remember 44 = .ok (.getfield 18, 3) := by decide +kernel
theorem dX0_remember_47 : decode cX0_remember 47 = .ok (.iconst 1, 1) := by decide +kernel
theorem dX0_remember_48 : decode cX0_remember 48 = .ok (.iadd, 1) := by decide +kernel
theorem dX0_remember_49 : decode cX0_remember 49 = .ok (.putfield 18, 3) := by decide +kernel
theorem dX0_remember_52 : decode cX0_remember 52 = .ok (.return_, 1) := by decide +kernel
theorem dX0_forgetOldest_0 : decode cX0_forgetOldest 0 = .ok (.aload_n 0, 1) := by decide +kernel
theorem dX0_forgetOldest_1 : decode cX0_forgetOldest 1 = .ok (.getfield 11, 3) := by decide +kernel
theorem dX0_forgetOldest_4 : decode cX0_forgetOldest 4 = .ok (.iconst 0, 1) := by decide +kernel
theorem dX0_forgetOldest_5 : decode cX0_forgetOldest 5 = .ok (.aaload, 1) := by decide +kernel
theorem dX0_forgetOldest_6 : decode cX0_forgetOldest 6 = .ok (.astore_n 1, 1) := by decide +kernel
theorem dX0_forgetOldest_7 : decode cX0_forgetOldest 7 = .ok (.iconst 1, 1) := by decide +kernel
theorem dX0_forgetOldest_8 : decode cX0_forgetOldest 8 = .ok (.istore_n 2, 1) := by decide +kernel
theorem dX0_forgetOldest_9 : decode cX0_forgetOldest 9 = .ok (.iload_n 2, 1) := by decide +kernel
theorem dX0_forgetOldest_10 : decode cX0_forgetOldest 10 = .ok (.bipush 14, 2) := by decide +kernel
theorem dX0_forgetOldest_12 : decode cX0_forgetOldest 12 = .ok (.if_icmp .ge 23, 3) := by decide +kernel
theorem dX0_forgetOldest_15 : decode cX0_forgetOldest 15 = .ok (.aload_n 0, 1) := by decide +kernel
theorem dX0_forgetOldest_16 : decode cX0_forgetOldest 16 = .ok (.getfield 11, 3) := by decide +kernel
theorem dX0_forgetOldest_19 : decode cX0_forgetOldest 19 = .ok (.iload_n 2, 1) := by decide +kernel
theorem dX0_forgetOldest_20 : decode cX0_forgetOldest 20 = .ok (.iconst 1, 1) := by decide +kernel
theorem dX0_forgetOldest_21 : decode cX0_forgetOldest 21 = .ok (.isub, 1) := by decide +kernel
theorem dX0_forgetOldest_22 : decode cX0_forgetOldest 22 = .ok (.aload_n 0, 1) := by decide +kernel
theorem dX0_forgetOldest_23 : decode cX0_forgetOldest 23 = .ok (.getfield 11, 3) := by decide +kernel
theorem dX0_forgetOldest_26 : decode cX0_forgetOldest 26 = .ok (.iload_n 2, 1) := by decide +kernel
theorem dX0_forgetOldest_27 : decode cX0_forgetOldest 27 = .ok (.aaload, 1) := by decide +kernel
theorem dX0_forgetOldest_28 : decode cX0_forgetOldest 28 = .ok (.aastore, 1) := by decide +kernel
theorem dX0_forgetOldest_29 : decode cX0_forgetOldest 29 = .ok (.iinc 2 1, 3) := by decide +kernel
theorem dX0_forgetOldest_32 : decode cX0_forgetOldest 32 = .ok (.goto (-23), 3) := by decide +kernel
theorem dX0_forgetOldest_35 : decode cX0_forgetOldest 35 = .ok (.aload_n 0, 1) := by decide +kernel
theorem dX0_forgetOldest_36 : decode cX0_forgetOldest 36 = .ok (.getfield 11, 3) := by decide +kernel
theorem dX0_forgetOldest_39 : decode cX0_forgetOldest 39 = .ok (.bipush 13, 2) := by decide +kernel
theorem dX0_forgetOldest_41 : decode cX0_forgetOldest 41 = .ok (.aload_n 1, 1) := by decide +kernel
theorem dX0_forgetOldest_42 : decode cX0_forgetOldest 42 = .ok (.aastore, 1) := by decide +kernel
theorem dX0_forgetOldest_43 : decode cX0_forgetOldest 43 = .ok (.aload_n 0, 1) := by decide +kernel
theorem dX0_forgetOldest_44 : decode cX0_forgetOldest 44 = .ok (.bipush 13, 2) := by decide +kernel
theorem dX0_forgetOldest_46 : decode cX0_forgetOldest 46 = .ok (.putfield 18, 3) := by decide +kernel
theorem dX0_forgetOldest_49 : decode cX0_forgetOldest 49 = .ok (.return_, 1) := by decide +kernel
theorem dX0_takeBackInto_0 : decode cX0_takeBackInto 0 = .ok (.aload_n 0, 1) := by decide +kernel
theorem dX0_takeBackInto_1 : decode cX0_takeBackInto 1 = .ok (.getfield 18, 3) := by decide +kernel
theorem dX0_takeBackInto_4 : decode cX0_takeBackInto 4 = .ok (.iconst 1, 1) := by decide +kernel
theorem dX0_takeBackInto_5 : decode cX0_takeBackInto 5 = .ok (.isub, 1) := by decide +kernel
theorem dX0_takeBackInto_6 : decode cX0_takeBackInto 6 = .ok (.istore_n 2, 1) := by decide +kernel
theorem dX0_takeBackInto_7 : decode cX0_takeBackInto 7 = .ok (.iload_n 2, 1) := by decide +kernel
theorem dX0_takeBackInto_8 : decode cX0_takeBackInto 8 = .ok (.ifCond .lt 24, 3) := by decide +kernel
theorem dX0_takeBackInto_11 : decode cX0_takeBackInto 11 = .ok (.iload_n 2, 1) := by decide +kernel
theorem dX0_takeBackInto_12 : decode cX0_takeBackInto 12 = .ok (.bipush 14, 2) := by decide +kernel
theorem dX0_takeBackInto_14 : decode cX0_takeBackInto 14 = .ok (.if_icmp .ge 18, 3) := by decide +kernel
theorem dX0_takeBackInto_17 : decode cX0_takeBackInto 17 = .ok (.aload_n 1, 1) := by decide +kernel
theorem dX0_takeBackInto_18 : decode cX0_takeBackInto 18 = .ok (.aload_n 0, 1) := by decide +kernel
theorem dX0_takeBackInto_19 : decode cX0_takeBackInto 19 = .ok (.getfield 11, 3) := by decide +kernel
theorem dX0_takeBackInto_22 : decode cX0_takeBackInto 22 = .ok (.iload_n 2, 1) := by decide +kernel
theorem dX0_takeBackInto_23 : decode cX0_takeBackInto 23 = .ok (.aaload, 1) := by decide +kernel
theorem dX0_takeBackInto_24 : decode cX0_takeBackInto 24 = .ok (.invokevirtual 25, 3) := by decide +kernel
theorem dX0_takeBackInto_27 : decode cX0_takeBackInto 27 = .ok (.aload_n 0, 1) := by decide +kernel
theorem dX0_takeBackInto_28 : decode cX0_takeBackInto 28 = .ok (.iload_n 2, 1) := by decide +kernel
theorem dX0_takeBackInto_29 : decode cX0_takeBackInto 29 = .ok (.putfield 18, 3) := by decide +kernel
theorem dX0_takeBackInto_32 : decode cX0_takeBackInto 32 = .ok (.return_, 1) := by decide +kernel
theorem dX1_init_0 : decode cX1_init 0 = .ok (.aload_n 0, 1) := by decide +kernel
theorem dX1_init_1 : decode cX1_init 1 = .ok (.invokespecial 3, 3) := by decide +kernel
theorem dX1_init_4 : decode cX1_init 4 = .ok (.aload_n 0, 1) := by decide +kernel
theorem dX1_init_5 : decode cX1_init 5 = .ok (.bipush 26, 2) := by decide +kernel
theorem dX1_init_7 : decode cX1_init 7 = .ok (.newarray .int, 2) := by decide +kernel
theorem dX1_init_9 : decode cX1_init 9 = .ok (.putfield 9, 3) := by decide +kernel
theorem dX1_init_12 : decode cX1_init 12 = .ok (.aload_n 0, 1) := by decide +kernel
theorem dX1_init_13 : decode cX1_init 13 = .ok (.bipush 26, 2) := by decide +kernel
theorem dX1_init_15 : decode cX1_init 15 = .ok (.newarray .int, 2) := by decide +kernel
theorem dX1_init_17 : decode cX1_init 17 = .ok (.putfield 15, 3) := by decide +kernel
theorem dX1_init_20 : decode cX1_init 20 = .ok (.aload_n 0, 1) := by decide +kernel
theorem dX1_init_21 : decode cX1_init 21 = .ok (.bipush 26, 2) := by decide +kernel
theorem dX1_init_23 : decode cX1_init 23 = .ok (.newarray .int, 2) := by decide +kernel
theorem dX1_init_25 : decode cX1_init 25 = .ok (.putfield 18, 3) := by decide +kernel
theorem dX1_init_28 : decode cX1_init 28 = .ok (.return_, 1) := by decide +kernel
theorem dX1_copyFrom_0 : decode cX1_copyFrom 0 = .ok (.aload_n 1, 1) := by decide +kernel
theorem dX1_copyFrom_1 : decode cX1_copyFrom 1 = .ok (.getfield 9, 3) := by decide +kernel
theorem dX1_copyFrom_4 : decode cX1_copyFrom 4 = .ok (.iconst 0, 1) := by decide +kernel
theorem dX1_copyFrom_5 : decode cX1_copyFrom 5 = .ok (.aload_n 0, 1) := by decide +kernel
theorem dX1_copyFrom_6 : decode cX1_copyFrom 6 = .ok (.getfield 9, 3) := by decide +kernel
theorem dX1_copyFrom_9 : decode cX1_copyFrom 9 = .ok (.iconst 0, 1) := by decide +kernel
theorem dX1_copyFrom_10 : decode cX1_copyFrom 10 = .ok (.bipush 26, 2) := by decide +kernel
theorem dX1_copyFrom_12 : decode cX1_copyFrom 12 = .ok (.invokestatic 21, 3) := by decide +kernel
theorem dX1_copyFrom_15 : decode cX1_copyFrom 15 = .ok (.aload_n 1, 1) := by decide +kernel
theorem dX1_copyFrom_16 : decode cX1_copyFrom 16 = .ok (.getfield 15, 3) := by decide +kernel
theorem dX1_copyFrom_19 : decode cX1_copyFrom 19 = .ok (.iconst 0, 1) := by decide +kernel
theorem dX1_copyFrom_20 : decode cX1_copyFrom 20 = .ok (.aload_n 0, 1) := by decide +kernel
theorem dX1_copyFrom_21 : decode cX1_copyFrom 21 = .ok (.getfield 15, 3) := by decide +kernel
theorem dX1_copyFrom_24 : decode cX1_copyFrom 24 = .ok (.iconst 0, 1) := by decide +kernel
theorem dX1_copyFrom_25 : decode cX1_copyFrom 25 = .ok (.bipush 26, 2) := by decide +kernel
theorem dX1_copyFrom_27 : decode cX1_copyFrom 27 = .ok (.invokestatic 21, 3) := by decide +kernel
theorem dX1_copyFrom_30 : decode cX1_copyFrom 30 = .ok (.aload_n 1, 1) := by decide +kernel
theorem dX1_copyFrom_31 : decode cX1_copyFrom 31 = .ok (.getfield 18, 3) := by decide +kernel
theorem dX1_copyFrom_34 : decode cX1_copyFrom 34 = .ok (.iconst 0, 1) := by decide +kernel
theorem dX1_copyFrom_35 : decode cX1_copyFrom 35 = .ok (.aload_n 0, 1) := by decide +kernel
theorem dX1_copyFrom_36 : decode cX1_copyFrom 36 = .ok (.getfield 18, 3) := by decide +kernel
theorem dX1_copyFrom_39 : decode cX1_copyFrom 39 = .ok (.iconst 0, 1) := by decide +kernel
theorem dX1_copyFrom_40 : decode cX1_copyFrom 40 = .ok (.bipush 26, 2) := by decide +kernel
theorem dX1_copyFrom_42 : decode cX1_copyFrom 42 = .ok (.invokestatic 21, 3) := by decide +kernel
theorem dX1_copyFrom_45 : decode cX1_copyFrom 45 = .ok (.aload_n 0, 1) := by decide +kernel
theorem dX1_copyFrom_46 : decode cX1_copyFrom 46 = .ok (.aload_n 1, 1) := by decide +kernel
theorem dX1_copyFrom_47 : decode cX1_copyFrom 47 = .ok (.getfield 27, 3) := by decide +kernel
theorem dX1_copyFrom_50 : decode cX1_copyFrom 50 = .ok (.putfield 27, 3) := by decide +kernel
theorem dX1_copyFrom_53 : decode cX1_copyFrom 53 = .ok (.return_, 1) := by decide +kernel
theorem dX1_hasWay_0 : decode cX1_hasWay 0 = .ok (.iload_n 1, 1) := by decide +kernel
theorem dX1_hasWay_1 : decode cX1_hasWay 1 = .ok (.ifCond .lt 21, 3) := by decide +kernel
theorem dX1_hasWay_4 : decode cX1_hasWay 4 = .ok (.iload_n 1, 1) := by decide +kernel
theorem dX1_hasWay_5 : decode cX1_hasWay 5 = .ok (.aload_n 0, 1) := by decide +kernel
theorem dX1_hasWay_6 : decode cX1_hasWay 6 = .ok (.getfield 27, 3) := by decide +kernel
theorem dX1_hasWay_9 : decode cX1_hasWay 9 = .ok (.if_icmp .ge 13, 3) := by decide +kernel
theorem dX1_hasWay_12 : decode cX1_hasWay 12 = .ok (.iload_n 1, 1) := by decide +kernel
theorem dX1_hasWay_13 : decode cX1_hasWay 13 = .ok (.bipush 26, 2) := by decide +kernel
theorem dX1_hasWay_15 : decode cX1_hasWay 15 = .ok (.if_icmp .ge 7, 3) := by decide +kernel
theorem dX1_hasWay_18 : decode cX1_hasWay 18 = .ok (.iconst 1, 1) := by decide +kernel
theorem dX1_hasWay_19 : decode cX1_hasWay 19 = .ok (.goto 4, 3) := by decide +kernel
theorem dX1_hasWay_22 : decode cX1_hasWay 22 = .ok (.iconst 0, 1) := by decide +kernel
theorem dX1_hasWay_23 : decode cX1_hasWay 23 = .ok (.ireturn, 1) := by decide +kernel
theorem dX1_note_0 : decode cX1_note 0 = .ok (.iconst 0, 1) := by decide +kernel
theorem dX1_note_1 : decode cX1_note 1 = .ok (.istore 4, 2) := by decide +kernel
theorem dX1_note_3 : decode cX1_note 3 = .ok (.iload 4, 2) := by decide +kernel
theorem dX1_note_5 : decode cX1_note 5 = .ok (.aload_n 0, 1) := by decide +kernel
theorem dX1_note_6 : decode cX1_note 6 = .ok (.getfield 27, 3) := by decide +kernel
theorem dX1_note_9 : decode cX1_note 9 = .ok (.if_icmp .ge 50, 3) := by decide +kernel
theorem dX1_note_12 : decode cX1_note 12 = .ok (.iload 4, 2) := by decide +kernel
theorem dX1_note_14 : decode cX1_note 14 = .ok (.bipush 26, 2) := by decide +kernel
theorem dX1_note_16 : decode cX1_note 16 = .ok (.if_icmp .ge 43, 3) := by decide +kernel
theorem dX1_note_19 : decode cX1_note 19 = .ok (.aload_n 0, 1) := by decide +kernel
theorem dX1_note_20 : decode cX1_note 20 = .ok (.getfield 9, 3) := by decide +kernel
theorem dX1_note_23 : decode cX1_note 23 = .ok (.iload 4, 2) := by decide +kernel
theorem dX1_note_25 : decode cX1_note 25 = .ok (.iaload, 1) := by decide +kernel
theorem dX1_note_26 : decode cX1_note 26 = .ok (.iload_n 1, 1) := by decide +kernel
theorem dX1_note_27 : decode cX1_note 27 = .ok (.if_icmp .ne 26, 3) := by decide +kernel
theorem dX1_note_30 : decode cX1_note 30 = .ok (.aload_n 0, 1) := by decide +kernel
theorem dX1_note_31 : decode cX1_note 31 = .ok (.getfield 15, 3) := by decide +kernel
theorem dX1_note_34 : decode cX1_note 34 = .ok (.iload 4, 2) := by decide +kernel
theorem dX1_note_36 : decode cX1_note 36 = .ok (.iaload, 1) := by decide +kernel
theorem dX1_note_37 : decode cX1_note 37 = .ok (.iload_n 2, 1) := by decide +kernel
theorem dX1_note_38 : decode cX1_note 38 = .ok (.if_icmp .ne 15, 3) := by decide +kernel
theorem dX1_note_41 : decode cX1_note 41 = .ok (.aload_n 0, 1) := by decide +kernel
theorem dX1_note_42 : decode cX1_note 42 = .ok (.getfield 18, 3) := by decide +kernel
theorem dX1_note_45 : decode cX1_note 45 = .ok (.iload 4, 2) := by decide +kernel
theorem dX1_note_47 : decode cX1_note 47 = .ok (.dup2, 1) := by decide +kernel
theorem dX1_note_48 : decode cX1_note 48 = .ok (.iaload, 1) := by decide +kernel
theorem dX1_note_49 : decode cX1_note 49 = .ok (.iload_n 3, 1) := by decide +kernel
theorem dX1_note_50 : decode cX1_note 50 = .ok (.iadd, 1) := by decide +kernel
theorem dX1_note_51 : decode cX1_note 51 = .ok (.iastore, 1) := by decide +kernel
theorem dX1_note_52 : decode cX1_note 52 = .ok (.return_, 1) := by decide +kernel
theorem dX1_note_53 : decode cX1_note 53 = .ok (.iinc 4 1, 3) := by decide +kernel
theorem dX1_note_56 : decode cX1_note 56 = .ok (.goto (-53), 3) := by decide +kernel
theorem dX1_note_59 : decode cX1_note 59 = .ok (.aload_n 0, 1) := by decide +kernel
theorem dX1_note_60 : decode cX1_note 60 = .ok (.getfield 27, 3) := by decide +kernel
theorem dX1_note_63 : decode cX1_note 63 = .ok (.ifCond .lt 52, 3) := by decide +kernel
theorem dX1_note_66 : decode cX1_note 66 = .ok (.aload_n 0, 1) := by decide +kernel
theorem dX1_note_67 : decode cX1_note 67 = .ok (.getfield 27, 3) := by decide +kernel
theorem dX1_note_70 : decode cX1_note 70 = .ok (.bipush 26, 2) := by decide +kernel
theorem dX1_note_72 : decode cX1_note 72 = .ok (.if_icmp .ge 43, 3) := by decide +kernel
theorem dX1_note_75 : decode cX1_note 75 = .ok (.aload_n 0, 1) := by decide +kernel
theorem dX1_note_76 : decode cX1_note 76 = .ok (.getfield 9, 3) := by decide +kernel
theorem dX1_note_79 : decode cX1_note 79 = .ok (.aload_n 0, 1) := by decide +kernel
theorem dX1_note_80 : decode cX1_note 80 = .ok (.getfield 27, 3) := by decide +kernel
theorem dX1_note_83 : decode cX1_note 83 = .ok (.iload_n 1, 1) := by decide +kernel
theorem dX1_note_84 : decode cX1_note 84 = .ok (.iastore, 1) := by decide +kernel
theorem dX1_note_85 : decode cX1_note 85 = .ok (.aload_n 0, 1) := by decide +kernel
theorem dX1_note_86 : decode cX1_note 86 = .ok (.getfield 15, 3) := by decide +kernel
theorem dX1_note_89 : decode cX1_note 89 = .ok (.aload_n 0, 1) := by decide +kernel
theorem dX1_note_90 : decode cX1_note 90 = .ok (.getfield 27, 3) := by decide +kernel
theorem dX1_note_93 : decode cX1_note 93 = .ok (.iload_n 2, 1) := by decide +kernel
theorem dX1_note_94 : decode cX1_note 94 = .ok (.iastore, 1) := by decide +kernel
theorem dX1_note_95 : decode cX1_note 95 = .ok (.aload_n 0, 1) := by decide +kernel
theorem dX1_note_96 : decode cX1_note 96 = .ok (.getfield 18, 3) := by decide +kernel
theorem dX1_note_99 : decode cX1_note 99 = .ok (.aload_n 0, 1) := by decide +kernel
theorem dX1_note_100 : decode cX1_note 100 = .ok (.getfield 27, 3) := by decide +kernel
theorem dX1_note_103 : decode cX1_note 103 = .ok (.iload_n 3, 1) := by decide +kernel
theorem dX1_note_104 : decode cX1_note 104 = .ok (.iastore, 1) := by decide +kernel
theorem dX1_note_105 : decode cX1_note 105 = .ok (.aload_n 0, 1) := by decide +kernel
theorem dX1_note_106 : decode cX1_note 106 = .ok (.dup, 1) := by decide +kernel
theorem dX1_note_107 : decode cX1_note 107 = .ok (.getfield 27, 3) := by decide +kernel
theorem dX1_note_110 : decode cX1_note 110 = .ok (.iconst 1, 1) := by decide +kernel
theorem dX1_note_111 : decode cX1_note 111 = .ok (.iadd, 1) := by decide +kernel
theorem dX1_note_112 : decode cX1_note 112 = .ok (.putfield 27, 3) := by decide +kernel
theorem dX1_note_115 : decode cX1_note 115 = .ok (.return_, 1) := by decide +kernel
theorem dX1_sumBetween_0 : decode cX1_sumBetween 0 = .ok (.iconst 0, 1) := by decide +kernel
theorem dX1_sumBetween_1 : decode cX1_sumBetween 1 = .ok (.istore_n 3, 1) := by decide +kernel
theorem dX1_sumBetween_2 : decode cX1_sumBetween 2 = .ok (.iload_n 3, 1) := by decide +kernel
theorem dX1_sumBetween_3 : decode cX1_sumBetween 3 = .ok (.aload_n 0, 1) := by decide +kernel
theorem dX1_sumBetween_4 : decode cX1_sumBetween 4 = .ok (.getfield 27, 3) := by decide +kernel
theorem dX1_sumBetween_7 : decode cX1_sumBetween 7 = .ok (.if_icmp .ge 42, 3) := by decide +kernel
theorem dX1_sumBetween_10 : decode cX1_sumBetween 10 = .ok (.iload_n 3, 1) := by decide +kernel
theorem dX1_sumBetween_11 : decode cX1_sumBetween 11 = .ok (.bipush 26, 2) := by decide +kernel
theorem dX1_sumBetween_13 : decode cX1_sumBetween 13 = .ok (.if_icmp .ge 36, 3) := by decide +kernel
theorem dX1_sumBetween_16 : decode cX1_sumBetween 16 = .ok (.aload_n 0, 1) := by decide +kernel
theorem dX1_sumBetween_17 : decode cX1_sumBetween 17 = .ok (.getfield 9, 3) := by decide +kernel
theorem dX1_sumBetween_20 : decode cX1_sumBetween 20 = .ok (.iload_n 3, 1) := by decide +kernel
theorem dX1_sumBetween_21 : decode cX1_sumBetween 21 = .ok (.iaload, 1) := by decide +kernel
theorem dX1_sumBetween_22 : decode cX1_sumBetween 22 = .ok (.iload_n 1, 1) := by decide +kernel
theorem dX1_sumBetween_23 : decode cX1_sumBetween 23 = .ok (.if_icmp .ne 20, 3) := by decide +kernel
theorem dX1_sumBetween_26 : decode cX1_sumBetween 26 = .ok (.aload_n 0, 1) := by decide +kernel
theorem dX1_sumBetween_27 : decode cX1_sumBetween 27 = .ok (.getfield 15, 3) := by decide +kernel
theorem dX1_sumBetween_30 : decode cX1_sumBetween 30 = .ok (.iload_n 3, 1) := by decide +kernel
theorem dX1_sumBetween_31 : decode cX1_sumBetween 31 = .ok (.iaload, 1) := by decide +kernel
theorem dX1_sumBetween_32 : decode cX1_sumBetween 32 = .ok (.iload_n 2, 1) := by decide +kernel
theorem dX1_sumBetween_33 : decode cX1_sumBetween 33 = .ok (.if_icmp .ne 10, 3) := by decide +kernel
theorem dX1_sumBetween_36 : decode cX1_sumBetween 36 = .ok (.aload_n 0, 1) := by decide +kernel
theorem dX1_sumBetween_37 : decode cX1_sumBetween 37 = .ok (.getfield 18, 3) := by decide +kernel
theorem dX1_sumBetween_40 : decode cX1_sumBetween 40 = .ok (.iload_n 3, 1) := by decide +kernel
theorem dX1_sumBetween_41 : decode cX1_sumBetween 41 = .ok (.iaload, 1) := by decide +kernel
theorem dX1_sumBetween_42 : decode cX1_sumBetween 42 = .ok (.ireturn, 1) := by decide +kernel
theorem dX1_sumBetween_43 : decode cX1_sumBetween 43 = .ok (.iinc 3 1, 3) := by decide +kernel
theorem dX1_sumBetween_46 : decode cX1_sumBetween 46 = .ok (.goto (-44), 3) := by decide +kernel
theorem dX1_sumBetween_49 : decode cX1_sumBetween 49 = .ok (.iconst 0, 1) := by decide +kernel
theorem dX1_sumBetween_50 : decode cX1_sumBetween 50 = .ok (.ireturn, 1) := by decide +kernel
theorem dX2_init_0 : decode cX2_init 0 = .ok (.aload_n 0, 1) := by decide +kernel
theorem dX2_init_1 : decode cX2_init 1 = .ok (.invokespecial 1, 3) := by decide +kernel
theorem dX2_init_4 : decode cX2_init 4 = .ok (.return_, 1) := by decide +kernel
theorem dX2_copyFrom_0 : decode cX2_copyFrom 0 = .ok (.aload_n 0, 1) := by decide +kernel
theorem dX2_copyFrom_1 : decode cX2_copyFrom 1 = .ok (.aload_n 1, 1) := by decide +kernel
theorem dX2_copyFrom_2 : decode cX2_copyFrom 2 = .ok (.getfield 7, 3) := by decide +kernel
theorem dX2_copyFrom_5 : decode cX2_copyFrom 5 = .ok (.putfield 7, 3) := by decide +kernel
theorem dX2_copyFrom_8 : decode cX2_copyFrom 8 = .ok (.aload_n 0, 1) := by decide +kernel
theorem dX2_copyFrom_9 : decode cX2_copyFrom 9 = .ok (.aload_n 1, 1) := by decide +kernel
theorem dX2_copyFrom_10 : decode cX2_copyFrom 10 = .ok (.getfield 13, 3) := by decide +kernel
theorem dX2_copyFrom_13 : decode cX2_copyFrom 13 = .ok (.putfield 13, 3) := by decide +kernel
theorem dX2_copyFrom_16 : decode cX2_copyFrom 16 = .ok (.aload_n 0, 1) := by decide +kernel
theorem dX2_copyFrom_17 : decode cX2_copyFrom 17 = .ok (.aload_n 1, 1) := by decide +kernel
theorem dX2_copyFrom_18 : decode cX2_copyFrom 18 = .ok (.getfield 16, 3) := by decide +kernel
theorem dX2_copyFrom_21 : decode cX2_copyFrom 21 = .ok (.putfield 16, 3) := by decide +kernel
theorem dX2_copyFrom_24 : decode cX2_copyFrom 24 = .ok (.aload_n 0, 1) := by decide +kernel
theorem dX2_copyFrom_25 : decode cX2_copyFrom 25 = .ok (.aload_n 1, 1) := by decide +kernel
theorem dX2_copyFrom_26 : decode cX2_copyFrom 26 = .ok (.getfield 19, 3) := by decide +kernel
theorem dX2_copyFrom_29 : decode cX2_copyFrom 29 = .ok (.putfield 19, 3) := by decide +kernel
theorem dX2_copyFrom_32 : decode cX2_copyFrom 32 = .ok (.aload_n 0, 1) := by decide +kernel
theorem dX2_copyFrom_33 : decode cX2_copyFrom 33 = .ok (.aload_n 1, 1) := by decide +kernel
theorem dX2_copyFrom_34 : decode cX2_copyFrom 34 = .ok (.getfield 23, 3) := by decide +kernel
theorem dX2_copyFrom_37 : decode cX2_copyFrom 37 = .ok (.putfield 23, 3) := by decide +kernel
theorem dX2_copyFrom_40 : decode cX2_copyFrom 40 = .ok (.aload_n 0, 1) := by decide +kernel
theorem dX2_copyFrom_41 : decode cX2_copyFrom 41 = .ok (.aload_n 1, 1) := by decide +kernel
theorem dX2_copyFrom_42 : decode cX2_copyFrom 42 = .ok (.getfield 26, 3) := by decide +kernel
theorem dX2_copyFrom_45 : decode cX2_copyFrom 45 = .ok (.putfield 26, 3) := by decide +kernel
theorem dX2_copyFrom_48 : decode cX2_copyFrom 48 = .ok (.aload_n 0, 1) := by decide +kernel
theorem dX2_copyFrom_49 : decode cX2_copyFrom 49 = .ok (.aload_n 1, 1) := by decide +kernel
theorem dX2_copyFrom_50 : decode cX2_copyFrom 50 = .ok (.getfield 29, 3) := by decide +kernel
theorem dX2_copyFrom_53 : decode cX2_copyFrom 53 = .ok (.putfield 29, 3) := by decide +kernel
theorem dX2_copyFrom_56 : decode cX2_copyFrom 56 = .ok (.return_, 1) := by decide +kernel
theorem dX2_begin_0 : decode cX2_begin 0 = .ok (.aload_n 0, 1) := by decide +kernel
theorem dX2_begin_1 : decode cX2_begin 1 = .ok (.iload_n 1, 1) := by decide +kernel
theorem dX2_begin_2 : decode cX2_begin 2 = .ok (.putfield 7, 3) := by decide +kernel
theorem dX2_begin_5 : decode cX2_begin 5 = .ok (.aload_n 0, 1) := by decide +kernel
theorem dX2_begin_6 : decode cX2_begin 6 = .ok (.iload_n 2, 1) := by decide +kernel
theorem dX2_begin_7 : decode cX2_begin 7 = .ok (.putfield 13, 3) := by decide +kernel
theorem dX2_begin_10 : decode cX2_begin 10 = .ok (.aload_n 0, 1) := by decide +kernel
theorem dX2_begin_11 : decode cX2_begin 11 = .ok (.iload_n 3, 1) := by decide +kernel
theorem dX2_begin_12 : decode cX2_begin 12 = .ok (.putfield 16, 3) := by decide +kernel
theorem dX2_begin_15 : decode cX2_begin 15 = .ok (.aload_n 0, 1) := by decide +kernel
theorem dX2_begin_16 : decode cX2_begin 16 = .ok (.iconst 0, 1) := by decide +kernel
theorem dX2_begin_17 : decode cX2_begin 17 = .ok (.putfield 19, 3) := by decide +kernel
theorem dX2_begin_20 : decode cX2_begin 20 = .ok (.aload_n 0, 1) := by decide +kernel
theorem dX2_begin_21 : decode cX2_begin 21 = .ok (.iconst 0, 1) := by decide +kernel
theorem dX2_begin_22 : decode cX2_begin 22 = .ok (.putfield 23, 3) := by decide +kernel
theorem dX2_begin_25 : decode cX2_begin 25 = .ok (.aload_n 0, 1) := by decide +kernel
theorem dX2_begin_26 : decode cX2_begin 26 = .ok (.iconst 0, 1) := by decide +kernel
theorem dX2_begin_27 : decode cX2_begin 27 = .ok (.putfield 26, 3) := by decide +kernel
theorem dX2_begin_30 : decode cX2_begin 30 = .ok (.aload_n 0, 1) := by decide +kernel
theorem dX2_begin_31 : decode cX2_begin 31 = .ok (.iconst 0, 1) := by decide +kernel
theorem dX2_begin_32 : decode cX2_begin 32 = .ok (.putfield 29, 3) := by decide +kernel
theorem dX2_begin_35 : decode cX2_begin 35 = .ok (.return_, 1) := by decide +kernel
theorem dX2_change_0 : decode cX2_change 0 = .ok (.iload_n 1, 1) := by decide +kernel
theorem dX2_change_1 : decode cX2_change 1 = .ok (.ifCond .ne 16, 3) := by decide +kernel
theorem dX2_change_4 : decode cX2_change 4 = .ok (.aload_n 0, 1) := by decide +kernel
theorem dX2_change_5 : decode cX2_change 5 = .ok (.getfield 7, 3) := by decide +kernel
theorem dX2_change_8 : decode cX2_change 8 = .ok (.istore_n 3, 1) := by decide +kernel
theorem dX2_change_9 : decode cX2_change 9 = .ok (.aload_n 0, 1) := by decide +kernel
theorem dX2_change_10 : decode cX2_change 10 = .ok (.iload_n 2, 1) := by decide +kernel
theorem dX2_change_11 : decode cX2_change 11 = .ok (.putfield 7, 3) := by decide +kernel
theorem dX2_change_14 : decode cX2_change 14 = .ok (.goto 31, 3) := by decide +kernel
theorem dX2_change_17 : decode cX2_change 17 = .ok (.iload_n 1, 1) := by decide +kernel
theorem dX2_change_18 : decode cX2_change 18 = .ok (.iconst 1, 1) := by decide +kernel
theorem dX2_change_19 : decode cX2_change 19 = .ok (.if_icmp .ne 16, 3) := by decide +kernel
theorem dX2_change_22 : decode cX2_change 22 = .ok (.aload_n 0, 1) := by decide +kernel
theorem dX2_change_23 : decode cX2_change 23 = .ok (.getfield 13, 3) := by decide +kernel
theorem dX2_change_26 : decode cX2_change 26 = .ok (.istore_n 3, 1) := by decide +kernel
theorem dX2_change_27 : decode cX2_change 27 = .ok (.aload_n 0, 1) := by decide +kernel
theorem dX2_change_28 : decode cX2_change 28 = .ok (.iload_n 2, 1) := by decide +kernel
theorem dX2_change_29 : decode cX2_change 29 = .ok (.putfield 13, 3) := by decide +kernel
theorem dX2_change_32 : decode cX2_change 32 = .ok (.goto 13, 3) := by decide +kernel
theorem dX2_change_35 : decode cX2_change 35 = .ok (.aload_n 0, 1) := by decide +kernel
theorem dX2_change_36 : decode cX2_change 36 = .ok (.getfield 16, 3) := by decide +kernel
theorem dX2_change_39 : decode cX2_change 39 = .ok (.istore_n 3, 1) := by decide +kernel
theorem dX2_change_40 : decode cX2_change 40 = .ok (.aload_n 0, 1) := by decide +kernel
theorem dX2_change_41 : decode cX2_change 41 = .ok (.iload_n 2, 1) := by decide +kernel
theorem dX2_change_42 : decode cX2_change 42 = .ok (.putfield 16, 3) := by decide +kernel
theorem dX2_change_45 : decode cX2_change 45 = .ok (.iload_n 3, 1) := by decide +kernel
theorem dX2_change_46 : decode cX2_change 46 = .ok (.ireturn, 1) := by decide +kernel
theorem dX2_judge_0 : decode cX2_judge 0 = .ok (.iload_n 1, 1) := by decide +kernel
theorem dX2_judge_1 : decode cX2_judge 1 = .ok (.aload_n 0, 1) := by decide +kernel
theorem dX2_judge_2 : decode cX2_judge 2 = .ok (.getfield 7, 3) := by decide +kernel
theorem dX2_judge_5 : decode cX2_judge 5 = .ok (.iconst 1, 1) := by decide +kernel
theorem dX2_judge_6 : decode cX2_judge 6 = .ok (.isub, 1) := by decide +kernel
theorem dX2_judge_7 : decode cX2_judge 7 = .ok (.if_icmp .ge 16, 3) := by decide +kernel
theorem dX2_judge_10 : decode cX2_judge 10 = .ok (.aload_n 0, 1) := by decide +kernel
theorem dX2_judge_11 : decode cX2_judge 11 = .ok (.dup, 1) := by decide +kernel
theorem dX2_judge_12 : decode cX2_judge 12 = .ok (.getfield 26, 3) := by decide +kernel
theorem dX2_judge_15 : decode cX2_judge 15 = .ok (.iconst 1, 1) := by decide +kernel
theorem dX2_judge_16 : decode cX2_judge 16 = .ok (.iadd, 1) := by decide +kernel
theorem dX2_judge_17 : decode cX2_judge 17 = .ok (.putfield 26, 3) := by decide +kernel
theorem dX2_judge_20 : decode cX2_judge 20 = .ok (.goto 36, 3) := by decide +kernel
theorem dX2_judge_23 : decode cX2_judge 23 = .ok (.iload_n 1, 1) := by decide +kernel
theorem dX2_judge_24 : decode cX2_judge 24 = .ok (.aload_n 0, 1) := by decide +kernel
theorem dX2_judge_25 : decode cX2_judge 25 = .ok (.getfield 7, 3) := by decide +kernel
theorem dX2_judge_28 : decode cX2_judge 28 = .ok (.iconst 2, 1) := by decide +kernel
theorem dX2_judge_29 : decode cX2_judge 29 = .ok (.iadd, 1) := by decide +kernel
theorem dX2_judge_30 : decode cX2_judge 30 = .ok (.if_icmp .le 16, 3) := by decide +kernel
theorem dX2_judge_33 : decode cX2_judge 33 = .ok (.aload_n 0, 1) := by decide +kernel
theorem dX2_judge_34 : decode cX2_judge 34 = .ok (.dup, 1) := by decide +kernel
theorem dX2_judge_35 : decode cX2_judge 35 = .ok (.getfield 29, 3) := by decide +kernel
theorem dX2_judge_38 : decode cX2_judge 38 = .ok (.iconst 1, 1) := by decide +kernel
theorem dX2_judge_39 : decode cX2_judge 39 = .ok (.iadd, 1) := by decide +kernel
theorem dX2_judge_40 : decode cX2_judge 40 = .ok (.putfield 29, 3) := by decide +kernel
theorem dX2_judge_43 : decode cX2_judge 43 = .ok (.goto 13, 3) := by decide +kernel
theorem dX2_judge_46 : decode cX2_judge 46 = .ok (.aload_n 0, 1) := by decide +kernel
theorem dX2_judge_47 : decode cX2_judge 47 = .ok (.dup, 1) := by decide +kernel
theorem dX2_judge_48 : decode cX2_judge 48 = .ok (.getfield 23, 3) := by decide +kernel
theorem dX2_judge_51 : decode cX2_judge 51 = .ok (.iconst 1, 1) := by decide +kernel
theorem dX2_judge_52 : decode cX2_judge 52 = .ok (.iadd, 1) := by decide +kernel
theorem dX2_judge_53 : decode cX2_judge 53 = .ok (.putfield 23, 3) := by decide +kernel
theorem dX2_judge_56 : decode cX2_judge 56 = .ok (.return_, 1) := by decide +kernel
theorem dX3_init_0 : decode cX3_init 0 = .ok (.aload_n 0, 1) := by decide +kernel
theorem dX3_init_1 : decode cX3_init 1 = .ok (.invokespecial 3, 3) := by decide +kernel
theorem dX3_init_4 : decode cX3_init 4 = .ok (.aload_n 0, 1) := by decide +kernel
theorem dX3_init_5 : decode cX3_init 5 = .ok (.bipush 9, 2) := by decide +kernel
theorem dX3_init_7 : decode cX3_init 7 = .ok (.newarray .int, 2) := by decide +kernel
theorem dX3_init_9 : decode cX3_init 9 = .ok (.putfield 9, 3) := by decide +kernel
theorem dX3_init_12 : decode cX3_init 12 = .ok (.aload_n 0, 1) := by decide +kernel
theorem dX3_init_13 : decode cX3_init 13 = .ok (.bipush 8, 2) := by decide +kernel
theorem dX3_init_15 : decode cX3_init 15 = .ok (.newarray .int, 2) := by decide +kernel
theorem dX3_init_17 : decode cX3_init 17 = .ok (.putfield 15, 3) := by decide +kernel
theorem dX3_init_20 : decode cX3_init 20 = .ok (.aload_n 0, 1) := by decide +kernel
theorem dX3_init_21 : decode cX3_init 21 = .ok (.bipush 8, 2) := by decide +kernel
theorem dX3_init_23 : decode cX3_init 23 = .ok (.newarray .int, 2) := by decide +kernel
theorem dX3_init_25 : decode cX3_init 25 = .ok (.putfield 18, 3) := by decide +kernel
theorem dX3_init_28 : decode cX3_init 28 = .ok (.aload_n 0, 1) := by decide +kernel
theorem dX3_init_29 : decode cX3_init 29 = .ok (.bipush 6, 2) := by decide +kernel
theorem dX3_init_31 : decode cX3_init 31 = .ok (.anewarray 21, 3) := by decide +kernel
theorem dX3_init_34 : decode cX3_init 34 = .ok (.putfield 23, 3) := by decide +kernel
theorem dX3_init_37 : decode cX3_init 37 = .ok (.aload_n 0, 1) := by decide +kernel
theorem dX3_init_38 : decode cX3_init 38 = .ok (.new 27, 3) := by decide +kernel
theorem dX3_init_41 : decode cX3_init 41 = .ok (.dup, 1) := by decide +kernel
theorem dX3_init_42 : decode cX3_init 42 = .ok (.invokespecial 29, 3) := by decide +kernel
theorem dX3_init_45 : decode cX3_init 45 = .ok (.putfield 30, 3) := by decide +kernel
theorem dX3_init_48 : decode cX3_init 48 = .ok (.iconst 0, 1) := by decide +kernel
theorem dX3_init_49 : decode cX3_init 49 = .ok (.istore_n 1, 1) := by decide +kernel
theorem dX3_init_50 : decode cX3_init 50 = .ok (.iload_n 1, 1) := by decide +kernel
theorem dX3_init_51 : decode cX3_init 51 = .ok (.aload_n 0, 1) := by decide +kernel
theorem dX3_init_52 : decode cX3_init 52 = .ok (.getfield 23, 3) := by decide +kernel
theorem dX3_init_55 : decode cX3_init 55 = .ok (.arraylength, 1) := by decide +kernel
theorem dX3_init_56 : decode cX3_init 56 = .ok (.if_icmp .ge 22, 3) := by decide +kernel
theorem dX3_init_59 : decode cX3_init 59 = .ok (.aload_n 0, 1) := by decide +kernel
theorem dX3_init_60 : decode cX3_init 60 = .ok (.getfield 23, 3) := by decide +kernel
theorem dX3_init_63 : decode cX3_init 63 = .ok (.iload_n 1, 1) := by decide +kernel
theorem dX3_init_64 : decode cX3_init 64 = .ok (.new 21, 3) := by decide +kernel
theorem dX3_init_67 : decode cX3_init 67 = .ok (.dup, 1) := by decide +kernel
theorem dX3_init_68 : decode cX3_init 68 = .ok (.invokespecial 34, 3) := by decide +kernel
theorem dX3_init_71 : decode cX3_init 71 = .ok (.aastore, 1) := by decide +kernel
theorem dX3_init_72 : decode cX3_init 72 = .ok (.iinc 1 1, 3) := by decide +kernel
theorem dX3_init_75 : decode cX3_init 75 = .ok (.goto (-25), 3) := by decide +kernel
theorem dX3_init_78 : decode cX3_init 78 = .ok (.aload_n 0, 1) := by decide +kernel
theorem dX3_init_79 : decode cX3_init 79 = .ok (.invokevirtual 35, 3) := by decide +kernel
theorem dX3_init_82 : decode cX3_init 82 = .ok (.return_, 1) := by decide +kernel
theorem dX3_beginAnew_0 : decode cX3_beginAnew 0 = .ok (.aload_n 0, 1) := by decide +kernel
theorem dX3_beginAnew_1 : decode cX3_beginAnew 1 = .ok (.iconst 0, 1) := by decide +kernel
theorem dX3_beginAnew_2 : decode cX3_beginAnew 2 = .ok (.putfield 38, 3) := by decide +kernel
theorem dX3_beginAnew_5 : decode cX3_beginAnew 5 = .ok (.aload_n 0, 1) := by decide +kernel
theorem dX3_beginAnew_6 : decode cX3_beginAnew 6 = .ok (.iconst 5, 1) := by decide +kernel
theorem dX3_beginAnew_7 : decode cX3_beginAnew 7 = .ok (.putfield 42, 3) := by decide +kernel
theorem dX3_beginAnew_10 : decode cX3_beginAnew 10 = .ok (.aload_n 0, 1) := by decide +kernel
theorem dX3_beginAnew_11 : decode cX3_beginAnew 11 = .ok (.iconst 0, 1) := by decide +kernel
theorem dX3_beginAnew_12 : decode cX3_beginAnew 12 = .ok (.putfield 45, 3) := by decide +kernel
theorem dX3_beginAnew_15 : decode cX3_beginAnew 15 = .ok (.aload_n 0, 1) := by decide +kernel
theorem dX3_beginAnew_16 : decode cX3_beginAnew 16 = .ok (.iconst 0, 1) := by decide +kernel
theorem dX3_beginAnew_17 : decode cX3_beginAnew 17 = .ok (.putfield 49, 3) := by decide +kernel
theorem dX3_beginAnew_20 : decode cX3_beginAnew 20 = .ok (.aload_n 0, 1) := by decide +kernel
theorem dX3_beginAnew_21 : decode cX3_beginAnew 21 = .ok (.iconst 0, 1) := by decide +kernel
theorem dX3_beginAnew_22 : decode cX3_beginAnew 22 = .ok (.putfield 52, 3) := by decide +kernel
theorem dX3_beginAnew_25 : decode cX3_beginAnew 25 = .ok (.aload_n 0, 1) := by decide +kernel
theorem dX3_beginAnew_26 : decode cX3_beginAnew 26 = .ok (.iconst 0, 1) := by decide +kernel
theorem dX3_beginAnew_27 : decode cX3_beginAnew 27 = .ok (.putfield 55, 3) := by decide +kernel
theorem dX3_beginAnew_30 : decode cX3_beginAnew 30 = .ok (.aload_n 0, 1) := by decide +kernel
theorem dX3_beginAnew_31 : decode cX3_beginAnew 31 = .ok (.iconst 0, 1) := by decide +kernel
theorem dX3_beginAnew_32 : decode cX3_beginAnew 32 = .ok (.putfield 58, 3) := by decide +kernel
theorem dX3_beginAnew_35 : decode cX3_beginAnew 35 = .ok (.aload_n 0, 1) := by decide +kernel
theorem dX3_beginAnew_36 : decode cX3_beginAnew 36 = .ok (.iconst 0, 1) := by decide +kernel
theorem dX3_beginAnew_37 : decode cX3_beginAnew 37 = .ok (.putfield 61, 3) := by decide +kernel
theorem dX3_beginAnew_40 : decode cX3_beginAnew 40 = .ok (.aload_n 0, 1) := by decide +kernel
theorem dX3_beginAnew_41 : decode cX3_beginAnew 41 = .ok (.iconst 0, 1) := by decide +kernel
theorem dX3_beginAnew_42 : decode cX3_beginAnew 42 = .ok (.putfield 64, 3) := by decide +kernel
theorem dX3_beginAnew_45 : decode cX3_beginAnew 45 = .ok (.aload_n 0, 1) := by decide +kernel
theorem dX3_beginAnew_46 : decode cX3_beginAnew 46 = .ok (.getfield 30, 3) := by decide +kernel
theorem dX3_beginAnew_49 : decode cX3_beginAnew 49 = .ok (.iconst 0, 1) := by decide +kernel
theorem dX3_beginAnew_50 : decode cX3_beginAnew 50 = .ok (.putfield 67, 3) := by decide +kernel
theorem dX3_beginAnew_53 : decode cX3_beginAnew 53 = .ok (.getstatic 70, 3) := by decide +kernel
theorem dX3_beginAnew_56 : decode cX3_beginAnew 56 = .ok (.iconst 0, 1) := by decide +kernel
theorem dX3_beginAnew_57 : decode cX3_beginAnew 57 = .ok (.aload_n 0, 1) := by decide +kernel
theorem dX3_beginAnew_58 : decode cX3_beginAnew 58 = .ok (.getfield 9, 3) := by decide +kernel
theorem dX3_beginAnew_61 : decode cX3_beginAnew 61 = .ok (.iconst 0, 1) := by decide +kernel
theorem dX3_beginAnew_62 : decode cX3_beginAnew 62 = .ok (.bipush 9, 2) := by decide +kernel
theorem dX3_beginAnew_64 : decode cX3_beginAnew 64 = .ok (.invokestatic 73, 3) := by decide +kernel
theorem dX3_beginAnew_67 : decode cX3_beginAnew 67 = .ok (.aload_n 0, 1) := by decide +kernel
theorem dX3_beginAnew_68 : decode cX3_beginAnew 68 = .ok (.getfield 18, 3) := by decide +kernel
theorem dX3_beginAnew_71 : decode cX3_beginAnew 71 = .ok (.iconst 0, 1) := by decide +kernel
theorem dX3_beginAnew_72 : decode cX3_beginAnew 72 = .ok (.bipush 40, 2) := by decide +kernel
theorem dX3_beginAnew_74 : decode cX3_beginAnew 74 = .ok (.iastore, 1) := by decide +kernel
theorem dX3_beginAnew_75 : decode cX3_beginAnew 75 = .ok (.aload_n 0, 1) := by decide +kernel
theorem dX3_beginAnew_76 : decode cX3_beginAnew 76 = .ok (.getfield 15, 3) := by decide +kernel
theorem dX3_beginAnew_79 : decode cX3_beginAnew 79 = .ok (.iconst 0, 1) := by decide +kernel
theorem dX3_beginAnew_80 : decode cX3_beginAnew 80 = .ok (.sipush 800, 3) := by decide +kernel
theorem dX3_beginAnew_83 : decode cX3_beginAnew 83 = .ok (.iastore, 1) := by decide +kernel
theorem dX3_beginAnew_84 : decode cX3_beginAnew 84 = .ok (.aload_n 0, 1) := by decide +kernel
theorem dX3_beginAnew_85 : decode cX3_beginAnew 85 = .ok (.getfield 18, 3) := by decide +kernel
theorem dX3_beginAnew_88 : decode cX3_beginAnew 88 = .ok (.iconst 1, 1) := by decide +kernel
theorem dX3_beginAnew_89 : decode cX3_beginAnew 89 = .ok (.bipush 60, 2) := by decide +kernel
theorem dX3_beginAnew_91 : decode cX3_beginAnew 91 = .ok (.iastore, 1) := by decide +kernel
theorem dX3_beginAnew_92 : decode cX3_beginAnew 92 = .ok (.aload_n 0, 1) := by decide +kernel
theorem dX3_beginAnew_93 : decode cX3_beginAnew 93 = .ok (.getfield 15, 3) := by decide +kernel
theorem dX3_beginAnew_96 : decode cX3_beginAnew 96 = .ok (.iconst 1, 1) := by decide +kernel
theorem dX3_beginAnew_97 : decode cX3_beginAnew 97 = .ok (.sipush 1200, 3) := by decide +kernel
theorem dX3_beginAnew_100 : decode cX3_beginAnew 100 = .ok (.iastore, 1) := by decide +kernel
theorem dX3_beginAnew_101 : decode cX3_beginAnew 101 = .ok (.return_, 1) := by decide +kernel
theorem dX3_copyFrom_0 : decode cX3_copyFrom 0 = .ok (.aload_n 0, 1) := by decide +kernel
theorem dX3_copyFrom_1 : decode cX3_copyFrom 1 = .ok (.aload_n 1, 1) := by decide +kernel
theorem dX3_copyFrom_2 : decode cX3_copyFrom 2 = .ok (.getfield 38, 3) := by decide +kernel
theorem dX3_copyFrom_5 : decode cX3_copyFrom 5 = .ok (.putfield 38, 3) := by decide +kernel
theorem dX3_copyFrom_8 : decode cX3_copyFrom 8 = .ok (.aload_n 0, 1) := by decide +kernel
theorem dX3_copyFrom_9 : decode cX3_copyFrom 9 = .ok (.aload_n 1, 1) := by decide +kernel
theorem dX3_copyFrom_10 : decode cX3_copyFrom 10 = .ok (.getfield 42, 3) := by decide +kernel
theorem dX3_copyFrom_13 : decode cX3_copyFrom 13 = .ok (.putfield 42, 3) := by decide +kernel
theorem dX3_copyFrom_16 : decode cX3_copyFrom 16 = .ok (.aload_n 0, 1) := by decide +kernel
theorem dX3_copyFrom_17 : decode cX3_copyFrom 17 = .ok (.aload_n 1, 1) := by decide +kernel
theorem dX3_copyFrom_18 : decode cX3_copyFrom 18 = .ok (.getfield 45, 3) := by decide +kernel
theorem dX3_copyFrom_21 : decode cX3_copyFrom 21 = .ok (.putfield 45, 3) := by decide +kernel
theorem dX3_copyFrom_24 : decode cX3_copyFrom 24 = .ok (.aload_n 0, 1) := by decide +kernel
theorem dX3_copyFrom_25 : decode cX3_copyFrom 25 = .ok (.aload_n 1, 1) := by decide +kernel
theorem dX3_copyFrom_26 : decode cX3_copyFrom 26 = .ok (.getfield 49, 3) := by decide +kernel
theorem dX3_copyFrom_29 : decode cX3_copyFrom 29 = .ok (.putfield 49, 3) := by decide +kernel
theorem dX3_copyFrom_32 : decode cX3_copyFrom 32 = .ok (.aload_n 0, 1) := by decide +kernel
theorem dX3_copyFrom_33 : decode cX3_copyFrom 33 = .ok (.aload_n 1, 1) := by decide +kernel
theorem dX3_copyFrom_34 : decode cX3_copyFrom 34 = .ok (.getfield 52, 3) := by decide +kernel
theorem dX3_copyFrom_37 : decode cX3_copyFrom 37 = .ok (.putfield 52, 3) := by decide +kernel
theorem dX3_copyFrom_40 : decode cX3_copyFrom 40 = .ok (.aload_n 0, 1) := by decide +kernel
theorem dX3_copyFrom_41 : decode cX3_copyFrom 41 = .ok (.aload_n 1, 1) := by decide +kernel
theorem dX3_copyFrom_42 : decode cX3_copyFrom 42 = .ok (.getfield 55, 3) := by decide +kernel
theorem dX3_copyFrom_45 : decode cX3_copyFrom 45 = .ok (.putfield 55, 3) := by decide +kernel
theorem dX3_copyFrom_48 : decode cX3_copyFrom 48 = .ok (.aload_n 0, 1) := by decide +kernel
theorem dX3_copyFrom_49 : decode cX3_copyFrom 49 = .ok (.aload_n 1, 1) := by decide +kernel
theorem dX3_copyFrom_50 : decode cX3_copyFrom 50 = .ok (.getfield 58, 3) := by decide +kernel
theorem dX3_copyFrom_53 : decode cX3_copyFrom 53 = .ok (.putfield 58, 3) := by decide +kernel
theorem dX3_copyFrom_56 : decode cX3_copyFrom 56 = .ok (.aload_n 0, 1) := by decide +kernel
theorem dX3_copyFrom_57 : decode cX3_copyFrom 57 = .ok (.aload_n 1, 1) := by decide +kernel
theorem dX3_copyFrom_58 : decode cX3_copyFrom 58 = .ok (.getfield 61, 3) := by decide +kernel
theorem dX3_copyFrom_61 : decode cX3_copyFrom 61 = .ok (.putfield 61, 3) := by decide +kernel
theorem dX3_copyFrom_64 : decode cX3_copyFrom 64 = .ok (.aload_n 0, 1) := by decide +kernel
theorem dX3_copyFrom_65 : decode cX3_copyFrom 65 = .ok (.aload_n 1, 1) := by decide +kernel
theorem dX3_copyFrom_66 : decode cX3_copyFrom 66 = .ok (.getfield 64, 3) := by decide +kernel
theorem dX3_copyFrom_69 : decode cX3_copyFrom 69 = .ok (.putfield 64, 3) := by decide +kernel
theorem dX3_copyFrom_72 : decode cX3_copyFrom 72 = .ok (.aload_n 0, 1) := by decide +kernel
theorem dX3_copyFrom_73 : decode cX3_copyFrom 73 = .ok (.getfield 30, 3) := by decide +kernel
theorem dX3_copyFrom_76 : decode cX3_copyFrom 76 = .ok (.aload_n 1, 1) := by decide +kernel
theorem dX3_copyFrom_77 : decode cX3_copyFrom 77 = .ok (.getfield 30, 3) := by decide +kernel
theorem dX3_copyFrom_80 : decode cX3_copyFrom 80 = .ok (.invokevirtual 79, 3) := by decide +kernel
theorem dX3_copyFrom_83 : decode cX3_copyFrom 83 = .ok (.aload_n 1, 1) := by decide +kernel
theorem dX3_copyFrom_84 : decode cX3_copyFrom 84 = .ok (.getfield 9, 3) := by decide +kernel
theorem dX3_copyFrom_87 : decode cX3_copyFrom 87 = .ok (.iconst 0, 1) := by decide +kernel
theorem dX3_copyFrom_88 : decode cX3_copyFrom 88 = .ok (.aload_n 0, 1) := by decide +kernel
theorem dX3_copyFrom_89 : decode cX3_copyFrom 89 = .ok (.getfield 9, 3) := by decide +kernel
theorem dX3_copyFrom_92 : decode cX3_copyFrom 92 = .ok (.iconst 0, 1) := by decide +kernel
theorem dX3_copyFrom_93 : decode cX3_copyFrom 93 = .ok (.bipush 9, 2) := by decide +kernel
theorem dX3_copyFrom_95 : decode cX3_copyFrom 95 = .ok (.invokestatic 73, 3) := by decide +kernel
theorem dX3_copyFrom_98 : decode cX3_copyFrom 98 = .ok (.aload_n 1, 1) := by decide +kernel
theorem dX3_copyFrom_99 : decode cX3_copyFrom 99 = .ok (.getfield 15, 3) := by decide +kernel
theorem dX3_copyFrom_102 : decode cX3_copyFrom 102 = .ok (.iconst 0, 1) := by decide +kernel
theorem dX3_copyFrom_103 : decode cX3_copyFrom 103 = .ok (.aload_n 0, 1) := by decide +kernel
theorem dX3_copyFrom_104 : decode cX3_copyFrom 104 = .ok (.getfield 15, 3) := by decide +kernel
theorem dX3_copyFrom_107 : decode cX3_copyFrom 107 = .ok (.iconst 0, 1) := by decide +kernel
theorem dX3_copyFrom_108 : decode cX3_copyFrom 108 = .ok (.bipush 8, 2) := by decide +kernel
theorem dX3_copyFrom_110 : decode cX3_copyFrom 110 = .ok (.invokestatic 73, 3) := by decide +kernel
theorem dX3_copyFrom_113 : decode cX3_copyFrom 113 = .ok (.aload_n 1, 1) := by decide +kernel
theorem dX3_copyFrom_114 : decode cX3_copyFrom 114 = .ok (.getfield 18, 3) := by decide +kernel
theorem dX3_copyFrom_117 : decode cX3_copyFrom 117 = .ok (.iconst 0, 1) := by decide +kernel
theorem dX3_copyFrom_118 : decode cX3_copyFrom 118 = .ok (.aload_n 0, 1) := by decide +kernel
theorem dX3_copyFrom_119 : decode cX3_copyFrom 119 = .ok (.getfield 18, 3) := by decide +kernel
theorem dX3_copyFrom_122 : decode cX3_copyFrom 122 = .ok (.iconst 0, 1) := by decide +kernel
theorem dX3_copyFrom_123 : decode cX3_copyFrom 123 = .ok (.bipush 8, 2) := by decide +kernel
theorem dX3_copyFrom_125 : decode cX3_copyFrom 125 = .ok (.invokestatic 73, 3) := by decide +kernel
theorem dX3_copyFrom_128 : decode cX3_copyFrom 128 = .ok (.iconst 0, 1) := by decide +kernel
theorem dX3_copyFrom_129 : decode cX3_copyFrom 129 = .ok (.istore_n 2, 1) := by decide +kernel
theorem dX3_copyFrom_130 : decode cX3_copyFrom 130 = .ok (.iload_n 2, 1) := by decide +kernel
theorem dX3_copyFrom_131 : decode cX3_copyFrom 131 = .ok (.aload_n 0, 1) := by decide +kernel
theorem dX3_copyFrom_132 : decode cX3_copyFrom 132 = .ok (.getfield 64, 3) := by decide +kernel
theorem dX3_copyFrom_135 : decode cX3_copyFrom 135 = .ok (.if_icmp .ge 30, 3) := by decide +kernel
theorem dX3_copyFrom_138 : decode cX3_copyFrom 138 = .ok (.iload_n 2, 1) := by decide +kernel
theorem dX3_copyFrom_139 : decode cX3_copyFrom 139 = .ok (.bipush 6, 2) := by decide +kernel
theorem dX3_copyFrom_141 : decode cX3_copyFrom 141 = .ok (.if_icmp .ge 24, 3) := by decide +kernel
theorem dX3_copyFrom_144 : decode cX3_copyFrom 144 = .ok (.aload_n 0, 1) := by decide +kernel
theorem dX3_copyFrom_145 : decode cX3_copyFrom 145 = .ok (.getfield 23, 3) := by decide +kernel
theorem dX3_copyFrom_148 : decode cX3_copyFrom 148 = .ok (.iload_n 2, 1) := by decide +kernel
theorem dX3_copyFrom_149 : decode cX3_copyFrom 149 = .ok (.aaload, 1) := by decide +kernel
theorem dX3_copyFrom_150 : decode cX3_copyFrom 150 = .ok (.aload_n 1, 1) := by decide +kernel
theorem dX3_copyFrom_151 : decode cX3_copyFrom 151 = .ok (.getfield 23, 3) := by decide +kernel
theorem dX3_copyFrom_154 : decode cX3_copyFrom 154 = .ok (.iload_n 2, 1) := by decide +kernel
theorem dX3_copyFrom_155 : decode cX3_copyFrom 155 = .ok (.aaload, 1) := by decide +kernel
theorem dX3_copyFrom_156 : decode cX3_copyFrom 156 = .ok (.invokevirtual 83, 3) := by decide +kernel
theorem dX3_copyFrom_159 : decode cX3_copyFrom 159 = .ok (.iinc 2 1, 3) := by decide +kernel
theorem dX3_copyFrom_162 : decode cX3_copyFrom 162 = .ok (.goto (-32), 3) := by decide +kernel
theorem dX3_copyFrom_165 : decode cX3_copyFrom 165 = .ok (.return_, 1) := by decide +kernel
theorem dX3_hasRoom_0 : decode cX3_hasRoom 0 = .ok (.iload_n 1, 1) := by decide +kernel
theorem dX3_hasRoom_1 : decode cX3_hasRoom 1 = .ok (.ifCond .lt 21, 3) := by decide +kernel
theorem dX3_hasRoom_4 : decode cX3_hasRoom 4 = .ok (.iload_n 1, 1) := by decide +kernel
theorem dX3_hasRoom_5 : decode cX3_hasRoom 5 = .ok (.aload_n 0, 1) := by decide +kernel
theorem dX3_hasRoom_6 : decode cX3_hasRoom 6 = .ok (.getfield 64, 3) := by decide +kernel
theorem dX3_hasRoom_9 : decode cX3_hasRoom 9 = .ok (.if_icmp .ge 13, 3) := by decide +kernel
theorem dX3_hasRoom_12 : decode cX3_hasRoom 12 = .ok (.iload_n 1, 1) := by decide +kernel
theorem dX3_hasRoom_13 : decode cX3_hasRoom 13 = .ok (.bipush 6, 2) := by decide +kernel
theorem dX3_hasRoom_15 : decode cX3_hasRoom 15 = .ok (.if_icmp .ge 7, 3) := by decide +kernel
theorem dX3_hasRoom_18 : decode cX3_hasRoom 18 = .ok (.iconst 1, 1) := by decide +kernel
theorem dX3_hasRoom_19 : decode cX3_hasRoom 19 = .ok (.goto 4, 3) := by decide +kernel
theorem dX3_hasRoom_22 : decode cX3_hasRoom 22 = .ok (.iconst 0, 1) := by decide +kernel
theorem dX3_hasRoom_23 : decode cX3_hasRoom 23 = .ok (.ireturn, 1) := by decide +kernel
theorem dX3_hasPlace_0 : decode cX3_hasPlace 0 = .ok (.iload_n 1, 1) := by decide +kernel
theorem dX3_hasPlace_1 : decode cX3_hasPlace 1 = .ok (.ifCond .eq 18, 3) := by decide +kernel
theorem dX3_hasPlace_4 : decode cX3_hasPlace 4 = .ok (.iload_n 1, 1) := by decide +kernel
theorem dX3_hasPlace_5 : decode cX3_hasPlace 5 = .ok (.iconst 1, 1) := by decide +kernel
theorem dX3_hasPlace_6 : decode cX3_hasPlace 6 = .ok (.if_icmp .eq 13, 3) := by decide +kernel
theorem dX3_hasPlace_9 : decode cX3_hasPlace 9 = .ok (.aload_n 0, 1) := by decide +kernel
theorem dX3_hasPlace_10 : decode cX3_hasPlace 10 = .ok (.iload_n 1, 1) := by decide +kernel
theorem dX3_hasPlace_11 : decode cX3_hasPlace 11 = .ok (.iconst 2, 1) := by decide +kernel
theorem dX3_hasPlace_12 : decode cX3_hasPlace 12 = .ok (.isub, 1) := by decide +kernel
theorem dX3_hasPlace_13 : decode cX3_hasPlace 13 = .ok (.invokevirtual 86, 3) := by decide +kernel
theorem dX3_hasPlace_16 : decode cX3_hasPlace 16 = .ok (.ifCond .eq 7, 3) := by decide +kernel
theorem dX3_hasPlace_19 : decode cX3_hasPlace 19 = .ok (.iconst 1, 1) := by decide +kernel
theorem dX3_hasPlace_20 : decode cX3_hasPlace 20 = .ok (.goto 4, 3) := by decide +kernel
theorem dX3_hasPlace_23 : decode cX3_hasPlace 23 = .ok (.iconst 0, 1) := by decide +kernel
theorem dX3_hasPlace_24 : decode cX3_hasPlace 24 = .ok (.ireturn, 1) := by decide +kernel
theorem dX3_isFull_0 : decode cX3_isFull 0 = .ok (.aload_n 0, 1) := by decide +kernel
theorem dX3_isFull_1 : decode cX3_isFull 1 = .ok (.getfield 64, 3) := by decide +kernel
theorem dX3_isFull_4 : decode cX3_isFull 4 = .ok (.bipush 6, 2) := by decide +kernel
theorem dX3_isFull_6 : decode cX3_isFull 6 = .ok (.if_icmp .lt 7, 3) := by decide +kernel
theorem dX3_isFull_9 : decode cX3_isFull 9 = .ok (.iconst 1, 1) := by decide +kernel
theorem dX3_isFull_10 : decode cX3_isFull 10 = .ok (.goto 4, 3) := by decide +kernel
theorem dX3_isFull_13 : decode cX3_isFull 13 = .ok (.iconst 0, 1) := by decide +kernel
theorem dX3_isFull_14 : decode cX3_isFull 14 = .ok (.ireturn, 1) := by decide +kernel
theorem dX3_settingOf_0 : decode cX3_settingOf 0 = .ok (.iload_n 1, 1) := by decide +kernel
theorem dX3_settingOf_1 : decode cX3_settingOf 1 = .ok (.ifCond .lt 18, 3) := by decide +kernel
theorem dX3_settingOf_4 : decode cX3_settingOf 4 = .ok (.iload_n 1, 1) := by decide +kernel
theorem dX3_settingOf_5 : decode cX3_settingOf 5 = .ok (.bipush 9, 2) := by decide +kernel
theorem dX3_settingOf_7 : decode cX3_settingOf 7 = .ok (.if_icmp .ge 12, 3) := by decide +kernel
theorem dX3_settingOf_10 : decode cX3_settingOf 10 = .ok (.aload_n 0, 1) := by decide +kernel
theorem dX3_settingOf_11 : decode cX3_settingOf 11 = .ok (.getfield 9, 3) := by decide +kernel
theorem dX3_settingOf_14 : decode cX3_settingOf 14 = .ok (.iload_n 1, 1) := by decide +kernel
theorem dX3_settingOf_15 : decode cX3_settingOf 15 = .ok (.iaload, 1) := by decide +kernel
theorem dX3_settingOf_16 : decode cX3_settingOf 16 = .ok (.goto 4, 3) := by decide +kernel
theorem dX3_settingOf_19 : decode cX3_settingOf 19 = .ok (.iconst 0, 1) := by decide +kernel
theorem dX3_settingOf_20 : decode cX3_settingOf 20 = .ok (.ireturn, 1) := by decide +kernel
theorem dX3_changeSetting_0 : decode cX3_changeSetting 0 = .ok (.iload_n 1, 1) := by decide +kernel
theorem dX3_changeSetting_1 : decode cX3_changeSetting 1 = .ok (.ifCond .lt 16, 3) := by decide +kernel
theorem dX3_changeSetting_4 : decode cX3_changeSetting 4 = .ok (.iload_n 1, 1) := by decide +kernel
theorem dX3_changeSetting_5 : decode cX3_changeSetting 5 = .ok (.bipush 9, 2) := by decide +kernel
theorem dX3_changeSetting_7 : decode cX3_changeSetting 7 = .ok (.if_icmp .ge 10, 3) := by decide +kernel
theorem dX3_changeSetting_10 : decode cX3_changeSetting 10 = .ok (.aload_n 0, 1) := by decide +kernel
theorem dX3_changeSetting_11 : decode cX3_changeSetting 11 = .ok (.getfield 9, 3) := by decide +kernel
theorem dX3_changeSetting_14 : decode cX3_changeSetting 14 = .ok (.iload_n 1, 1) := by decide +kernel
theorem dX3_changeSetting_15 : decode cX3_changeSetting 15 = .ok (.iload_n 2, 1) := by decide +kernel
theorem dX3_changeSetting_16 : decode cX3_changeSetting 16 = .ok (.iastore, 1) := by decide +kernel
theorem dX3_changeSetting_17 : decode cX3_changeSetting 17 = .ok (.return_, 1) := by decide +kernel
theorem dX3_turnWindow_0 : decode cX3_turnWindow 0 = .ok (.aload_n 0, 1) := by decide +kernel
theorem dX3_turnWindow_1 : decode cX3_turnWindow 1 = .ok (.iload_n 1, 1) := by decide +kernel
theorem dX3_turnWindow_2 : decode cX3_turnWindow 2 = .ok (.invokevirtual 86, 3) := by decide +kernel
theorem dX3_turnWindow_5 : decode cX3_turnWindow 5 = .ok (.ifCond .eq 13, 3) := by decide +kernel
theorem dX3_turnWindow_8 : decode cX3_turnWindow 8 = .ok (.aload_n 0, 1) := by decide +kernel
theorem dX3_turnWindow_9 : decode cX3_turnWindow 9 = .ok (.getfield 23, 3) := by decide +kernel
theorem dX3_turnWindow_12 : decode cX3_turnWindow 12 = .ok (.iload_n 1, 1) := by decide +kernel
theorem dX3_turnWindow_13 : decode cX3_turnWindow 13 = .ok (.aaload, 1) := by decide +kernel
theorem dX3_turnWindow_14 : decode cX3_turnWindow 14 = .ok (.iload_n 2, 1) := by decide +kernel
theorem dX3_turnWindow_15 : decode cX3_turnWindow 15 = .ok (.putfield 90, 3) := by decide +kernel
theorem dX3_turnWindow_18 : decode cX3_turnWindow 18 = .ok (.return_, 1) := by decide +kernel
theorem dX3_buildRoom_0 : decode cX3_buildRoom 0 = .ok (.aload_n 0, 1) := by decide +kernel
theorem dX3_buildRoom_1 : decode cX3_buildRoom 1 = .ok (.getfield 64, 3) := by decide +kernel
theorem dX3_buildRoom_4 : decode cX3_buildRoom 4 = .ok (.istore 5, 2) := by decide +kernel
theorem dX3_buildRoom_6 : decode cX3_buildRoom 6 = .ok (.iconst 2, 1) := by decide +kernel
theorem dX3_buildRoom_7 : decode cX3_buildRoom 7 = .ok (.iload 5, 2) := by decide +kernel
theorem dX3_buildRoom_9 : decode cX3_buildRoom 9 = .ok (.iadd, 1) := by decide +kernel
theorem dX3_buildRoom_10 : decode cX3_buildRoom 10 = .ok (.istore 6, 2) := by decide +kernel
theorem dX3_buildRoom_12 : decode cX3_buildRoom 12 = .ok (.iload 5, 2) := by decide +kernel
theorem dX3_buildRoom_14 : decode cX3_buildRoom 14 = .ok (.ifCond .lt 10, 3) := by decide +kernel
theorem dX3_buildRoom_17 : decode cX3_buildRoom 17 = .ok (.iload 5, 2) := by decide +kernel
theorem dX3_buildRoom_19 : decode cX3_buildRoom 19 = .ok (.bipush 6, 2) := by decide +kernel
theorem dX3_buildRoom_21 : decode cX3_buildRoom 21 = .ok (.if_icmp .lt 4, 3) := by decide +kernel
theorem dX3_buildRoom_24 : decode cX3_buildRoom 24 = .ok (.return_, 1) := by decide +kernel
theorem dX3_buildRoom_25 : decode cX3_buildRoom 25 = .ok (.aload_n 0, 1) := by decide +kernel
theorem dX3_buildRoom_26 : decode cX3_buildRoom 26 = .ok (.getfield 23, 3) := by decide +kernel
theorem dX3_buildRoom_29 : decode cX3_buildRoom 29 = .ok (.iload 5, 2) := by decide +kernel
theorem dX3_buildRoom_31 : decode cX3_buildRoom 31 = .ok (.aaload, 1) := by decide +kernel
theorem dX3_buildRoom_32 : decode cX3_buildRoom 32 = .ok (.iload_n 2, 1) := by decide +kernel
theorem dX3_buildRoom_33 : decode cX3_buildRoom 33 = .ok (.iload_n 3, 1) := by decide +kernel
theorem dX3_buildRoom_34 : decode cX3_buildRoom 34 = .ok (.iload 4, 2) := by decide +kernel
theorem dX3_buildRoom_36 : decode cX3_buildRoom 36 = .ok (.invokevirtual 93, 3) := by decide +kernel
theorem dX3_buildRoom_39 : decode cX3_buildRoom 39 = .ok (.aload_n 0, 1) := by decide +kernel
theorem dX3_buildRoom_40 : decode cX3_buildRoom 40 = .ok (.getfield 18, 3) := by decide +kernel
theorem dX3_buildRoom_43 : decode cX3_buildRoom 43 = .ok (.iload 6, 2) := by decide +kernel
theorem dX3_buildRoom_45 : decode cX3_buildRoom 45 = .ok (.bipush 10, 2) := by decide +kernel
theorem dX3_buildRoom_47 : decode cX3_buildRoom 47 = .ok (.iload_n 1, 1) := by decide +kernel
theorem dX3_buildRoom_48 : decode cX3_buildRoom 48 = .ok (.imul, 1) := by decide +kernel
theorem dX3_buildRoom_49 : decode cX3_buildRoom 49 = .ok (.iastore, 1) := by decide +kernel
theorem dX3_buildRoom_50 : decode cX3_buildRoom 50 = .ok (.aload_n 0, 1) := by decide +kernel
theorem dX3_buildRoom_51 : decode cX3_buildRoom 51 = .ok (.getfield 15, 3) := by decide +kernel
theorem dX3_buildRoom_54 : decode cX3_buildRoom 54 = .ok (.iload 6, 2) := by decide +kernel
theorem dX3_buildRoom_56 : decode cX3_buildRoom 56 = .ok (.iconst 0, 1) := by decide +kernel
theorem dX3_buildRoom_57 : decode cX3_buildRoom 57 = .ok (.iastore, 1) := by decide +kernel
theorem dX3_buildRoom_58 : decode cX3_buildRoom 58 = .ok (.aload_n 0, 1) := by decide +kernel
theorem dX3_buildRoom_59 : decode cX3_buildRoom 59 = .ok (.dup, 1) := by decide +kernel
theorem dX3_buildRoom_60 : decode cX3_buildRoom 60 = .ok (.getfield 64, 3) := by decide +kernel
theorem dX3_buildRoom_63 : decode cX3_buildRoom 63 = .ok (.iconst 1, 1) := by decide +kernel
theorem dX3_buildRoom_64 : decode cX3_buildRoom 64 = .ok (.iadd, 1) := by decide +kernel
theorem dX3_buildRoom_65 : decode cX3_buildRoom 65 = .ok (.putfield 64, 3) := by decide +kernel
theorem dX3_buildRoom_68 : decode cX3_buildRoom 68 = .ok (.aload_n 0, 1) := by decide +kernel
theorem dX3_buildRoom_69 : decode cX3_buildRoom 69 = .ok (.bipush 9, 2) := by decide +kernel
theorem dX3_buildRoom_71 : decode cX3_buildRoom 71 = .ok (.iload 6, 2) := by decide +kernel
theorem dX3_buildRoom_73 : decode cX3_buildRoom 73 = .ok (.bipush 15, 2) := by decide +kernel
theorem dX3_buildRoom_75 : decode cX3_buildRoom 75 = .ok (.aload_n 0, 1) := by decide +kernel
theorem dX3_buildRoom_76 : decode cX3_buildRoom 76 = .ok (.getfield 18, 3) := by decide +kernel
theorem dX3_buildRoom_79 : decode cX3_buildRoom 79 = .ok (.iload 6, 2) := by decide +kernel
theorem dX3_buildRoom_81 : decode cX3_buildRoom 81 = .ok (.iaload, 1) := by decide +kernel
theorem dX3_buildRoom_82 : decode cX3_buildRoom 82 = .ok (.imul, 1) := by decide +kernel
theorem dX3_buildRoom_83 : decode cX3_buildRoom 83 = .ok (.invokevirtual 97, 3) := by decide +kernel
theorem dX3_buildRoom_86 : decode cX3_buildRoom 86 = .ok (.return_, 1) := by decide +kernel
theorem dX3_heatOf_0 : decode cX3_heatOf 0 = .ok (.iload_n 1, 1) := by decide +kernel
theorem dX3_heatOf_1 : decode cX3_heatOf 1 = .ok (.ifCond .lt 18, 3) := by decide +kernel
theorem dX3_heatOf_4 : decode cX3_heatOf 4 = .ok (.iload_n 1, 1) := by decide +kernel
theorem dX3_heatOf_5 : decode cX3_heatOf 5 = .ok (.bipush 8, 2) := by decide +kernel
theorem dX3_heatOf_7 : decode cX3_heatOf 7 = .ok (.if_icmp .ge 12, 3) := by decide +kernel
theorem dX3_heatOf_10 : decode cX3_heatOf 10 = .ok (.aload_n 0, 1) := by decide +kernel
theorem dX3_heatOf_11 : decode cX3_heatOf 11 = .ok (.getfield 15, 3) := by decide +kernel
theorem dX3_heatOf_14 : decode cX3_heatOf 14 = .ok (.iload_n 1, 1) := by decide +kernel
theorem dX3_heatOf_15 : decode cX3_heatOf 15 = .ok (.iaload, 1) := by decide +kernel
theorem dX3_heatOf_16 : decode cX3_heatOf 16 = .ok (.goto 4, 3) := by decide +kernel
theorem dX3_heatOf_19 : decode cX3_heatOf 19 = .ok (.iconst 0, 1) := by decide +kernel
theorem dX3_heatOf_20 : decode cX3_heatOf 20 = .ok (.ireturn, 1) := by decide +kernel
theorem dX3_capacityOf_0 : decode cX3_capacityOf 0 = .ok (.iload_n 1, 1) := by decide +kernel
theorem dX3_capacityOf_1 : decode cX3_capacityOf 1 = .ok (.ifCond .lt 18, 3) := by decide +kernel
theorem dX3_capacityOf_4 : decode cX3_capacityOf 4 = .ok (.iload_n 1, 1) := by decide +kernel
theorem dX3_capacityOf_5 : decode cX3_capacityOf 5 = .ok (.bipush 8, 2) := by decide +kernel
theorem dX3_capacityOf_7 : decode cX3_capacityOf 7 = .ok (.if_icmp .ge 12, 3) := by decide +kernel
theorem dX3_capacityOf_10 : decode cX3_capacityOf 10 = .ok (.aload_n 0, 1) := by decide +kernel
theorem dX3_capacityOf_11 : decode cX3_capacityOf 11 = .ok (.getfield 18, 3) := by decide +kernel
theorem dX3_capacityOf_14 : decode cX3_capacityOf 14 = .ok (.iload_n 1, 1) := by decide +kernel
theorem dX3_capacityOf_15 : decode cX3_capacityOf 15 = .ok (.iaload, 1) := by decide +kernel
theorem dX3_capacityOf_16 : decode cX3_capacityOf 16 = .ok (.goto 4, 3) := by decide +kernel
theorem dX3_capacityOf_19 : decode cX3_capacityOf 19 = .ok (.iconst 0, 1) := by decide +kernel
theorem dX3_capacityOf_20 : decode cX3_capacityOf 20 = .ok (.ireturn, 1) := by decide +kernel
theorem dX3_degrees_0 : decode cX3_degrees 0 = .ok (.iload_n 1, 1) := by decide +kernel
theorem dX3_degrees_1 : decode cX3_degrees 1 = .ok (.ifCond .lt 18, 3) := by decide +kernel
theorem dX3_degrees_4 : decode cX3_degrees 4 = .ok (.iload_n 1, 1) := by decide +kernel
theorem dX3_degrees_5 : decode cX3_degrees 5 = .ok (.bipush 8, 2) := by decide +kernel
theorem dX3_degrees_7 : decode cX3_degrees 7 = .ok (.if_icmp .ge 12, 3) := by decide +kernel
theorem dX3_degrees_10 : decode cX3_degrees 10 = .ok (.aload_n 0, 1) := by decide +kernel
theorem dX3_degrees_11 : decode cX3_degrees 11 = .ok (.getfield 18, 3) := by decide +kernel
theorem dX3_degrees_14 : decode cX3_degrees 14 = .ok (.iload_n 1, 1) := by decide +kernel
theorem dX3_degrees_15 : decode cX3_degrees 15 = .ok (.iaload, 1) := by decide +kernel
theorem dX3_degrees_16 : decode cX3_degrees 16 = .ok (.ifCond .gt 5, 3) := by decide +kernel
theorem dX3_degrees_19 : decode cX3_degrees 19 = .ok (.iconst 0, 1) := by decide +kernel
theorem dX3_degrees_20 : decode cX3_degrees 20 = .ok (.ireturn, 1) := by decide +kernel
theorem dX3_degrees_21 : decode cX3_degrees 21 = .ok (.aload_n 0, 1) := by decide +kernel
theorem dX3_degrees_22 : decode cX3_degrees 22 = .ok (.getfield 15, 3) := by decide +kernel
theorem dX3_degrees_25 : decode cX3_degrees 25 = .ok (.iload_n 1, 1) := by decide +kernel
theorem dX3_degrees_26 : decode cX3_degrees 26 = .ok (.iaload, 1) := by decide +kernel
theorem dX3_degrees_27 : decode cX3_degrees 27 = .ok (.aload_n 0, 1) := by decide +kernel
theorem dX3_degrees_28 : decode cX3_degrees 28 = .ok (.getfield 18, 3) := by decide +kernel
theorem dX3_degrees_31 : decode cX3_degrees 31 = .ok (.iload_n 1, 1) := by decide +kernel
theorem dX3_degrees_32 : decode cX3_degrees 32 = .ok (.iaload, 1) := by decide +kernel
theorem dX3_degrees_33 : decode cX3_degrees 33 = .ok (.invokestatic 100, 3) := by decide +kernel
theorem dX3_degrees_36 : decode cX3_degrees 36 = .ok (.ireturn, 1) := by decide +kernel
theorem dX3_allHeat_0 : decode cX3_allHeat 0 = .ok (.iconst 0, 1) := by decide +kernel
theorem dX3_allHeat_1 : decode cX3_allHeat 1 = .ok (.istore_n 1, 1) := by decide +kernel
theorem dX3_allHeat_2 : decode cX3_allHeat 2 = .ok (.iconst 0, 1) := by decide +kernel
theorem dX3_allHeat_3 : decode cX3_allHeat 3 = .ok (.istore_n 2, 1) := by decide +kernel
theorem dX3_allHeat_4 : decode cX3_allHeat 4 = .ok (.iload_n 2, 1) := by decide +kernel
theorem dX3_allHeat_5 : decode cX3_allHeat 5 = .ok (.iconst 2, 1) := by decide +kernel
theorem dX3_allHeat_6 : decode cX3_allHeat 6 = .ok (.aload_n 0, 1) := by decide +kernel
theorem dX3_allHeat_7 : decode cX3_allHeat 7 = .ok (.getfield 64, 3) := by decide +kernel
theorem dX3_allHeat_10 : decode cX3_allHeat 10 = .ok (.iadd, 1) := by decide +kernel
theorem dX3_allHeat_11 : decode cX3_allHeat 11 = .ok (.if_icmp .ge 24, 3) := by decide +kernel
theorem dX3_allHeat_14 : decode cX3_allHeat 14 = .ok (.iload_n 2, 1) := by decide +kernel
theorem dX3_allHeat_15 : decode cX3_allHeat 15 = .ok (.bipush 8, 2) := by decide +kernel
theorem dX3_allHeat_17 : decode cX3_allHeat 17 = .ok (.if_icmp .ge 18, 3) := by decide +kernel
theorem dX3_allHeat_20 : decode cX3_allHeat 20 = .ok (.iload_n 1, 1) := by decide +kernel
theorem dX3_allHeat_21 : decode cX3_allHeat 21 = .ok (.aload_n 0, 1) := by decide +kernel
theorem dX3_allHeat_22 : decode cX3_allHeat 22 = .ok (.getfield 15, 3) := by decide +kernel
theorem dX3_allHeat_25 : decode cX3_allHeat 25 = .ok (.iload_n 2, 1) := by decide +kernel
theorem dX3_allHeat_26 : decode cX3_allHeat 26 = .ok (.iaload, 1) := by decide +kernel
theorem dX3_allHeat_27 : decode cX3_allHeat 27 = .ok (.iadd, 1) := by decide +kernel
theorem dX3_allHeat_28 : decode cX3_allHeat 28 = .ok (.istore_n 1, 1) := by decide +kernel
theorem dX3_allHeat_29 : decode cX3_allHeat 29 = .ok (.iinc 2 1, 3) := by decide +kernel
theorem dX3_allHeat_32 : decode cX3_allHeat 32 = .ok (.goto (-28), 3) := by decide +kernel
theorem dX3_allHeat_35 : decode cX3_allHeat 35 = .ok (.iload_n 1, 1) := by decide +kernel
theorem dX3_allHeat_36 : decode cX3_allHeat 36 = .ok (.ireturn, 1) := by decide +kernel
theorem dX3_allComfort_0 : decode cX3_allComfort 0 = .ok (.iconst 0, 1) := by decide +kernel
theorem dX3_allComfort_1 : decode cX3_allComfort 1 = .ok (.istore_n 1, 1) := by decide +kernel
theorem dX3_allComfort_2 : decode cX3_allComfort 2 = .ok (.iconst 0, 1) := by decide +kernel
theorem dX3_allComfort_3 : decode cX3_allComfort 3 = .ok (.istore_n 2, 1) := by decide +kernel
theorem dX3_allComfort_4 : decode cX3_allComfort 4 = .ok (.iload_n 2, 1) := by decide +kernel
theorem dX3_allComfort_5 : decode cX3_allComfort 5 = .ok (.aload_n 0, 1) := by decide +kernel
theorem dX3_allComfort_6 : decode cX3_allComfort 6 = .ok (.getfield 64, 3) := by decide +kernel
theorem dX3_allComfort_9 : decode cX3_allComfort 9 = .ok (.if_icmp .ge 27, 3) := by decide +kernel
theorem dX3_allComfort_12 : decode cX3_allComfort 12 = .ok (.iload_n 2, 1) := by decide +kernel
theorem dX3_allComfort_13 : decode cX3_allComfort 13 = .ok (.bipush 6, 2) := by decide +kernel
theorem dX3_allComfort_15 : decode cX3_allComfort 15 = .ok (.if_icmp .ge 21, 3) := by decide +kernel
theorem dX3_allComfort_18 : decode cX3_allComfort 18 = .ok (.iload_n 1, 1) := by decide +kernel
theorem dX3_allComfort_19 : decode cX3_allComfort 19 = .ok (.aload_n 0, 1) := by decide +kernel
theorem dX3_allComfort_20 : decode cX3_allComfort 20 = .ok (.getfield 23, 3) := by decide +kernel
theorem dX3_allComfort_23 : decode cX3_allComfort 23 = .ok (.iload_n 2, 1) := by decide +kernel
theorem dX3_allComfort_24 : decode cX3_allComfort 24 = .ok (.aaload, 1) := by decide +kernel
theorem dX3_allComfort_25 : decode cX3_allComfort 25 = .ok (.getfield 106, 3) := by decide +kernel
theorem dX3_allComfort_28 : decode cX3_allComfort 28 = .ok (.iadd, 1) := by decide +kernel
theorem dX3_allComfort_29 : decode cX3_allComfort 29 = .ok (.istore_n 1, 1) := by decide +kernel
theorem dX3_allComfort_30 : decode cX3_allComfort 30 = .ok (.iinc 2 1, 3) := by decide +kernel
theorem dX3_allComfort_33 : decode cX3_allComfort 33 = .ok (.goto (-29), 3) := by decide +kernel
theorem dX3_allComfort_36 : decode cX3_allComfort 36 = .ok (.iload_n 1, 1) := by decide +kernel
theorem dX3_allComfort_37 : decode cX3_allComfort 37 = .ok (.ireturn, 1) := by decide +kernel
theorem dX3_openWindows_0 : decode cX3_openWindows 0 = .ok (.iconst 0, 1) := by decide +kernel
theorem dX3_openWindows_1 : decode cX3_openWindows 1 = .ok (.istore_n 1, 1) := by decide +kernel
theorem dX3_openWindows_2 : decode cX3_openWindows 2 = .ok (.iconst 0, 1) := by decide +kernel
theorem dX3_openWindows_3 : decode cX3_openWindows 3 = .ok (.istore_n 2, 1) := by decide +kernel
theorem dX3_openWindows_4 : decode cX3_openWindows 4 = .ok (.iload_n 2, 1) := by decide +kernel
theorem dX3_openWindows_5 : decode cX3_openWindows 5 = .ok (.aload_n 0, 1) := by decide +kernel
theorem dX3_openWindows_6 : decode cX3_openWindows 6 = .ok (.getfield 64, 3) := by decide +kernel
theorem dX3_openWindows_9 : decode cX3_openWindows 9 = .ok (.if_icmp .ge 35, 3) := by decide +kernel
theorem dX3_openWindows_12 : decode cX3_openWindows 12 = .ok (.iload_n 2, 1) := by decide +kernel
theorem dX3_openWindows_13 : decode cX3_openWindows 13 = .ok (.bipush 6, 2) := by decide +kernel
theorem dX3_openWindows_15 : decode cX3_openWindows 15 = .ok (.if_icmp .ge 29, 3) := by decide +kernel
theorem dX3_openWindows_18 : decode cX3_openWindows 18 = .ok (.iload_n 1, 1) := by decide +kernel
theorem dX3_openWindows_19 : decode cX3_openWindows 19 = .ok (.aload_n 0, 1) := by decide +kernel
theorem dX3_openWindows_20 : decode cX3_openWindows 20 = .ok (.getfield 23, 3) := by decide +kernel
theorem dX3_openWindows_23 : decode cX3_openWindows 23 = .ok (.iload_n 2, 1) := by decide +kernel
theorem dX3_openWindows_24 : decode cX3_openWindows 24 = .ok (.aaload, 1) := by decide +kernel
theorem dX3_openWindows_25 : decode cX3_openWindows 25 = .ok (.getfield 90, 3) := by decide +kernel
theorem dX3_openWindows_28 : decode cX3_openWindows 28 = .ok (.ifCond .eq 7, 3) := by decide +kernel
theorem dX3_openWindows_31 : decode cX3_openWindows 31 = .ok (.iconst 1, 1) := by decide +kernel
theorem dX3_openWindows_32 : decode cX3_openWindows 32 = .ok (.goto 4, 3) := by decide +kernel
theorem dX3_openWindows_35 : decode cX3_openWindows 35 = .ok (.iconst 0, 1) := by decide +kernel
theorem dX3_openWindows_36 : decode cX3_openWindows 36 = .ok (.iadd, 1) := by decide +kernel
theorem dX3_openWindows_37 : decode cX3_openWindows 37 = .ok (.istore_n 1, 1) := by decide +kernel
theorem dX3_openWindows_38 : decode cX3_openWindows 38 = .ok (.iinc 2 1, 3) := by decide +kernel
theorem dX3_openWindows_41 : decode cX3_openWindows 41 = .ok (.goto (-37), 3) := by decide +kernel
theorem dX3_openWindows_44 : decode cX3_openWindows 44 = .ok (.iload_n 1, 1) := by decide +kernel
theorem dX3_openWindows_45 : decode cX3_openWindows 45 = .ok (.ireturn, 1) := by decide +kernel
theorem dX3_heatMade_0 : decode cX3_heatMade 0 = .ok (.aload_n 0, 1) := by decide +kernel
theorem dX3_heatMade_1 : decode cX3_heatMade 1 = .ok (.getfield 30, 3) := by decide +kernel
theorem dX3_heatMade_4 : decode cX3_heatMade 4 = .ok (.bipush 9, 2) := by decide +kernel
theorem dX3_heatMade_6 : decode cX3_heatMade 6 = .ok (.iconst 0, 1) := by decide +kernel
theorem dX3_heatMade_7 : decode cX3_heatMade 7 = .ok (.invokevirtual 109, 3) := by decide +kernel
theorem dX3_heatMade_10 : decode cX3_heatMade 10 = .ok (.ireturn, 1) := by decide +kernel
theorem dX3_isAsWarmAsWanted_0 : decode cX3_isAsWarmAsWanted 0 = .ok (.aload_n 0, 1) := by decide +kernel
theorem dX3_isAsWarmAsWanted_1 : decode cX3_isAsWarmAsWanted 1 = .ok (.iload_n 1, 1) := by decide +kernel
theorem dX3_isAsWarmAsWanted_2 : decode cX3_isAsWarmAsWanted 2 = .ok (.invokevirtual 86, 3) := by decide +kernel
theorem dX3_isAsWarmAsWanted_5 : decode cX3_isAsWarmAsWanted 5 = .ok (.ifCond .eq 26, 3) := by decide +kernel
theorem dX3_isAsWarmAsWanted_8 : decode cX3_isAsWarmAsWanted 8 = .ok (.aload_n 0, 1) := by decide +kernel
theorem dX3_isAsWarmAsWanted_9 : decode cX3_isAsWarmAsWanted 9 = .ok (.iconst 2, 1) := by decide +kernel
theorem dX3_isAsWarmAsWanted_10 : decode cX3_isAsWarmAsWanted 10 = .ok (.iload_n 1, 1) := by decide +kernel
theorem dX3_isAsWarmAsWanted_11 : decode cX3_isAsWarmAsWanted 11 = .ok (.iadd, 1) := by decide +kernel
theorem dX3_isAsWarmAsWanted_12 : decode cX3_isAsWarmAsWanted 12 = .ok (.invokevirtual 112, 3) := by decide +kernel
theorem dX3_isAsWarmAsWanted_15 : decode cX3_isAsWarmAsWanted 15 = .ok (.aload_n 0, 1) := by decide +kernel
theorem dX3_isAsWarmAsWanted_16 : decode cX3_isAsWarmAsWanted 16 = .ok (.getfield 23, 3) := by decide +kernel
theorem dX3_isAsWarmAsWanted_19 : decode cX3_isAsWarmAsWanted 19 = .ok (.iload_n 1, 1) := by decide +kernel
theorem dX3_isAsWarmAsWanted_20 : decode cX3_isAsWarmAsWanted 20 = .ok (.aaload, 1) := by decide +kernel
theorem dX3_isAsWarmAsWanted_21 : decode cX3_isAsWarmAsWanted 21 = .ok (.getfield 116, 3) := by decide +kernel
theorem dX3_isAsWarmAsWanted_24 : decode cX3_isAsWarmAsWanted 24 = .ok (.if_icmp .lt 7, 3) := by decide +kernel
theorem dX3_isAsWarmAsWanted_27 : decode cX3_isAsWarmAsWanted 27 = .ok (.iconst 1, 1) := by decide +kernel
theorem dX3_isAsWarmAsWanted_28 : decode cX3_isAsWarmAsWanted 28 = .ok (.goto 4, 3) := by decide +kernel
theorem dX3_isAsWarmAsWanted_31 : decode cX3_isAsWarmAsWanted 31 = .ok (.iconst 0, 1) := by decide +kernel
theorem dX3_isAsWarmAsWanted_32 : decode cX3_isAsWarmAsWanted 32 = .ok (.ireturn, 1) := by decide +kernel
theorem dX3_warmRooms_0 : decode cX3_warmRooms 0 = .ok (.iconst 0, 1) := by decide +kernel
theorem dX3_warmRooms_1 : decode cX3_warmRooms 1 = .ok (.istore_n 1, 1) := by decide +kernel
theorem dX3_warmRooms_2 : decode cX3_warmRooms 2 = .ok (.iconst 0, 1) := by decide +kernel
theorem dX3_warmRooms_3 : decode cX3_warmRooms 3 = .ok (.istore_n 2, 1) := by decide +kernel
theorem dX3_warmRooms_4 : decode cX3_warmRooms 4 = .ok (.iload_n 2, 1) := by decide +kernel
theorem dX3_warmRooms_5 : decode cX3_warmRooms 5 = .ok (.aload_n 0, 1) := by decide +kernel
theorem dX3_warmRooms_6 : decode cX3_warmRooms 6 = .ok (.getfield 64, 3) := by decide +kernel
theorem dX3_warmRooms_9 : decode cX3_warmRooms 9 = .ok (.if_icmp .ge 29, 3) := by decide +kernel
theorem dX3_warmRooms_12 : decode cX3_warmRooms 12 = .ok (.iload_n 2, 1) := by decide +kernel
theorem dX3_warmRooms_13 : decode cX3_warmRooms 13 = .ok (.bipush 6, 2) := by decide +kernel
theorem dX3_warmRooms_15 : decode cX3_warmRooms 15 = .ok (.if_icmp .ge 23, 3) := by decide +kernel
theorem dX3_warmRooms_18 : decode cX3_warmRooms 18 = .ok (.aload_n 0, 1) := by decide +kernel
theorem dX3_warmRooms_19 : decode cX3_warmRooms 19 = .ok (.iload_n 2, 1) := by decide +kernel
theorem dX3_warmRooms_20 : decode cX3_warmRooms 20 = .ok (.invokevirtual 119, 3) := by decide +kernel
theorem dX3_warmRooms_23 : decode cX3_warmRooms 23 = .ok (.ifCond .eq 9, 3) := by decide +kernel
theorem dX3_warmRooms_26 : decode cX3_warmRooms 26 = .ok (.iload_n 1, 1) := by decide +kernel
theorem dX3_warmRooms_27 : decode cX3_warmRooms 27 = .ok (.iconst 1, 1) := by decide +kernel
theorem dX3_warmRooms_28 : decode cX3_warmRooms 28 = .ok (.iload_n 2, 1) := by decide +kernel
theorem dX3_warmRooms_29 : decode cX3_warmRooms 29 = .ok (.ishl, 1) := by decide +kernel
theorem dX3_warmRooms_30 : decode cX3_warmRooms 30 = .ok (.ior, 1) := by decide +kernel
theorem dX3_warmRooms_31 : decode cX3_warmRooms 31 = .ok (.istore_n 1, 1) := by decide +kernel
theorem dX3_warmRooms_32 : decode cX3_warmRooms 32 = .ok (.iinc 2 1, 3) := by decide +kernel
theorem dX3_warmRooms_35 : decode cX3_warmRooms 35 = .ok (.goto (-31), 3) := by decide +kernel
theorem dX3_warmRooms_38 : decode cX3_warmRooms 38 = .ok (.iload_n 1, 1) := by decide +kernel
theorem dX3_warmRooms_39 : decode cX3_warmRooms 39 = .ok (.ireturn, 1) := by decide +kernel
theorem dX3_loopShouldHave_0 : decode cX3_loopShouldHave 0 = .ok (.aload_n 0, 1) := by decide +kernel
theorem dX3_loopShouldHave_1 : decode cX3_loopShouldHave 1 = .ok (.getfield 42, 3) := by decide +kernel
theorem dX3_loopShouldHave_4 : decode cX3_loopShouldHave 4 = .ok (.bipush 20, 2) := by decide +kernel
theorem dX3_loopShouldHave_6 : decode cX3_loopShouldHave 6 = .ok (.if_icmp .lt 6, 3) := by decide +kernel
theorem dX3_loopShouldHave_9 : decode cX3_loopShouldHave 9 = .ok (.bipush 20, 2) := by decide +kernel
theorem dX3_loopShouldHave_11 : decode cX3_loopShouldHave 11 = .ok (.ireturn, 1) := by decide +kernel
theorem dX3_loopShouldHave_12 : decode cX3_loopShouldHave 12 = .ok (.bipush 70, 2) := by decide +kernel
theorem dX3_loopShouldHave_14 : decode cX3_loopShouldHave 14 = .ok (.bipush 20, 2) := by decide +kernel
theorem dX3_loopShouldHave_16 : decode cX3_loopShouldHave 16 = .ok (.aload_n 0, 1) := by decide +kernel
theorem dX3_loopShouldHave_17 : decode cX3_loopShouldHave 17 = .ok (.iconst 4, 1) := by decide +kernel
theorem dX3_loopShouldHave_18 : decode cX3_loopShouldHave 18 = .ok (.invokevirtual 122, 3) := by decide +kernel
theorem dX3_loopShouldHave_21 : decode cX3_loopShouldHave 21 = .ok (.bipush 20, 2) := by decide +kernel
theorem dX3_loopShouldHave_23 : decode cX3_loopShouldHave 23 = .ok (.aload_n 0, 1) := by decide +kernel
theorem dX3_loopShouldHave_24 : decode cX3_loopShouldHave 24 = .ok (.getfield 42, 3) := by decide +kernel
theorem dX3_loopShouldHave_27 : decode cX3_loopShouldHave 27 = .ok (.isub, 1) := by decide +kernel
theorem dX3_loopShouldHave_28 : decode cX3_loopShouldHave 28 = .ok (.imul, 1) := by decide +kernel
theorem dX3_loopShouldHave_29 : decode cX3_loopShouldHave 29 = .ok (.bipush 10, 2) := by decide +kernel
theorem dX3_loopShouldHave_31 : decode cX3_loopShouldHave 31 = .ok (.idiv, 1) := by decide +kernel
theorem dX3_loopShouldHave_32 : decode cX3_loopShouldHave 32 = .ok (.iadd, 1) := by decide +kernel
theorem dX3_loopShouldHave_33 : decode cX3_loopShouldHave 33 = .ok (.invokestatic 125, 3) := by decide +kernel
theorem dX3_loopShouldHave_36 : decode cX3_loopShouldHave 36 = .ok (.ireturn, 1) := by decide +kernel
theorem dX3_advance_0 : decode cX3_advance 0 = .ok (.iconst 0, 1) := by decide +kernel
theorem dX3_advance_1 : decode cX3_advance 1 = .ok (.istore_n 2, 1) := by decide +kernel
theorem dX3_advance_2 : decode cX3_advance 2 = .ok (.iload_n 2, 1) := by decide +kernel
theorem dX3_advance_3 : decode cX3_advance 3 = .ok (.iload_n 1, 1) := by decide +kernel
theorem dX3_advance_4 : decode cX3_advance 4 = .ok (.if_icmp .ge 57, 3) := by decide +kernel
theorem dX3_advance_7 : decode cX3_advance 7 = .ok (.aload_n 0, 1) := by decide +kernel
theorem dX3_advance_8 : decode cX3_advance 8 = .ok (.invokevirtual 128, 3) := by decide +kernel
theorem dX3_advance_11 : decode cX3_advance 11 = .ok (.aload_n 0, 1) := by decide +kernel
theorem dX3_advance_12 : decode cX3_advance 12 = .ok (.invokevirtual 131, 3) := by decide +kernel
theorem dX3_advance_15 : decode cX3_advance 15 = .ok (.aload_n 0, 1) := by decide +kernel
theorem dX3_advance_16 : decode cX3_advance 16 = .ok (.invokevirtual 134, 3) := by decide +kernel
theorem dX3_advance_19 : decode cX3_advance 19 = .ok (.aload_n 0, 1) := by decide +kernel
theorem dX3_advance_20 : decode cX3_advance 20 = .ok (.invokevirtual 137, 3) := by decide +kernel
theorem dX3_advance_23 : decode cX3_advance 23 = .ok (.aload_n 0, 1) := by decide +kernel
theorem dX3_advance_24 : decode cX3_advance 24 = .ok (.invokevirtual 140, 3) := by decide +kernel
theorem dX3_advance_27 : decode cX3_advance 27 = .ok (.aload_n 0, 1) := by decide +kernel
theorem dX3_advance_28 : decode cX3_advance 28 = .ok (.invokevirtual 143, 3) := by decide +kernel
theorem dX3_advance_31 : decode cX3_advance 31 = .ok (.aload_n 0, 1) := by decide +kernel
theorem dX3_advance_32 : decode cX3_advance 32 = .ok (.invokevirtual 146, 3) := by decide +kernel
theorem dX3_advance_35 : decode cX3_advance 35 = .ok (.aload_n 0, 1) := by decide +kernel
theorem dX3_advance_36 : decode cX3_advance 36 = .ok (.dup, 1) := by decide +kernel
theorem dX3_advance_37 : decode cX3_advance 37 = .ok (.getfield 38, 3) := by decide +kernel
theorem dX3_advance_40 : decode cX3_advance 40 = .ok (.iconst 1, 1) := by decide +kernel
theorem dX3_advance_41 : decode cX3_advance 41 = .ok (.iadd, 1) := by decide +kernel
theorem dX3_advance_42 : decode cX3_advance 42 = .ok (.putfield 38, 3) := by decide +kernel
theorem dX3_advance_45 : decode cX3_advance 45 = .ok (.aload_n 0, 1) := by decide +kernel
theorem dX3_advance_46 : decode cX3_advance 46 = .ok (.dup, 1) := by decide +kernel
theorem dX3_advance_47 : decode cX3_advance 47 = .ok (.getfield 49, 3) := by decide +kernel
theorem dX3_advance_50 : decode cX3_advance 50 = .ok (.iconst 1, 1) := by decide +kernel
theorem dX3_advance_51 : decode cX3_advance 51 = .ok (.iadd, 1) := by decide +kernel
theorem dX3_advance_52 : decode cX3_advance 52 = .ok (.putfield 49, 3) := by decide +kernel
theorem dX3_advance_55 : decode cX3_advance 55 = .ok (.iinc 2 1, 3) := by decide +kernel
theorem dX3_advance_58 : decode cX3_advance 58 = .ok (.goto (-56), 3) := by decide +kernel
theorem dX3_advance_61 : decode cX3_advance 61 = .ok (.return_, 1) := by decide +kernel
theorem dX3_turnSeason_0 : decode cX3_turnSeason 0 = .ok (.aload_n 0, 1) := by decide +kernel
theorem dX3_turnSeason_1 : decode cX3_turnSeason 1 = .ok (.getfield 42, 3) := by decide +kernel
theorem dX3_turnSeason_4 : decode cX3_turnSeason 4 = .ok (.aload_n 0, 1) := by decide +kernel
theorem dX3_turnSeason_5 : decode cX3_turnSeason 5 = .ok (.bipush 8, 2) := by decide +kernel
theorem dX3_turnSeason_7 : decode cX3_turnSeason 7 = .ok (.invokevirtual 122, 3) := by decide +kernel
theorem dX3_turnSeason_10 : decode cX3_turnSeason 10 = .ok (.if_icmp .lt 7, 3) := by decide +kernel
theorem dX3_turnSeason_13 : decode cX3_turnSeason 13 = .ok (.iconst 1, 1) := by decide +kernel
theorem dX3_turnSeason_14 : decode cX3_turnSeason 14 = .ok (.goto 4, 3) := by decide +kernel
theorem dX3_turnSeason_17 : decode cX3_turnSeason 17 = .ok (.iconst 0, 1) := by decide +kernel
theorem dX3_turnSeason_18 : decode cX3_turnSeason 18 = .ok (.istore_n 1, 1) := by decide +kernel
theorem dX3_turnSeason_19 : decode cX3_turnSeason 19 = .ok (.aload_n 0, 1) := by decide +kernel
theorem dX3_turnSeason_20 : decode cX3_turnSeason 20 = .ok (.iload_n 1, 1) := by decide +kernel
theorem dX3_turnSeason_21 : decode cX3_turnSeason 21 = .ok (.aload_n 0, 1) := by decide +kernel
theorem dX3_turnSeason_22 : decode cX3_turnSeason 22 = .ok (.getfield 58, 3) := by decide +kernel
theorem dX3_turnSeason_25 : decode cX3_turnSeason 25 = .ok (.if_icmp .eq 12, 3) := by decide +kernel
theorem dX3_turnSeason_28 : decode cX3_turnSeason 28 = .ok (.aload_n 0, 1) := by decide +kernel
theorem dX3_turnSeason_29 : decode cX3_turnSeason 29 = .ok (.getfield 61, 3) := by decide +kernel
theorem dX3_turnSeason_32 : decode cX3_turnSeason 32 = .ok (.iconst 1, 1) := by decide +kernel
theorem dX3_turnSeason_33 : decode cX3_turnSeason 33 = .ok (.iadd, 1) := by decide +kernel
theorem dX3_turnSeason_34 : decode cX3_turnSeason 34 = .ok (.goto 4, 3) := by decide +kernel
theorem dX3_turnSeason_37 : decode cX3_turnSeason 37 = .ok (.iconst 0, 1) := by decide +kernel
theorem dX3_turnSeason_38 : decode cX3_turnSeason 38 = .ok (.putfield 61, 3) := by decide +kernel
theorem dX3_turnSeason_41 : decode cX3_turnSeason 41 = .ok (.aload_n 0, 1) := by decide +kernel
theorem dX3_turnSeason_42 : decode cX3_turnSeason 42 = .ok (.getfield 61, 3) := by decide +kernel
theorem dX3_turnSeason_45 : decode cX3_turnSeason 45 = .ok (.bipush 60, 2) := by decide +kernel
theorem dX3_turnSeason_47 : decode cX3_turnSeason 47 = .ok (.if_icmp .lt 24, 3) := by decide +kernel
theorem dX3_turnSeason_50 : decode cX3_turnSeason 50 = .ok (.aload_n 0, 1) := by decide +kernel
theorem dX3_turnSeason_51 : decode cX3_turnSeason 51 = .ok (.aload_n 0, 1) := by decide +kernel
theorem dX3_turnSeason_52 : decode cX3_turnSeason 52 = .ok (.getfield 58, 3) := by decide +kernel
theorem dX3_turnSeason_55 : decode cX3_turnSeason 55 = .ok (.ifCond .ne 7, 3) := by decide +kernel
theorem dX3_turnSeason_58 : decode cX3_turnSeason 58 = .ok (.iconst 1, 1) := by decide +kernel
theorem dX3_turnSeason_59 : decode cX3_turnSeason 59 = .ok (.goto 4, 3) := by decide +kernel
theorem dX3_turnSeason_62 : decode cX3_turnSeason 62 = .ok (.iconst 0, 1) := by decide +kernel
theorem dX3_turnSeason_63 : decode cX3_turnSeason 63 = .ok (.putfield 58, 3) := by decide +kernel
theorem dX3_turnSeason_66 : decode cX3_turnSeason 66 = .ok (.aload_n 0, 1) := by decide +kernel
theorem dX3_turnSeason_67 : decode cX3_turnSeason 67 = .ok (.iconst 0, 1) := by decide +kernel
theorem dX3_turnSeason_68 : decode cX3_turnSeason 68 = .ok (.putfield 61, 3) := by decide +kernel
theorem dX3_turnSeason_71 : decode cX3_turnSeason 71 = .ok (.return_, 1) := by decide +kernel
theorem dX3_runBoiler_0 : decode cX3_runBoiler 0 = .ok (.aload_n 0, 1) := by decide +kernel
theorem dX3_runBoiler_1 : decode cX3_runBoiler 1 = .ok (.getfield 45, 3) := by decide +kernel
theorem dX3_runBoiler_4 : decode cX3_runBoiler 4 = .ok (.ifCond .eq 23, 3) := by decide +kernel
theorem dX3_runBoiler_7 : decode cX3_runBoiler 7 = .ok (.aload_n 0, 1) := by decide +kernel
theorem dX3_runBoiler_8 : decode cX3_runBoiler 8 = .ok (.invokevirtual 149, 3) := by decide +kernel
theorem dX3_runBoiler_11 : decode cX3_runBoiler 11 = .ok (.ifCond .eq 43, 3) := by decide +kernel
theorem dX3_runBoiler_14 : decode cX3_runBoiler 14 = .ok (.aload_n 0, 1) := by decide +kernel
theorem dX3_runBoiler_15 : decode cX3_runBoiler 15 = .ok (.iconst 0, 1) := by decide +kernel
theorem dX3_runBoiler_16 : decode cX3_runBoiler 16 = .ok (.putfield 45, 3) := by decide +kernel
theorem dX3_runBoiler_19 : decode cX3_runBoiler 19 = .ok (.aload_n 0, 1) := by decide +kernel
theorem dX3_runBoiler_20 : decode cX3_runBoiler 20 = .ok (.iconst 0, 1) := by decide +kernel
theorem dX3_runBoiler_21 : decode cX3_runBoiler 21 = .ok (.putfield 49, 3) := by decide +kernel
theorem dX3_runBoiler_24 : decode cX3_runBoiler 24 = .ok (.goto 30, 3) := by decide +kernel
theorem dX3_runBoiler_27 : decode cX3_runBoiler 27 = .ok (.aload_n 0, 1) := by decide +kernel
theorem dX3_runBoiler_28 : decode cX3_runBoiler 28 = .ok (.invokevirtual 153, 3) := by decide +kernel
theorem dX3_runBoiler_31 : decode cX3_runBoiler 31 = .ok (.ifCond .eq 23, 3) := by decide +kernel
theorem dX3_runBoiler_34 : decode cX3_runBoiler 34 = .ok (.aload_n 0, 1) := by decide +kernel
theorem dX3_runBoiler_35 : decode cX3_runBoiler 35 = .ok (.iconst 1, 1) := by decide +kernel
theorem dX3_runBoiler_36 : decode cX3_runBoiler 36 = .ok (.putfield 45, 3) := by decide +kernel
theorem dX3_runBoiler_39 : decode cX3_runBoiler 39 = .ok (.aload_n 0, 1) := by decide +kernel
theorem dX3_runBoiler_40 : decode cX3_runBoiler 40 = .ok (.iconst 0, 1) := by decide +kernel
theorem dX3_runBoiler_41 : decode cX3_runBoiler 41 = .ok (.putfield 49, 3) := by decide +kernel
theorem dX3_runBoiler_44 : decode cX3_runBoiler 44 = .ok (.aload_n 0, 1) := by decide +kernel
theorem dX3_runBoiler_45 : decode cX3_runBoiler 45 = .ok (.dup, 1) := by decide +kernel
theorem dX3_runBoiler_46 : decode cX3_runBoiler 46 = .ok (.getfield 52, 3) := by decide +kernel
theorem dX3_runBoiler_49 : decode cX3_runBoiler 49 = .ok (.iconst 1, 1) := by decide +kernel
theorem dX3_runBoiler_50 : decode cX3_runBoiler 50 = .ok (.iadd, 1) := by decide +kernel
theorem dX3_runBoiler_51 : decode cX3_runBoiler 51 = .ok (.putfield 52, 3) := by decide +kernel
theorem dX3_runBoiler_54 : decode cX3_runBoiler 54 = .ok (.aload_n 0, 1) := by decide +kernel
theorem dX3_runBoiler_55 : decode cX3_runBoiler 55 = .ok (.getfield 45, 3) := by decide +kernel
theorem dX3_runBoiler_58 : decode cX3_runBoiler 58 = .ok (.ifCond .eq 15, 3) := by decide +kernel
theorem dX3_runBoiler_61 : decode cX3_runBoiler 61 = .ok (.aload_n 0, 1) := by decide +kernel
theorem dX3_runBoiler_62 : decode cX3_runBoiler 62 = .ok (.bipush 9, 2) := by decide +kernel
theorem dX3_runBoiler_64 : decode cX3_runBoiler 64 = .ok (.iconst 0, 1) := by decide +kernel
theorem dX3_runBoiler_65 : decode cX3_runBoiler 65 = .ok (.aload_n 0, 1) := by decide +kernel
theorem dX3_runBoiler_66 : decode cX3_runBoiler 66 = .ok (.iconst 0, 1) := by decide +kernel
theorem dX3_runBoiler_67 : decode cX3_runBoiler 67 = .ok (.invokevirtual 122, 3) := by decide +kernel
theorem dX3_runBoiler_70 : decode cX3_runBoiler 70 = .ok (.invokevirtual 97, 3) := by decide +kernel
theorem dX3_runBoiler_73 : decode cX3_runBoiler 73 = .ok (.return_, 1) := by decide +kernel
theorem dX3_mustStop_0 : decode cX3_mustStop 0 = .ok (.aload_n 0, 1) := by decide +kernel
theorem dX3_mustStop_1 : decode cX3_mustStop 1 = .ok (.iconst 0, 1) := by decide +kernel
theorem dX3_mustStop_2 : decode cX3_mustStop 2 = .ok (.invokevirtual 112, 3) := by decide +kernel
theorem dX3_mustStop_5 : decode cX3_mustStop 5 = .ok (.istore_n 1, 1) := by decide +kernel
theorem dX3_mustStop_6 : decode cX3_mustStop 6 = .ok (.iload_n 1, 1) := by decide +kernel
theorem dX3_mustStop_7 : decode cX3_mustStop 7 = .ok (.bipush 90, 2) := by decide +kernel
theorem dX3_mustStop_9 : decode cX3_mustStop 9 = .ok (.if_icmp .lt 5, 3) := by decide +kernel
theorem dX3_mustStop_12 : decode cX3_mustStop 12 = .ok (.iconst 1, 1) := by decide +kernel
theorem dX3_mustStop_13 : decode cX3_mustStop 13 = .ok (.ireturn, 1) := by decide +kernel
theorem dX3_mustStop_14 : decode cX3_mustStop 14 = .ok (.aload_n 0, 1) := by decide +kernel
theorem dX3_mustStop_15 : decode cX3_mustStop 15 = .ok (.getfield 49, 3) := by decide +kernel
theorem dX3_mustStop_18 : decode cX3_mustStop 18 = .ok (.aload_n 0, 1) := by decide +kernel
theorem dX3_mustStop_19 : decode cX3_mustStop 19 = .ok (.iconst 2, 1) := by decide +kernel
theorem dX3_mustStop_20 : decode cX3_mustStop 20 = .ok (.invokevirtual 122, 3) := by decide +kernel
theorem dX3_mustStop_23 : decode cX3_mustStop 23 = .ok (.if_icmp .lt 25, 3) := by decide +kernel
theorem dX3_mustStop_26 : decode cX3_mustStop 26 = .ok (.aload_n 0, 1) := by decide +kernel
theorem dX3_mustStop_27 : decode cX3_mustStop 27 = .ok (.getfield 58, 3) := by decide +kernel
theorem dX3_mustStop_30 : decode cX3_mustStop 30 = .ok (.ifCond .ne 14, 3) := by decide +kernel
theorem dX3_mustStop_33 : decode cX3_mustStop 33 = .ok (.iload_n 1, 1) := by decide +kernel
theorem dX3_mustStop_34 : decode cX3_mustStop 34 = .ok (.aload_n 0, 1) := by decide +kernel
theorem dX3_mustStop_35 : decode cX3_mustStop 35 = .ok (.iconst 1, 1) := by decide +kernel
theorem dX3_mustStop_36 : decode cX3_mustStop 36 = .ok (.invokevirtual 122, 3) := by decide +kernel
theorem dX3_mustStop_39 : decode cX3_mustStop 39 = .ok (.iconst 5, 1) := by decide +kernel
theorem dX3_mustStop_40 : decode cX3_mustStop 40 = .ok (.iadd, 1) := by decide +kernel
theorem dX3_mustStop_41 : decode cX3_mustStop 41 = .ok (.if_icmp .lt 7, 3) := by decide +kernel
theorem dX3_mustStop_44 : decode cX3_mustStop 44 = .ok (.iconst 1, 1) := by decide +kernel
theorem dX3_mustStop_45 : decode cX3_mustStop 45 = .ok (.goto 4, 3) := by decide +kernel
theorem dX3_mustStop_48 : decode cX3_mustStop 48 = .ok (.iconst 0, 1) := by decide +kernel
theorem dX3_mustStop_49 : decode cX3_mustStop 49 = .ok (.ireturn, 1) := by decide +kernel
theorem dX3_mayStart_0 : decode cX3_mayStart 0 = .ok (.aload_n 0, 1) := by decide +kernel
theorem dX3_mayStart_1 : decode cX3_mayStart 1 = .ok (.getfield 49, 3) := by decide +kernel
theorem dX3_mayStart_4 : decode cX3_mayStart 4 = .ok (.aload_n 0, 1) := by decide +kernel
theorem dX3_mayStart_5 : decode cX3_mayStart 5 = .ok (.iconst 3, 1) := by decide +kernel
theorem dX3_mayStart_6 : decode cX3_mayStart 6 = .ok (.invokevirtual 122, 3) := by decide +kernel
theorem dX3_mayStart_9 : decode cX3_mayStart 9 = .ok (.if_icmp .lt 35, 3) := by decide +kernel
theorem dX3_mayStart_12 : decode cX3_mayStart 12 = .ok (.aload_n 0, 1) := by decide +kernel
theorem dX3_mayStart_13 : decode cX3_mayStart 13 = .ok (.getfield 58, 3) := by decide +kernel
theorem dX3_mayStart_16 : decode cX3_mayStart 16 = .ok (.ifCond .ne 28, 3) := by decide +kernel
theorem dX3_mayStart_19 : decode cX3_mayStart 19 = .ok (.aload_n 0, 1) := by decide +kernel
theorem dX3_mayStart_20 : decode cX3_mayStart 20 = .ok (.iconst 0, 1) := by decide +kernel
theorem dX3_mayStart_21 : decode cX3_mayStart 21 = .ok (.invokevirtual 122, 3) := by decide +kernel
theorem dX3_mayStart_24 : decode cX3_mayStart 24 = .ok (.ifCond .eq 20, 3) := by decide +kernel
theorem dX3_mayStart_27 : decode cX3_mayStart 27 = .ok (.aload_n 0, 1) := by decide +kernel
theorem dX3_mayStart_28 : decode cX3_mayStart 28 = .ok (.iconst 0, 1) := by decide +kernel
theorem dX3_mayStart_29 : decode cX3_mayStart 29 = .ok (.invokevirtual 112, 3) := by decide +kernel
theorem dX3_mayStart_32 : decode cX3_mayStart 32 = .ok (.aload_n 0, 1) := by decide +kernel
theorem dX3_mayStart_33 : decode cX3_mayStart 33 = .ok (.iconst 1, 1) := by decide +kernel
theorem dX3_mayStart_34 : decode cX3_mayStart 34 = .ok (.invokevirtual 122, 3) := by decide +kernel
theorem dX3_mayStart_37 : decode cX3_mayStart 37 = .ok (.if_icmp .ge 7, 3) := by decide +kernel
theorem dX3_mayStart_40 : decode cX3_mayStart 40 = .ok (.iconst 1, 1) := by decide +kernel
theorem dX3_mayStart_41 : decode cX3_mayStart 41 = .ok (.goto 4, 3) := by decide +kernel
theorem dX3_mayStart_44 : decode cX3_mayStart 44 = .ok (.iconst 0, 1) := by decide +kernel
theorem dX3_mayStart_45 : decode cX3_mayStart 45 = .ok (.ireturn, 1) := by decide +kernel
theorem dX3_moveValve_0 : decode cX3_moveValve 0 = .ok (.aload_n 0, 1) := by decide +kernel
theorem dX3_moveValve_1 : decode cX3_moveValve 1 = .ok (.getfield 58, 3) := by decide +kernel
theorem dX3_moveValve_4 : decode cX3_moveValve 4 = .ok (.ifCond .eq 24, 3) := by decide +kernel
theorem dX3_moveValve_7 : decode cX3_moveValve 7 = .ok (.aload_n 0, 1) := by decide +kernel
theorem dX3_moveValve_8 : decode cX3_moveValve 8 = .ok (.aload_n 0, 1) := by decide +kernel
theorem dX3_moveValve_9 : decode cX3_moveValve 9 = .ok (.getfield 38, 3) := by decide +kernel
theorem dX3_moveValve_12 : decode cX3_moveValve 12 = .ok (.bipush 30, 2) := by decide +kernel
theorem dX3_moveValve_14 : decode cX3_moveValve 14 = .ok (.irem, 1) := by decide +kernel
theorem dX3_moveValve_15 : decode cX3_moveValve 15 = .ok (.ifCond .ne 8, 3) := by decide +kernel
theorem dX3_moveValve_18 : decode cX3_moveValve 18 = .ok (.bipush 100, 2) := by decide +kernel
theorem dX3_moveValve_20 : decode cX3_moveValve 20 = .ok (.goto 4, 3) := by decide +kernel
theorem dX3_moveValve_23 : decode cX3_moveValve 23 = .ok (.iconst 0, 1) := by decide +kernel
theorem dX3_moveValve_24 : decode cX3_moveValve 24 = .ok (.putfield 55, 3) := by decide +kernel
theorem dX3_moveValve_27 : decode cX3_moveValve 27 = .ok (.return_, 1) := by decide +kernel
theorem dX3_moveValve_28 : decode cX3_moveValve 28 = .ok (.aload_n 0, 1) := by decide +kernel
theorem dX3_moveValve_29 : decode cX3_moveValve 29 = .ok (.invokevirtual 156, 3) := by decide +kernel
theorem dX3_moveValve_32 : decode cX3_moveValve 32 = .ok (.istore_n 1, 1) := by decide +kernel
theorem dX3_moveValve_33 : decode cX3_moveValve 33 = .ok (.aload_n 0, 1) := by decide +kernel
theorem dX3_moveValve_34 : decode cX3_moveValve 34 = .ok (.invokevirtual 160, 3) := by decide +kernel
theorem dX3_moveValve_37 : decode cX3_moveValve 37 = .ok (.ifCond .eq 10, 3) := by decide +kernel
theorem dX3_moveValve_40 : decode cX3_moveValve 40 = .ok (.bipush 20, 2) := by decide +kernel
theorem dX3_moveValve_42 : decode cX3_moveValve 42 = .ok (.iload_n 1, 1) := by decide +kernel
theorem dX3_moveValve_43 : decode cX3_moveValve 43 = .ok (.invokestatic 125, 3) := by decide +kernel
theorem dX3_moveValve_46 : decode cX3_moveValve 46 = .ok (.istore_n 1, 1) := by decide +kernel
theorem dX3_moveValve_47 : decode cX3_moveValve 47 = .ok (.aload_n 0, 1) := by decide +kernel
theorem dX3_moveValve_48 : decode cX3_moveValve 48 = .ok (.iconst 5, 1) := by decide +kernel
theorem dX3_moveValve_49 : decode cX3_moveValve 49 = .ok (.invokevirtual 122, 3) := by decide +kernel
theorem dX3_moveValve_52 : decode cX3_moveValve 52 = .ok (.istore_n 2, 1) := by decide +kernel
theorem dX3_moveValve_53 : decode cX3_moveValve 53 = .ok (.aload_n 0, 1) := by decide +kernel
theorem dX3_moveValve_54 : decode cX3_moveValve 54 = .ok (.iload_n 1, 1) := by decide +kernel
theorem dX3_moveValve_55 : decode cX3_moveValve 55 = .ok (.aload_n 0, 1) := by decide +kernel
theorem dX3_moveValve_56 : decode cX3_moveValve 56 = .ok (.getfield 55, 3) := by decide +kernel
theorem dX3_moveValve_59 : decode cX3_moveValve 59 = .ok (.if_icmp .le 16, 3) := by decide +kernel
theorem dX3_moveValve_62 : decode cX3_moveValve 62 = .ok (.iload_n 1, 1) := by decide +kernel
theorem dX3_moveValve_63 : decode cX3_moveValve 63 = .ok (.aload_n 0, 1) := by decide +kernel
theorem dX3_moveValve_64 : decode cX3_moveValve 64 = .ok (.getfield 55, 3) := by decide +kernel
theorem dX3_moveValve_67 : decode cX3_moveValve 67 = .ok (.iload_n 2, 1) := by decide +kernel
theorem dX3_moveValve_68 : decode cX3_moveValve 68 = .ok (.iadd, 1) := by decide +kernel
theorem dX3_moveValve_69 : decode cX3_moveValve 69 = .ok (.invokestatic 125, 3) := by decide +kernel
theorem dX3_moveValve_72 : decode cX3_moveValve 72 = .ok (.goto 13, 3) := by decide +kernel
theorem dX3_moveValve_75 : decode cX3_moveValve 75 = .ok (.iload_n 1, 1) := by decide +kernel
theorem dX3_moveValve_76 : decode cX3_moveValve 76 = .ok (.aload_n 0, 1) := by decide +kernel
theorem dX3_moveValve_77 : decode cX3_moveValve 77 = .ok (.getfield 55, 3) := by decide +kernel
theorem dX3_moveValve_80 : decode cX3_moveValve 80 = .ok (.iload_n 2, 1) := by decide +kernel
theorem dX3_moveValve_81 : decode cX3_moveValve 81 = .ok (.isub, 1) := by decide +kernel
theorem dX3_moveValve_82 : decode cX3_moveValve 82 = .ok (.invokestatic 163, 3) := by decide +kernel
theorem dX3_moveValve_85 : decode cX3_moveValve 85 = .ok (.putfield 55, 3) := by decide +kernel
theorem dX3_moveValve_88 : decode cX3_moveValve 88 = .ok (.return_, 1) := by decide +kernel
theorem dX3_isPinched_0 : decode cX3_isPinched 0 = .ok (.aload_n 0, 1) := by decide +kernel
theorem dX3_isPinched_1 : decode cX3_isPinched 1 = .ok (.iconst 0, 1) := by decide +kernel
theorem dX3_isPinched_2 : decode cX3_isPinched 2 = .ok (.invokevirtual 112, 3) := by decide +kernel
theorem dX3_isPinched_5 : decode cX3_isPinched 5 = .ok (.aload_n 0, 1) := by decide +kernel
theorem dX3_isPinched_6 : decode cX3_isPinched 6 = .ok (.bipush 7, 2) := by decide +kernel
theorem dX3_isPinched_8 : decode cX3_isPinched 8 = .ok (.invokevirtual 122, 3) := by decide +kernel
theorem dX3_isPinched_11 : decode cX3_isPinched 11 = .ok (.if_icmp .ge 7, 3) := by decide +kernel
theorem dX3_isPinched_14 : decode cX3_isPinched 14 = .ok (.iconst 1, 1) := by decide +kernel
theorem dX3_isPinched_15 : decode cX3_isPinched 15 = .ok (.goto 4, 3) := by decide +kernel
theorem dX3_isPinched_18 : decode cX3_isPinched 18 = .ok (.iconst 0, 1) := by decide +kernel
theorem dX3_isPinched_19 : decode cX3_isPinched 19 = .ok (.ireturn, 1) := by decide +kernel
theorem dX3_freeTarget_0 : decode cX3_freeTarget 0 = .ok (.aload_n 0, 1) := by decide +kernel
theorem dX3_freeTarget_1 : decode cX3_freeTarget 1 = .ok (.invokevirtual 166, 3) := by decide +kernel
theorem dX3_freeTarget_4 : decode cX3_freeTarget 4 = .ok (.aload_n 0, 1) := by decide +kernel
theorem dX3_freeTarget_5 : decode cX3_freeTarget 5 = .ok (.iconst 1, 1) := by decide +kernel
theorem dX3_freeTarget_6 : decode cX3_freeTarget 6 = .ok (.invokevirtual 112, 3) := by decide +kernel
theorem dX3_freeTarget_9 : decode cX3_freeTarget 9 = .ok (.isub, 1) := by decide +kernel
theorem dX3_freeTarget_10 : decode cX3_freeTarget 10 = .ok (.istore_n 1, 1) := by decide +kernel
theorem dX3_freeTarget_11 : decode cX3_freeTarget 11 = .ok (.iconst 0, 1) := by decide +kernel
theorem dX3_freeTarget_12 : decode cX3_freeTarget 12 = .ok (.bipush 100, 2) := by decide +kernel
theorem dX3_freeTarget_14 : decode cX3_freeTarget 14 = .ok (.bipush 10, 2) := by decide +kernel
theorem dX3_freeTarget_16 : decode cX3_freeTarget 16 = .ok (.iload_n 1, 1) := by decide +kernel
theorem dX3_freeTarget_17 : decode cX3_freeTarget 17 = .ok (.imul, 1) := by decide +kernel
theorem dX3_freeTarget_18 : decode cX3_freeTarget 18 = .ok (.invokestatic 125, 3) := by decide +kernel
theorem dX3_freeTarget_21 : decode cX3_freeTarget 21 = .ok (.invokestatic 163, 3) := by decide +kernel
theorem dX3_freeTarget_24 : decode cX3_freeTarget 24 = .ok (.ireturn, 1) := by decide +kernel
theorem dX3_mix_0 : decode cX3_mix 0 = .ok (.aload_n 0, 1) := by decide +kernel
theorem dX3_mix_1 : decode cX3_mix 1 = .ok (.iconst 0, 1) := by decide +kernel
theorem dX3_mix_2 : decode cX3_mix 2 = .ok (.invokevirtual 112, 3) := by decide +kernel
theorem dX3_mix_5 : decode cX3_mix 5 = .ok (.aload_n 0, 1) := by decide +kernel
theorem dX3_mix_6 : decode cX3_mix 6 = .ok (.iconst 1, 1) := by decide +kernel
theorem dX3_mix_7 : decode cX3_mix 7 = .ok (.invokevirtual 112, 3) := by decide +kernel
theorem dX3_mix_10 : decode cX3_mix 10 = .ok (.isub, 1) := by decide +kernel
theorem dX3_mix_11 : decode cX3_mix 11 = .ok (.istore_n 1, 1) := by decide +kernel
theorem dX3_mix_12 : decode cX3_mix 12 = .ok (.iload_n 1, 1) := by decide +kernel
theorem dX3_mix_13 : decode cX3_mix 13 = .ok (.ifCond .le 25, 3) := by decide +kernel
theorem dX3_mix_16 : decode cX3_mix 16 = .ok (.aload_n 0, 1) := by decide +kernel
theorem dX3_mix_17 : decode cX3_mix 17 = .ok (.iconst 0, 1) := by decide +kernel
theorem dX3_mix_18 : decode cX3_mix 18 = .ok (.iconst 1, 1) := by decide +kernel
theorem dX3_mix_19 : decode cX3_mix 19 = .ok (.aload_n 0, 1) := by decide +kernel
theorem dX3_mix_20 : decode cX3_mix 20 = .ok (.bipush 6, 2) := by decide +kernel
theorem dX3_mix_22 : decode cX3_mix 22 = .ok (.invokevirtual 122, 3) := by decide +kernel
theorem dX3_mix_25 : decode cX3_mix 25 = .ok (.aload_n 0, 1) := by decide +kernel
theorem dX3_mix_26 : decode cX3_mix 26 = .ok (.getfield 55, 3) := by decide +kernel
theorem dX3_mix_29 : decode cX3_mix 29 = .ok (.imul, 1) := by decide +kernel
theorem dX3_mix_30 : decode cX3_mix 30 = .ok (.iload_n 1, 1) := by decide +kernel
theorem dX3_mix_31 : decode cX3_mix 31 = .ok (.imul, 1) := by decide +kernel
theorem dX3_mix_32 : decode cX3_mix 32 = .ok (.bipush 100, 2) := by decide +kernel
theorem dX3_mix_34 : decode cX3_mix 34 = .ok (.idiv, 1) := by decide +kernel
theorem dX3_mix_35 : decode cX3_mix 35 = .ok (.invokevirtual 97, 3) := by decide +kernel
theorem dX3_mix_38 : decode cX3_mix 38 = .ok (.return_, 1) := by decide +kernel
theorem dX3_heatRooms_0 : decode cX3_heatRooms 0 = .ok (.iconst 0, 1) := by decide +kernel
theorem dX3_heatRooms_1 : decode cX3_heatRooms 1 = .ok (.istore_n 1, 1) := by decide +kernel
theorem dX3_heatRooms_2 : decode cX3_heatRooms 2 = .ok (.iload_n 1, 1) := by decide +kernel
theorem dX3_heatRooms_3 : decode cX3_heatRooms 3 = .ok (.aload_n 0, 1) := by decide +kernel
theorem dX3_heatRooms_4 : decode cX3_heatRooms 4 = .ok (.getfield 64, 3) := by decide +kernel
theorem dX3_heatRooms_7 : decode cX3_heatRooms 7 = .ok (.if_icmp .ge 73, 3) := by decide +kernel
theorem dX3_heatRooms_10 : decode cX3_heatRooms 10 = .ok (.iload_n 1, 1) := by decide +kernel
theorem dX3_heatRooms_11 : decode cX3_heatRooms 11 = .ok (.bipush 6, 2) := by decide +kernel
theorem dX3_heatRooms_13 : decode cX3_heatRooms 13 = .ok (.if_icmp .ge 67, 3) := by decide +kernel
theorem dX3_heatRooms_16 : decode cX3_heatRooms 16 = .ok (.aload_n 0, 1) := by decide +kernel
theorem dX3_heatRooms_17 : decode cX3_heatRooms 17 = .ok (.iconst 2, 1) := by decide +kernel
theorem dX3_heatRooms_18 : decode cX3_heatRooms 18 = .ok (.iload_n 1, 1) := by decide +kernel
theorem dX3_heatRooms_19 : decode cX3_heatRooms 19 = .ok (.iadd, 1) := by decide +kernel
theorem dX3_heatRooms_20 : decode cX3_heatRooms 20 = .ok (.invokevirtual 112, 3) := by decide +kernel
theorem dX3_heatRooms_23 : decode cX3_heatRooms 23 = .ok (.istore_n 2, 1) := by decide +kernel
theorem dX3_heatRooms_24 : decode cX3_heatRooms 24 = .ok (.aload_n 0, 1) := by decide +kernel
theorem dX3_heatRooms_25 : decode cX3_heatRooms 25 = .ok (.iconst 1, 1) := by decide +kernel
theorem dX3_heatRooms_26 : decode cX3_heatRooms 26 = .ok (.invokevirtual 112, 3) := by decide +kernel
theorem dX3_heatRooms_29 : decode cX3_heatRooms 29 = .ok (.iload_n 2, 1) := by decide +kernel
theorem dX3_heatRooms_30 : decode cX3_heatRooms 30 = .ok (.isub, 1) := by decide +kernel
theorem dX3_heatRooms_31 : decode cX3_heatRooms 31 = .ok (.istore_n 3, 1) := by decide +kernel
theorem dX3_heatRooms_32 : decode cX3_heatRooms 32 = .ok (.iload_n 2, 1) := by decide +kernel
theorem dX3_heatRooms_33 : decode cX3_heatRooms 33 = .ok (.aload_n 0, 1) := by decide +kernel
theorem dX3_heatRooms_34 : decode cX3_heatRooms 34 = .ok (.getfield 23, 3) := by decide +kernel
theorem dX3_heatRooms_37 : decode cX3_heatRooms 37 = .ok (.iload_n 1, 1) := by decide +kernel
theorem dX3_heatRooms_38 : decode cX3_heatRooms 38 = .ok (.aaload, 1) := by decide +kernel
theorem dX3_heatRooms_39 : decode cX3_heatRooms 39 = .ok (.getfield 116, 3) := by decide +kernel
theorem dX3_heatRooms_42 : decode cX3_heatRooms 42 = .ok (.if_icmp .ge 32, 3) := by decide +kernel
theorem dX3_heatRooms_45 : decode cX3_heatRooms 45 = .ok (.iload_n 3, 1) := by decide +kernel
theorem dX3_heatRooms_46 : decode cX3_heatRooms 46 = .ok (.ifCond .le 28, 3) := by decide +kernel
theorem dX3_heatRooms_49 : decode cX3_heatRooms 49 = .ok (.aload_n 0, 1) := by decide +kernel
theorem dX3_heatRooms_50 : decode cX3_heatRooms 50 = .ok (.iconst 1, 1) := by decide +kernel
theorem dX3_heatRooms_51 : decode cX3_heatRooms 51 = .ok (.iconst 2, 1) := by decide +kernel
theorem dX3_heatRooms_52 : decode cX3_heatRooms 52 = .ok (.iload_n 1, 1) := by decide +kernel
theorem dX3_heatRooms_53 : decode cX3_heatRooms 53 = .ok (.iadd, 1) := by decide +kernel
theorem dX3_heatRooms_54 : decode cX3_heatRooms 54 = .ok (.iconst 1, 1) := by decide +kernel
theorem dX3_heatRooms_55 : decode cX3_heatRooms 55 = .ok (.aload_n 0, 1) := by decide +kernel
theorem dX3_heatRooms_56 : decode cX3_heatRooms 56 = .ok (.getfield 23, 3) := by decide +kernel
theorem dX3_heatRooms_59 : decode cX3_heatRooms 59 = .ok (.iload_n 1, 1) := by decide +kernel
theorem dX3_heatRooms_60 : decode cX3_heatRooms 60 = .ok (.aaload, 1) := by decide +kernel
theorem dX3_heatRooms_61 : decode cX3_heatRooms 61 = .ok (.getfield 169, 3) := by decide +kernel
theorem dX3_heatRooms_64 : decode cX3_heatRooms 64 = .ok (.iload_n 3, 1) := by decide +kernel
theorem dX3_heatRooms_65 : decode cX3_heatRooms 65 = .ok (.imul, 1) := by decide +kernel
theorem dX3_heatRooms_66 : decode cX3_heatRooms 66 = .ok (.iconst 4, 1) := by decide +kernel
theorem dX3_heatRooms_67 : decode cX3_heatRooms 67 = .ok (.idiv, 1) := by decide +kernel
theorem dX3_heatRooms_68 : decode cX3_heatRooms 68 = .ok (.invokestatic 163, 3) := by decide +kernel
theorem dX3_heatRooms_71 : decode cX3_heatRooms 71 = .ok (.invokevirtual 97, 3) := by decide +kernel
theorem dX3_heatRooms_74 : decode cX3_heatRooms 74 = .ok (.iinc 1 1, 3) := by decide +kernel
theorem dX3_heatRooms_77 : decode cX3_heatRooms 77 = .ok (.goto (-75), 3) := by decide +kernel
theorem dX3_heatRooms_80 : decode cX3_heatRooms 80 = .ok (.return_, 1) := by decide +kernel
theorem dX3_leakRooms_0 : decode cX3_leakRooms 0 = .ok (.iconst 0, 1) := by decide +kernel
theorem dX3_leakRooms_1 : decode cX3_leakRooms 1 = .ok (.istore_n 1, 1) := by decide +kernel
theorem dX3_leakRooms_2 : decode cX3_leakRooms 2 = .ok (.iload_n 1, 1) := by decide +kernel
theorem dX3_leakRooms_3 : decode cX3_leakRooms 3 = .ok (.aload_n 0, 1) := by decide +kernel
theorem dX3_leakRooms_4 : decode cX3_leakRooms 4 = .ok (.getfield 64, 3) := by decide +kernel
theorem dX3_leakRooms_7 : decode cX3_leakRooms 7 = .ok (.if_icmp .ge 92, 3) := by decide +kernel
theorem dX3_leakRooms_10 : decode cX3_leakRooms 10 = .ok (.iload_n 1, 1) := by decide +kernel
theorem dX3_leakRooms_11 : decode cX3_leakRooms 11 = .ok (.bipush 6, 2) := by decide +kernel
theorem dX3_leakRooms_13 : decode cX3_leakRooms 13 = .ok (.if_icmp .ge 86, 3) := by decide +kernel
theorem dX3_leakRooms_16 : decode cX3_leakRooms 16 = .ok (.aload_n 0, 1) := by decide +kernel
theorem dX3_leakRooms_17 : decode cX3_leakRooms 17 = .ok (.getfield 23, 3) := by decide +kernel
theorem dX3_leakRooms_20 : decode cX3_leakRooms 20 = .ok (.iload_n 1, 1) := by decide +kernel
theorem dX3_leakRooms_21 : decode cX3_leakRooms 21 = .ok (.aaload, 1) := by decide +kernel
theorem dX3_leakRooms_22 : decode cX3_leakRooms 22 = .ok (.getfield 90, 3) := by decide +kernel
theorem dX3_leakRooms_25 : decode cX3_leakRooms 25 = .ok (.ifCond .eq 17, 3) := by decide +kernel
theorem dX3_leakRooms_28 : decode cX3_leakRooms 28 = .ok (.iconst 3, 1) := by decide +kernel
theorem dX3_leakRooms_29 : decode cX3_leakRooms 29 = .ok (.aload_n 0, 1) := by decide +kernel
theorem dX3_leakRooms_30 : decode cX3_leakRooms 30 = .ok (.getfield 23, 3) := by decide +kernel
theorem dX3_leakRooms_33 : decode cX3_leakRooms 33 = .ok (.iload_n 1, 1) := by decide +kernel
theorem dX3_leakRooms_34 : decode cX3_leakRooms 34 = .ok (.aaload, 1) := by decide +kernel
theorem dX3_leakRooms_35 : decode cX3_leakRooms 35 = .ok (.getfield 172, 3) := by decide +kernel
theorem dX3_leakRooms_38 : decode cX3_leakRooms 38 = .ok (.imul, 1) := by decide +kernel
theorem dX3_leakRooms_39 : decode cX3_leakRooms 39 = .ok (.goto 12, 3) := by decide +kernel
theorem dX3_leakRooms_42 : decode cX3_leakRooms 42 = .ok (.aload_n 0, 1) := by decide +kernel
theorem dX3_leakRooms_43 : decode cX3_leakRooms 43 = .ok (.getfield 23, 3) := by decide +kernel
theorem dX3_leakRooms_46 : decode cX3_leakRooms 46 = .ok (.iload_n 1, 1) := by decide +kernel
theorem dX3_leakRooms_47 : decode cX3_leakRooms 47 = .ok (.aaload, 1) := by decide +kernel
theorem dX3_leakRooms_48 : decode cX3_leakRooms 48 = .ok (.getfield 172, 3) := by decide +kernel
theorem dX3_leakRooms_51 : decode cX3_leakRooms 51 = .ok (.istore_n 2, 1) := by decide +kernel
theorem dX3_leakRooms_52 : decode cX3_leakRooms 52 = .ok (.iload_n 2, 1) := by decide +kernel
theorem dX3_leakRooms_53 : decode cX3_leakRooms 53 = .ok (.aload_n 0, 1) := by decide +kernel
theorem dX3_leakRooms_54 : decode cX3_leakRooms 54 = .ok (.iconst 2, 1) := by decide +kernel
theorem dX3_leakRooms_55 : decode cX3_leakRooms 55 = .ok (.iload_n 1, 1) := by decide +kernel
theorem dX3_leakRooms_56 : decode cX3_leakRooms 56 = .ok (.iadd, 1) := by decide +kernel
theorem dX3_leakRooms_57 : decode cX3_leakRooms 57 = .ok (.invokevirtual 112, 3) := by decide +kernel
theorem dX3_leakRooms_60 : decode cX3_leakRooms 60 = .ok (.aload_n 0, 1) := by decide +kernel
theorem dX3_leakRooms_61 : decode cX3_leakRooms 61 = .ok (.getfield 42, 3) := by decide +kernel
theorem dX3_leakRooms_64 : decode cX3_leakRooms 64 = .ok (.isub, 1) := by decide +kernel
theorem dX3_leakRooms_65 : decode cX3_leakRooms 65 = .ok (.imul, 1) := by decide +kernel
theorem dX3_leakRooms_66 : decode cX3_leakRooms 66 = .ok (.bipush 8, 2) := by decide +kernel
theorem dX3_leakRooms_68 : decode cX3_leakRooms 68 = .ok (.invokestatic 100, 3) := by decide +kernel
theorem dX3_leakRooms_71 : decode cX3_leakRooms 71 = .ok (.istore_n 3, 1) := by decide +kernel
theorem dX3_leakRooms_72 : decode cX3_leakRooms 72 = .ok (.aload_n 0, 1) := by decide +kernel
theorem dX3_leakRooms_73 : decode cX3_leakRooms 73 = .ok (.iconst 2, 1) := by decide +kernel
theorem dX3_leakRooms_74 : decode cX3_leakRooms 74 = .ok (.iload_n 1, 1) := by decide +kernel
theorem dX3_leakRooms_75 : decode cX3_leakRooms 75 = .ok (.iadd, 1) := by decide +kernel
theorem dX3_leakRooms_76 : decode cX3_leakRooms 76 = .ok (.bipush 8, 2) := by decide +kernel
theorem dX3_leakRooms_78 : decode cX3_leakRooms 78 = .ok (.iload_n 3, 1) := by decide +kernel
theorem dX3_leakRooms_79 : decode cX3_leakRooms 79 = .ok (.invokevirtual 97, 3) := by decide +kernel
theorem dX3_leakRooms_82 : decode cX3_leakRooms 82 = .ok (.aload_n 0, 1) := by decide +kernel
theorem dX3_leakRooms_83 : decode cX3_leakRooms 83 = .ok (.bipush 8, 2) := by decide +kernel
theorem dX3_leakRooms_85 : decode cX3_leakRooms 85 = .ok (.iconst 2, 1) := by decide +kernel
theorem dX3_leakRooms_86 : decode cX3_leakRooms 86 = .ok (.iload_n 1, 1) := by decide +kernel
theorem dX3_leakRooms_87 : decode cX3_leakRooms 87 = .ok (.iadd, 1) := by decide +kernel
theorem dX3_leakRooms_88 : decode cX3_leakRooms 88 = .ok (.iload_n 3, 1) := by decide +kernel
theorem dX3_leakRooms_89 : decode cX3_leakRooms 89 = .ok (.ineg, 1) := by decide +kernel
theorem dX3_leakRooms_90 : decode cX3_leakRooms 90 = .ok (.invokevirtual 97, 3) := by decide +kernel
theorem dX3_leakRooms_93 : decode cX3_leakRooms 93 = .ok (.iinc 1 1, 3) := by decide +kernel
theorem dX3_leakRooms_96 : decode cX3_leakRooms 96 = .ok (.goto (-94), 3) := by decide +kernel
theorem dX3_leakRooms_99 : decode cX3_leakRooms 99 = .ok (.return_, 1) := by decide +kernel
theorem dX3_judgeRooms_0 : decode cX3_judgeRooms 0 = .ok (.iconst 0, 1) := by decide +kernel
theorem dX3_judgeRooms_1 : decode cX3_judgeRooms 1 = .ok (.istore_n 1, 1) := by decide +kernel
theorem dX3_judgeRooms_2 : decode cX3_judgeRooms 2 = .ok (.iload_n 1, 1) := by decide +kernel
theorem dX3_judgeRooms_3 : decode cX3_judgeRooms 3 = .ok (.aload_n 0, 1) := by decide +kernel
theorem dX3_judgeRooms_4 : decode cX3_judgeRooms 4 = .ok (.getfield 64, 3) := by decide +kernel
theorem dX3_judgeRooms_7 : decode cX3_judgeRooms 7 = .ok (.if_icmp .ge 31, 3) := by decide +kernel
theorem dX3_judgeRooms_10 : decode cX3_judgeRooms 10 = .ok (.iload_n 1, 1) := by decide +kernel
theorem dX3_judgeRooms_11 : decode cX3_judgeRooms 11 = .ok (.bipush 6, 2) := by decide +kernel
theorem dX3_judgeRooms_13 : decode cX3_judgeRooms 13 = .ok (.if_icmp .ge 25, 3) := by decide +kernel
theorem dX3_judgeRooms_16 : decode cX3_judgeRooms 16 = .ok (.aload_n 0, 1) := by decide +kernel
theorem dX3_judgeRooms_17 : decode cX3_judgeRooms 17 = .ok (.getfield 23, 3) := by decide +kernel
theorem dX3_judgeRooms_20 : decode cX3_judgeRooms 20 = .ok (.iload_n 1, 1) := by decide +kernel
theorem dX3_judgeRooms_21 : decode cX3_judgeRooms 21 = .ok (.aaload, 1) := by decide +kernel
theorem dX3_judgeRooms_22 : decode cX3_judgeRooms 22 = .ok (.aload_n 0, 1) := by decide +kernel
theorem dX3_judgeRooms_23 : decode cX3_judgeRooms 23 = .ok (.iconst 2, 1) := by decide +kernel
theorem dX3_judgeRooms_24 : decode cX3_judgeRooms 24 = .ok (.iload_n 1, 1) := by decide +kernel
theorem dX3_judgeRooms_25 : decode cX3_judgeRooms 25 = .ok (.iadd, 1) := by decide +kernel
theorem dX3_judgeRooms_26 : decode cX3_judgeRooms 26 = .ok (.invokevirtual 112, 3) := by decide +kernel
theorem dX3_judgeRooms_29 : decode cX3_judgeRooms 29 = .ok (.invokevirtual 175, 3) := by decide +kernel
theorem dX3_judgeRooms_32 : decode cX3_judgeRooms 32 = .ok (.iinc 1 1, 3) := by decide +kernel
theorem dX3_judgeRooms_35 : decode cX3_judgeRooms 35 = .ok (.goto (-33), 3) := by decide +kernel
theorem dX3_judgeRooms_38 : decode cX3_judgeRooms 38 = .ok (.return_, 1) := by decide +kernel
theorem dX3_move_0 : decode cX3_move 0 = .ok (.iload_n 3, 1) := by decide +kernel
theorem dX3_move_1 : decode cX3_move 1 = .ok (.ifCond .gt 4, 3) := by decide +kernel
theorem dX3_move_4 : decode cX3_move 4 = .ok (.return_, 1) := by decide +kernel
theorem dX3_move_5 : decode cX3_move 5 = .ok (.aload_n 0, 1) := by decide +kernel
theorem dX3_move_6 : decode cX3_move 6 = .ok (.iload_n 1, 1) := by decide +kernel
theorem dX3_move_7 : decode cX3_move 7 = .ok (.iload_n 3, 1) := by decide +kernel
theorem dX3_move_8 : decode cX3_move 8 = .ok (.ineg, 1) := by decide +kernel
theorem dX3_move_9 : decode cX3_move 9 = .ok (.invokevirtual 179, 3) := by decide +kernel
theorem dX3_move_12 : decode cX3_move 12 = .ok (.aload_n 0, 1) := by decide +kernel
theorem dX3_move_13 : decode cX3_move 13 = .ok (.iload_n 2, 1) := by decide +kernel
theorem dX3_move_14 : decode cX3_move 14 = .ok (.iload_n 3, 1) := by decide +kernel
theorem dX3_move_15 : decode cX3_move 15 = .ok (.invokevirtual 179, 3) := by decide +kernel
theorem dX3_move_18 : decode cX3_move 18 = .ok (.aload_n 0, 1) := by decide +kernel
theorem dX3_move_19 : decode cX3_move 19 = .ok (.getfield 30, 3) := by decide +kernel
theorem dX3_move_22 : decode cX3_move 22 = .ok (.iload_n 1, 1) := by decide +kernel
theorem dX3_move_23 : decode cX3_move 23 = .ok (.iload_n 2, 1) := by decide +kernel
theorem dX3_move_24 : decode cX3_move 24 = .ok (.iload_n 3, 1) := by decide +kernel
theorem dX3_move_25 : decode cX3_move 25 = .ok (.invokevirtual 183, 3) := by decide +kernel
theorem dX3_move_28 : decode cX3_move 28 = .ok (.return_, 1) := by decide +kernel
theorem dX3_addHeat_0 : decode cX3_addHeat 0 = .ok (.iload_n 1, 1) := by decide +kernel
theorem dX3_addHeat_1 : decode cX3_addHeat 1 = .ok (.ifCond .lt 19, 3) := by decide +kernel
theorem dX3_addHeat_4 : decode cX3_addHeat 4 = .ok (.iload_n 1, 1) := by decide +kernel
theorem dX3_addHeat_5 : decode cX3_addHeat 5 = .ok (.bipush 8, 2) := by decide +kernel
theorem dX3_addHeat_7 : decode cX3_addHeat 7 = .ok (.if_icmp .ge 13, 3) := by decide +kernel
theorem dX3_addHeat_10 : decode cX3_addHeat 10 = .ok (.aload_n 0, 1) := by decide +kernel
theorem dX3_addHeat_11 : decode cX3_addHeat 11 = .ok (.getfield 15, 3) := by decide +kernel
theorem dX3_addHeat_14 : decode cX3_addHeat 14 = .ok (.iload_n 1, 1) := by decide +kernel
theorem dX3_addHeat_15 : decode cX3_addHeat 15 = .ok (.dup2, 1) := by decide +kernel
theorem dX3_addHeat_16 : decode cX3_addHeat 16 = .ok (.iaload, 1) := by decide +kernel
theorem dX3_addHeat_17 : decode cX3_addHeat 17 = .ok (.iload_n 2, 1) := by decide +kernel
theorem dX3_addHeat_18 : decode cX3_addHeat 18 = .ok (.iadd, 1) := by decide +kernel
theorem dX3_addHeat_19 : decode cX3_addHeat 19 = .ok (.iastore, 1) := by decide +kernel
theorem dX3_addHeat_20 : decode cX3_addHeat 20 = .ok (.return_, 1) := by decide +kernel
theorem dX4_init_0 : decode cX4_init 0 = .ok (.aload_n 0, 1) := by decide +kernel
theorem dX4_init_1 : decode cX4_init 1 = .ok (.invokespecial 3, 3) := by decide +kernel
theorem dX4_init_4 : decode cX4_init 4 = .ok (.aload_n 0, 1) := by decide +kernel
theorem dX4_init_5 : decode cX4_init 5 = .ok (.aload_n 1, 1) := by decide +kernel
theorem dX4_init_6 : decode cX4_init 6 = .ok (.putfield 9, 3) := by decide +kernel
theorem dX4_init_9 : decode cX4_init 9 = .ok (.aload_n 0, 1) := by decide +kernel
theorem dX4_init_10 : decode cX4_init 10 = .ok (.iload_n 2, 1) := by decide +kernel
theorem dX4_init_11 : decode cX4_init 11 = .ok (.putfield 15, 3) := by decide +kernel
theorem dX4_init_14 : decode cX4_init 14 = .ok (.return_, 1) := by decide +kernel
theorem dX4_readInto_0 : decode cX4_readInto 0 = .ok (.aload_n 1, 1) := by decide +kernel
theorem dX4_readInto_1 : decode cX4_readInto 1 = .ok (.invokevirtual 19, 3) := by decide +kernel
theorem dX4_readInto_4 : decode cX4_readInto 4 = .ok (.aload_n 0, 1) := by decide +kernel
theorem dX4_readInto_5 : decode cX4_readInto 5 = .ok (.aload_n 1, 1) := by decide +kernel
theorem dX4_readInto_6 : decode cX4_readInto 6 = .ok (.invokevirtual 24, 3) := by decide +kernel
theorem dX4_readInto_9 : decode cX4_readInto 9 = .ok (.ifCond .ne 5, 3) := by decide +kernel
theorem dX4_readInto_12 : decode cX4_readInto 12 = .ok (.iconst 0, 1) := by decide +kernel
theorem dX4_readInto_13 : decode cX4_readInto 13 = .ok (.ireturn, 1) := by decide +kernel
theorem dX4_readInto_14 : decode cX4_readInto 14 = .ok (.iconst 0, 1) := by decide +kernel
theorem dX4_readInto_15 : decode cX4_readInto 15 = .ok (.istore_n 2, 1) := by decide +kernel
theorem dX4_readInto_16 : decode cX4_readInto 16 = .ok (.iload_n 2, 1) := by decide +kernel
theorem dX4_readInto_17 : decode cX4_readInto 17 = .ok (.bipush 80, 2) := by decide +kernel
theorem dX4_readInto_19 : decode cX4_readInto 19 = .ok (.if_icmp .ge 30, 3) := by decide +kernel
theorem dX4_readInto_22 : decode cX4_readInto 22 = .ok (.aload_n 0, 1) := by decide +kernel
theorem dX4_readInto_23 : decode cX4_readInto 23 = .ok (.getfield 28, 3) := by decide +kernel
theorem dX4_readInto_26 : decode cX4_readInto 26 = .ok (.aload_n 0, 1) := by decide +kernel
theorem dX4_readInto_27 : decode cX4_readInto 27 = .ok (.getfield 15, 3) := by decide +kernel
theorem dX4_readInto_30 : decode cX4_readInto 30 = .ok (.if_icmp .ge 19, 3) := by decide +kernel
theorem dX4_readInto_33 : decode cX4_readInto 33 = .ok (.aload_n 0, 1) := by decide +kernel
theorem dX4_readInto_34 : decode cX4_readInto 34 = .ok (.aload_n 1, 1) := by decide +kernel
theorem dX4_readInto_35 : decode cX4_readInto 35 = .ok (.invokevirtual 31, 3) := by decide +kernel
theorem dX4_readInto_38 : decode cX4_readInto 38 = .ok (.ifCond .ne 5, 3) := by decide +kernel
theorem dX4_readInto_41 : decode cX4_readInto 41 = .ok (.iconst 0, 1) := by decide +kernel
theorem dX4_readInto_42 : decode cX4_readInto 42 = .ok (.ireturn, 1) := by decide +kernel
theorem dX4_readInto_43 : decode cX4_readInto 43 = .ok (.iinc 2 1, 3) := by decide +kernel
theorem dX4_readInto_46 : decode cX4_readInto 46 = .ok (.goto (-30), 3) := by decide +kernel
theorem dX4_readInto_49 : decode cX4_readInto 49 = .ok (.aload_n 0, 1) := by decide +kernel
theorem dX4_readInto_50 : decode cX4_readInto 50 = .ok (.getfield 28, 3) := by decide +kernel
theorem dX4_readInto_53 : decode cX4_readInto 53 = .ok (.aload_n 0, 1) := by decide +kernel
theorem dX4_readInto_54 : decode cX4_readInto 54 = .ok (.getfield 15, 3) := by decide +kernel
theorem dX4_readInto_57 : decode cX4_readInto 57 = .ok (.if_icmp .ne 7, 3) := by decide +kernel
theorem dX4_readInto_60 : decode cX4_readInto 60 = .ok (.iconst 1, 1) := by decide +kernel
theorem dX4_readInto_61 : decode cX4_readInto 61 = .ok (.goto 4, 3) := by decide +kernel
theorem dX4_readInto_64 : decode cX4_readInto 64 = .ok (.iconst 0, 1) := by decide +kernel
theorem dX4_readInto_65 : decode cX4_readInto 65 = .ok (.ireturn, 1) := by decide +kernel
theorem dX4_readHead_0 : decode cX4_readHead 0 = .ok (.aload_n 0, 1) := by decide +kernel
theorem dX4_readHead_1 : decode cX4_readHead 1 = .ok (.invokevirtual 34, 3) := by decide +kernel
theorem dX4_readHead_4 : decode cX4_readHead 4 = .ok (.bipush 77, 2) := by decide +kernel
theorem dX4_readHead_6 : decode cX4_readHead 6 = .ok (.if_icmp .eq 5, 3) := by decide +kernel
theorem dX4_readHead_9 : decode cX4_readHead 9 = .ok (.iconst 0, 1) := by decide +kernel
theorem dX4_readHead_10 : decode cX4_readHead 10 = .ok (.ireturn, 1) := by decide +kernel
theorem dX4_readHead_11 : decode cX4_readHead 11 = .ok (.aload_n 0, 1) := by decide +kernel
theorem dX4_readHead_12 : decode cX4_readHead 12 = .ok (.dup, 1) := by decide +kernel
theorem dX4_readHead_13 : decode cX4_readHead 13 = .ok (.getfield 28, 3) := by decide +kernel
theorem dX4_readHead_16 : decode cX4_readHead 16 = .ok (.iconst 1, 1) := by decide +kernel
theorem dX4_readHead_17 : decode cX4_readHead 17 = .ok (.iadd, 1) := by decide +kernel
theorem dX4_readHead_18 : decode cX4_readHead 18 = .ok (.putfield 28, 3) := by decide +kernel
theorem dX4_readHead_21 : decode cX4_readHead 21 = .ok (.aload_n 0, 1) := by decide +kernel
theorem dX4_readHead_22 : decode cX4_readHead 22 = .ok (.aload_n 1, 1) := by decide +kernel
theorem dX4_readHead_23 : decode cX4_readHead 23 = .ok (.iconst 0, 1) := by decide +kernel
theorem dX4_readHead_24 : decode cX4_readHead 24 = .ok (.iconst 3, 1) := by decide +kernel
theorem dX4_readHead_25 : decode cX4_readHead 25 = .ok (.invokevirtual 38, 3) := by decide +kernel
theorem dX4_readHead_28 : decode cX4_readHead 28 = .ok (.ifCond .eq 17, 3) := by decide +kernel
theorem dX4_readHead_31 : decode cX4_readHead 31 = .ok (.aload_n 0, 1) := by decide +kernel
theorem dX4_readHead_32 : decode cX4_readHead 32 = .ok (.aload_n 1, 1) := by decide +kernel
theorem dX4_readHead_33 : decode cX4_readHead 33 = .ok (.iconst 1, 1) := by decide +kernel
theorem dX4_readHead_34 : decode cX4_readHead 34 = .ok (.iconst 2, 1) := by decide +kernel
theorem dX4_readHead_35 : decode cX4_readHead 35 = .ok (.invokevirtual 38, 3) := by decide +kernel
theorem dX4_readHead_38 : decode cX4_readHead 38 = .ok (.ifCond .eq 7, 3) := by decide +kernel
theorem dX4_readHead_41 : decode cX4_readHead 41 = .ok (.iconst 1, 1) := by decide +kernel
theorem dX4_readHead_42 : decode cX4_readHead 42 = .ok (.goto 4, 3) := by decide +kernel
theorem dX4_readHead_45 : decode cX4_readHead 45 = .ok (.iconst 0, 1) := by decide +kernel
theorem dX4_readHead_46 : decode cX4_readHead 46 = .ok (.ireturn, 1) := by decide +kernel
theorem dX4_readPart_0 : decode cX4_readPart 0 = .ok (.aload_n 0, 1) := by decide +kernel
theorem dX4_readPart_1 : decode cX4_readPart 1 = .ok (.invokevirtual 34, 3) := by decide +kernel
theorem dX4_readPart_4 : decode cX4_readPart 4 = .ok (.istore_n 2, 1) := by decide +kernel
theorem dX4_readPart_5 : decode cX4_readPart 5 = .ok (.iload_n 2, 1) := by decide +kernel
theorem dX4_readPart_6 : decode cX4_readPart 6 = .ok (.bipush 114, 2) := by decide +kernel
theorem dX4_readPart_8 : decode cX4_readPart 8 = .ok (.if_icmp .ne 26, 3) := by decide +kernel
theorem dX4_readPart_11 : decode cX4_readPart 11 = .ok (.aload_n 1, 1) := by decide +kernel
theorem dX4_readPart_12 : decode cX4_readPart 12 = .ok (.invokevirtual 42, 3) := by decide +kernel
theorem dX4_readPart_15 : decode cX4_readPart 15 = .ok (.ifCond .ne 19, 3) := by decide +kernel
theorem dX4_readPart_18 : decode cX4_readPart 18 = .ok (.aload_n 0, 1) := by decide +kernel
theorem dX4_readPart_19 : decode cX4_readPart 19 = .ok (.dup, 1) := by decide +kernel
theorem dX4_readPart_20 : decode cX4_readPart 20 = .ok (.getfield 28, 3) := by decide +kernel
theorem dX4_readPart_23 : decode cX4_readPart 23 = .ok (.iconst 1, 1) := by decide +kernel
theorem dX4_readPart_24 : decode cX4_readPart 24 = .ok (.iadd, 1) := by decide +kernel
theorem dX4_readPart_25 : decode cX4_readPart 25 = .ok (.putfield 28, 3) := by decide +kernel
theorem dX4_readPart_28 : decode cX4_readPart 28 = .ok (.aload_n 0, 1) := by decide +kernel
theorem dX4_readPart_29 : decode cX4_readPart 29 = .ok (.aload_n 1, 1) := by decide +kernel
theorem dX4_readPart_30 : decode cX4_readPart 30 = .ok (.invokevirtual 46, 3) := by decide +kernel
theorem dX4_readPart_33 : decode cX4_readPart 33 = .ok (.ireturn, 1) := by decide +kernel
theorem dX4_readPart_34 : decode cX4_readPart 34 = .ok (.iload_n 2, 1) := by decide +kernel
theorem dX4_readPart_35 : decode cX4_readPart 35 = .ok (.bipush 111, 2) := by decide +kernel
theorem dX4_readPart_37 : decode cX4_readPart 37 = .ok (.if_icmp .ne 19, 3) := by decide +kernel
theorem dX4_readPart_40 : decode cX4_readPart 40 = .ok (.aload_n 0, 1) := by decide +kernel
theorem dX4_readPart_41 : decode cX4_readPart 41 = .ok (.dup, 1) := by decide +kernel
theorem dX4_readPart_42 : decode cX4_readPart 42 = .ok (.getfield 28, 3) := by decide +kernel
theorem dX4_readPart_45 : decode cX4_readPart 45 = .ok (.iconst 1, 1) := by decide +kernel
theorem dX4_readPart_46 : decode cX4_readPart 46 = .ok (.iadd, 1) := by decide +kernel
theorem dX4_readPart_47 : decode cX4_readPart 47 = .ok (.putfield 28, 3) := by decide +kernel
theorem dX4_readPart_50 : decode cX4_readPart 50 = .ok (.aload_n 0, 1) := by decide +kernel
theorem dX4_readPart_51 : decode cX4_readPart 51 = .ok (.aload_n 1, 1) := by decide +kernel
theorem dX4_readPart_52 : decode cX4_readPart 52 = .ok (.invokevirtual 49, 3) := by decide +kernel
theorem dX4_readPart_55 : decode cX4_readPart 55 = .ok (.ireturn, 1) := by decide +kernel
theorem dX4_readPart_56 : decode cX4_readPart 56 = .ok (.iload_n 2, 1) := by decide +kernel
theorem dX4_readPart_57 : decode cX4_readPart 57 = .ok (.bipush 115, 2) := by decide +kernel
theorem dX4_readPart_59 : decode cX4_readPart 59 = .ok (.if_icmp .ne 43, 3) := by decide +kernel
theorem dX4_readPart_62 : decode cX4_readPart 62 = .ok (.aload_n 0, 1) := by decide +kernel
theorem dX4_readPart_63 : decode cX4_readPart 63 = .ok (.dup, 1) := by decide +kernel
theorem dX4_readPart_64 : decode cX4_readPart 64 = .ok (.getfield 28, 3) := by decide +kernel
theorem dX4_readPart_67 : decode cX4_readPart 67 = .ok (.iconst 1, 1) := by decide +kernel
theorem dX4_readPart_68 : decode cX4_readPart 68 = .ok (.iadd, 1) := by decide +kernel
theorem dX4_readPart_69 : decode cX4_readPart 69 = .ok (.putfield 28, 3) := by decide +kernel
theorem dX4_readPart_72 : decode cX4_readPart 72 = .ok (.aload_n 0, 1) := by decide +kernel
theorem dX4_readPart_73 : decode cX4_readPart 73 = .ok (.iconst 1, 1) := by decide +kernel
theorem dX4_readPart_74 : decode cX4_readPart 74 = .ok (.iconst 2, 1) := by decide +kernel
theorem dX4_readPart_75 : decode cX4_readPart 75 = .ok (.bipush 8, 2) := by decide +kernel
theorem dX4_readPart_77 : decode cX4_readPart 77 = .ok (.invokevirtual 52, 3) := by decide +kernel
theorem dX4_readPart_80 : decode cX4_readPart 80 = .ok (.istore_n 3, 1) := by decide +kernel
theorem dX4_readPart_81 : decode cX4_readPart 81 = .ok (.iload_n 3, 1) := by decide +kernel
theorem dX4_readPart_82 : decode cX4_readPart 82 = .ok (.iconst (-1), 1) := by decide +kernel
theorem dX4_readPart_83 : decode cX4_readPart 83 = .ok (.if_icmp .eq 17, 3) := by decide +kernel
theorem dX4_readPart_86 : decode cX4_readPart 86 = .ok (.aload_n 0, 1) := by decide +kernel
theorem dX4_readPart_87 : decode cX4_readPart 87 = .ok (.aload_n 1, 1) := by decide +kernel
theorem dX4_readPart_88 : decode cX4_readPart 88 = .ok (.iload_n 3, 1) := by decide +kernel
theorem dX4_readPart_89 : decode cX4_readPart 89 = .ok (.iconst 2, 1) := by decide +kernel
theorem dX4_readPart_90 : decode cX4_readPart 90 = .ok (.invokevirtual 38, 3) := by decide +kernel
theorem dX4_readPart_93 : decode cX4_readPart 93 = .ok (.ifCond .eq 7, 3) := by decide +kernel
theorem dX4_readPart_96 : decode cX4_readPart 96 = .ok (.iconst 1, 1) := by decide +kernel
theorem dX4_readPart_97 : decode cX4_readPart 97 = .ok (.goto 4, 3) := by decide +kernel
theorem dX4_readPart_100 : decode cX4_readPart 100 = .ok (.iconst 0, 1) := by decide +kernel
theorem dX4_readPart_101 : decode cX4_readPart 101 = .ok (.ireturn, 1) := by decide +kernel
theorem dX4_readPart_102 : decode cX4_readPart 102 = .ok (.iconst 0, 1) := by decide +kernel
theorem dX4_readPart_103 : decode cX4_readPart 103 = .ok (.ireturn, 1) := by decide +kernel
theorem dX4_readSetting_0 : decode cX4_readSetting 0 = .ok (.aload_n 0, 1) := by decide +kernel
theorem dX4_readSetting_1 : decode cX4_readSetting 1 = .ok (.iload_n 3, 1) := by decide +kernel
theorem dX4_readSetting_2 : decode cX4_readSetting 2 = .ok (.iload_n 2, 1) := by decide +kernel
theorem dX4_readSetting_3 : decode cX4_readSetting 3 = .ok (.invokestatic 56, 3) := by decide +kernel
theorem dX4_readSetting_6 : decode cX4_readSetting 6 = .ok (.iload_n 2, 1) := by decide +kernel
theorem dX4_readSetting_7 : decode cX4_readSetting 7 = .ok (.invokestatic 60, 3) := by decide +kernel
theorem dX4_readSetting_10 : decode cX4_readSetting 10 = .ok (.invokevirtual 52, 3) := by decide +kernel
theorem dX4_readSetting_13 : decode cX4_readSetting 13 = .ok (.istore 4, 2) := by decide +kernel
theorem dX4_readSetting_15 : decode cX4_readSetting 15 = .ok (.iload 4, 2) := by decide +kernel
theorem dX4_readSetting_17 : decode cX4_readSetting 17 = .ok (.iconst (-1), 1) := by decide +kernel
theorem dX4_readSetting_18 : decode cX4_readSetting 18 = .ok (.if_icmp .ne 5, 3) := by decide +kernel
theorem dX4_readSetting_21 : decode cX4_readSetting 21 = .ok (.iconst 0, 1) := by decide +kernel
theorem dX4_readSetting_22 : decode cX4_readSetting 22 = .ok (.ireturn, 1) := by decide +kernel
theorem dX4_readSetting_23 : decode cX4_readSetting 23 = .ok (.aload_n 1, 1) := by decide +kernel
theorem dX4_readSetting_24 : decode cX4_readSetting 24 = .ok (.iload_n 2, 1) := by decide +kernel
theorem dX4_readSetting_25 : decode cX4_readSetting 25 = .ok (.iload 4, 2) := by decide +kernel
theorem dX4_readSetting_27 : decode cX4_readSetting 27 = .ok (.invokevirtual 63, 3) := by decide +kernel
theorem dX4_readSetting_30 : decode cX4_readSetting 30 = .ok (.iconst 1, 1) := by decide +kernel
theorem dX4_readSetting_31 : decode cX4_readSetting 31 = .ok (.ireturn, 1) := by decide +kernel
theorem dX4_readRoom_0 : decode cX4_readRoom 0 = .ok (.aload_n 0, 1) := by decide +kernel
theorem dX4_readRoom_1 : decode cX4_readRoom 1 = .ok (.iconst 1, 1) := by decide +kernel
theorem dX4_readRoom_2 : decode cX4_readRoom 2 = .ok (.iconst 1, 1) := by decide +kernel
theorem dX4_readRoom_3 : decode cX4_readRoom 3 = .ok (.bipush 9, 2) := by decide +kernel
theorem dX4_readRoom_5 : decode cX4_readRoom 5 = .ok (.invokevirtual 52, 3) := by decide +kernel
theorem dX4_readRoom_8 : decode cX4_readRoom 8 = .ok (.istore_n 2, 1) := by decide +kernel
theorem dX4_readRoom_9 : decode cX4_readRoom 9 = .ok (.iload_n 2, 1) := by decide +kernel
theorem dX4_readRoom_10 : decode cX4_readRoom 10 = .ok (.iconst (-1), 1) := by decide +kernel
theorem dX4_readRoom_11 : decode cX4_readRoom 11 = .ok (.if_icmp .ne 7, 3) := by decide +kernel
theorem dX4_readRoom_14 : decode cX4_readRoom 14 = .ok (.iconst (-1), 1) := by decide +kernel
theorem dX4_readRoom_15 : decode cX4_readRoom 15 = .ok (.goto 12, 3) := by decide +kernel
theorem dX4_readRoom_18 : decode cX4_readRoom 18 = .ok (.aload_n 0, 1) := by decide +kernel
theorem dX4_readRoom_19 : decode cX4_readRoom 19 = .ok (.iconst 2, 1) := by decide +kernel
theorem dX4_readRoom_20 : decode cX4_readRoom 20 = .ok (.bipush 10, 2) := by decide +kernel
theorem dX4_readRoom_22 : decode cX4_readRoom 22 = .ok (.bipush 25, 2) := by decide +kernel
theorem dX4_readRoom_24 : decode cX4_readRoom 24 = .ok (.invokevirtual 52, 3) := by decide +kernel
theorem dX4_readRoom_27 : decode cX4_readRoom 27 = .ok (.istore_n 3, 1) := by decide +kernel
theorem dX4_readRoom_28 : decode cX4_readRoom 28 = .ok (.iload_n 3, 1) := by decide +kernel
theorem dX4_readRoom_29 : decode cX4_readRoom 29 = .ok (.iconst (-1), 1) := by decide +kernel
theorem dX4_readRoom_30 : decode cX4_readRoom 30 = .ok (.if_icmp .ne 7, 3) := by decide +kernel
theorem dX4_readRoom_33 : decode cX4_readRoom 33 = .ok (.iconst (-1), 1) := by decide +kernel
theorem dX4_readRoom_34 : decode cX4_readRoom 34 = .ok (.goto 11, 3) := by decide +kernel
theorem dX4_readRoom_37 : decode cX4_readRoom 37 = .ok (.aload_n 0, 1) := by decide +kernel
theorem dX4_readRoom_38 : decode cX4_readRoom 38 = .ok (.iconst 1, 1) := by decide +kernel
theorem dX4_readRoom_39 : decode cX4_readRoom 39 = .ok (.iconst 1, 1) := by decide +kernel
theorem dX4_readRoom_40 : decode cX4_readRoom 40 = .ok (.bipush 9, 2) := by decide +kernel
theorem dX4_readRoom_42 : decode cX4_readRoom 42 = .ok (.invokevirtual 52, 3) := by decide +kernel
theorem dX4_readRoom_45 : decode cX4_readRoom 45 = .ok (.istore 4, 2) := by decide +kernel
theorem dX4_readRoom_47 : decode cX4_readRoom 47 = .ok (.iload 4, 2) := by decide +kernel
theorem dX4_readRoom_49 : decode cX4_readRoom 49 = .ok (.iconst (-1), 1) := by decide +kernel
theorem dX4_readRoom_50 : decode cX4_readRoom 50 = .ok (.if_icmp .ne 7, 3) := by decide +kernel
theorem dX4_readRoom_53 : decode cX4_readRoom 53 = .ok (.iconst (-1), 1) := by decide +kernel
theorem dX4_readRoom_54 : decode cX4_readRoom 54 = .ok (.goto 11, 3) := by decide +kernel
theorem dX4_readRoom_57 : decode cX4_readRoom 57 = .ok (.aload_n 0, 1) := by decide +kernel
theorem dX4_readRoom_58 : decode cX4_readRoom 58 = .ok (.iconst 1, 1) := by decide +kernel
theorem dX4_readRoom_59 : decode cX4_readRoom 59 = .ok (.iconst 0, 1) := by decide +kernel
theorem dX4_readRoom_60 : decode cX4_readRoom 60 = .ok (.bipush 9, 2) := by decide +kernel
theorem dX4_readRoom_62 : decode cX4_readRoom 62 = .ok (.invokevirtual 52, 3) := by decide +kernel
theorem dX4_readRoom_65 : decode cX4_readRoom 65 = .ok (.istore 5, 2) := by decide +kernel
theorem dX4_readRoom_67 : decode cX4_readRoom 67 = .ok (.iload 5, 2) := by decide +kernel
theorem dX4_readRoom_69 : decode cX4_readRoom 69 = .ok (.iconst (-1), 1) := by decide +kernel
theorem dX4_readRoom_70 : decode cX4_readRoom 70 = .ok (.if_icmp .ne 5, 3) := by decide +kernel
theorem dX4_readRoom_73 : decode cX4_readRoom 73 = .ok (.iconst 0, 1) := by decide +kernel
theorem dX4_readRoom_74 : decode cX4_readRoom 74 = .ok (.ireturn, 1) := by decide +kernel
theorem dX4_readRoom_75 : decode cX4_readRoom 75 = .ok (.aload_n 1, 1) := by decide +kernel
theorem dX4_readRoom_76 : decode cX4_readRoom 76 = .ok (.iload_n 2, 1) := by decide +kernel
theorem dX4_readRoom_77 : decode cX4_readRoom 77 = .ok (.iload_n 3, 1) := by decide +kernel
theorem dX4_readRoom_78 : decode cX4_readRoom 78 = .ok (.iload 4, 2) := by decide +kernel
theorem dX4_readRoom_80 : decode cX4_readRoom 80 = .ok (.iload 5, 2) := by decide +kernel
theorem dX4_readRoom_82 : decode cX4_readRoom 82 = .ok (.invokevirtual 67, 3) := by decide +kernel
theorem dX4_readRoom_85 : decode cX4_readRoom 85 = .ok (.iconst 1, 1) := by decide +kernel
theorem dX4_readRoom_86 : decode cX4_readRoom 86 = .ok (.ireturn, 1) := by decide +kernel
