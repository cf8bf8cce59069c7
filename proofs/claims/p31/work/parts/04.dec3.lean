theorem dL_o_0 : decode cL_o 0 = .ok (.iload_n 1, 1) := by decide +kernel
theorem dL_o_1 : decode cL_o 1 = .ok (.ifCond .eq 10, 3) := by decide +kernel
theorem dL_o_4 : decode cL_o 4 = .ok (.aload_n 0, 1) := by decide +kernel
theorem dL_o_5 : decode cL_o 5 = .ok (.invokevirtual 203, 3) := by decide +kernel
theorem dL_o_8 : decode cL_o 8 = .ok (.goto 7, 3) := by decide +kernel
theorem dL_o_11 : decode cL_o 11 = .ok (.aload_n 0, 1) := by decide +kernel
theorem dL_o_12 : decode cL_o 12 = .ok (.invokevirtual 206, 3) := by decide +kernel
theorem dL_o_15 : decode cL_o 15 = .ok (.ireturn, 1) := by decide +kernel
theorem dL_alike_0 : decode cL_alike 0 = .ok (.iload_n 2, 1) := by decide +kernel
theorem dL_alike_1 : decode cL_alike 1 = .ok (.bipush 40, 2) := by decide +kernel
theorem dL_alike_3 : decode cL_alike 3 = .ok (.irem, 1) := by decide +kernel
theorem dL_alike_4 : decode cL_alike 4 = .ok (.istore_n 3, 1) := by decide +kernel
theorem dL_alike_5 : decode cL_alike 5 = .ok (.aload_n 0, 1) := by decide +kernel
theorem dL_alike_6 : decode cL_alike 6 = .ok (.invokestatic 123, 3) := by decide +kernel
theorem dL_alike_9 : decode cL_alike 9 = .ok (.aload_n 1, 1) := by decide +kernel
theorem dL_alike_10 : decode cL_alike 10 = .ok (.invokestatic 123, 3) := by decide +kernel
theorem dL_alike_13 : decode cL_alike 13 = .ok (.lcmp, 1) := by decide +kernel
theorem dL_alike_14 : decode cL_alike 14 = .ok (.ifCond .ne 172, 3) := by decide +kernel
theorem dL_alike_17 : decode cL_alike 17 = .ok (.aload_n 0, 1) := by decide +kernel
theorem dL_alike_18 : decode cL_alike 18 = .ok (.invokevirtual 209, 3) := by decide +kernel
theorem dL_alike_21 : decode cL_alike 21 = .ok (.aload_n 1, 1) := by decide +kernel
theorem dL_alike_22 : decode cL_alike 22 = .ok (.invokevirtual 209, 3) := by decide +kernel
theorem dL_alike_25 : decode cL_alike 25 = .ok (.if_icmp .ne 161, 3) := by decide +kernel
theorem dL_alike_28 : decode cL_alike 28 = .ok (.aload_n 0, 1) := by decide +kernel
theorem dL_alike_29 : decode cL_alike 29 = .ok (.invokevirtual 203, 3) := by decide +kernel
theorem dL_alike_32 : decode cL_alike 32 = .ok (.aload_n 1, 1) := by decide +kernel
theorem dL_alike_33 : decode cL_alike 33 = .ok (.invokevirtual 203, 3) := by decide +kernel
theorem dL_alike_36 : decode cL_alike 36 = .ok (.if_icmp .ne 150, 3) := by decide +kernel
theorem dL_alike_39 : decode cL_alike 39 = .ok (.aload_n 0, 1) := by decide +kernel
theorem dL_alike_40 : decode cL_alike 40 = .ok (.invokevirtual 206, 3) := by decide +kernel
theorem dL_alike_43 : decode cL_alike 43 = .ok (.aload_n 1, 1) := by decide +kernel
theorem dL_alike_44 : decode cL_alike 44 = .ok (.invokevirtual 206, 3) := by decide +kernel
theorem dL_alike_47 : decode cL_alike 47 = .ok (.if_icmp .ne 139, 3) := by decide +kernel
theorem dL_alike_50 : decode cL_alike 50 = .ok (.aload_n 0, 1) := by decide +kernel
theorem dL_alike_51 : decode cL_alike 51 = .ok (.iload_n 2, 1) := by decide +kernel
theorem dL_alike_52 : decode cL_alike 52 = .ok (.iconst 4, 1) := by decide +kernel
theorem dL_alike_53 : decode cL_alike 53 = .ok (.irem, 1) := by decide +kernel
theorem dL_alike_54 : decode cL_alike 54 = .ok (.iload_n 3, 1) := by decide +kernel
theorem dL_alike_55 : decode cL_alike 55 = .ok (.invokestatic 144, 3) := by decide +kernel
theorem dL_alike_58 : decode cL_alike 58 = .ok (.aload_n 1, 1) := by decide +kernel
theorem dL_alike_59 : decode cL_alike 59 = .ok (.iload_n 2, 1) := by decide +kernel
theorem dL_alike_60 : decode cL_alike 60 = .ok (.iconst 4, 1) := by decide +kernel
theorem dL_alike_61 : decode cL_alike 61 = .ok (.irem, 1) := by decide +kernel
theorem dL_alike_62 : decode cL_alike 62 = .ok (.iload_n 3, 1) := by decide +kernel
theorem dL_alike_63 : decode cL_alike 63 = .ok (.invokestatic 144, 3) := by decide +kernel
theorem dL_alike_66 : decode cL_alike 66 = .ok (.lcmp, 1) := by decide +kernel
theorem dL_alike_67 : decode cL_alike 67 = .ok (.ifCond .ne 119, 3) := by decide +kernel
theorem dL_alike_70 : decode cL_alike 70 = .ok (.aload_n 0, 1) := by decide +kernel
theorem dL_alike_71 : decode cL_alike 71 = .ok (.iconst 0, 1) := by decide +kernel
theorem dL_alike_72 : decode cL_alike 72 = .ok (.invokestatic 146, 3) := by decide +kernel
theorem dL_alike_75 : decode cL_alike 75 = .ok (.aload_n 1, 1) := by decide +kernel
theorem dL_alike_76 : decode cL_alike 76 = .ok (.iconst 0, 1) := by decide +kernel
theorem dL_alike_77 : decode cL_alike 77 = .ok (.invokestatic 146, 3) := by decide +kernel
theorem dL_alike_80 : decode cL_alike 80 = .ok (.lcmp, 1) := by decide +kernel
theorem dL_alike_81 : decode cL_alike 81 = .ok (.ifCond .ne 105, 3) := by decide +kernel
theorem dL_alike_84 : decode cL_alike 84 = .ok (.aload_n 0, 1) := by decide +kernel
theorem dL_alike_85 : decode cL_alike 85 = .ok (.iconst 1, 1) := by decide +kernel
theorem dL_alike_86 : decode cL_alike 86 = .ok (.iload_n 3, 1) := by decide +kernel
theorem dL_alike_87 : decode cL_alike 87 = .ok (.iadd, 1) := by decide +kernel
theorem dL_alike_88 : decode cL_alike 88 = .ok (.invokestatic 148, 3) := by decide +kernel
theorem dL_alike_91 : decode cL_alike 91 = .ok (.aload_n 1, 1) := by decide +kernel
theorem dL_alike_92 : decode cL_alike 92 = .ok (.iconst 1, 1) := by decide +kernel
theorem dL_alike_93 : decode cL_alike 93 = .ok (.iload_n 3, 1) := by decide +kernel
theorem dL_alike_94 : decode cL_alike 94 = .ok (.iadd, 1) := by decide +kernel
theorem dL_alike_95 : decode cL_alike 95 = .ok (.invokestatic 148, 3) := by decide +kernel
theorem dL_alike_98 : decode cL_alike 98 = .ok (.lcmp, 1) := by decide +kernel
theorem dL_alike_99 : decode cL_alike 99 = .ok (.ifCond .ne 87, 3) := by decide +kernel
theorem dL_alike_102 : decode cL_alike 102 = .ok (.aload_n 0, 1) := by decide +kernel
theorem dL_alike_103 : decode cL_alike 103 = .ok (.iload_n 3, 1) := by decide +kernel
theorem dL_alike_104 : decode cL_alike 104 = .ok (.invokestatic 150, 3) := by decide +kernel
theorem dL_alike_107 : decode cL_alike 107 = .ok (.aload_n 1, 1) := by decide +kernel
theorem dL_alike_108 : decode cL_alike 108 = .ok (.iload_n 3, 1) := by decide +kernel
theorem dL_alike_109 : decode cL_alike 109 = .ok (.invokestatic 150, 3) := by decide +kernel
theorem dL_alike_112 : decode cL_alike 112 = .ok (.lcmp, 1) := by decide +kernel
theorem dL_alike_113 : decode cL_alike 113 = .ok (.ifCond .ne 73, 3) := by decide +kernel
theorem dL_alike_116 : decode cL_alike 116 = .ok (.aload_n 0, 1) := by decide +kernel
theorem dL_alike_117 : decode cL_alike 117 = .ok (.iload_n 3, 1) := by decide +kernel
theorem dL_alike_118 : decode cL_alike 118 = .ok (.invokestatic 152, 3) := by decide +kernel
theorem dL_alike_121 : decode cL_alike 121 = .ok (.aload_n 1, 1) := by decide +kernel
theorem dL_alike_122 : decode cL_alike 122 = .ok (.iload_n 3, 1) := by decide +kernel
theorem dL_alike_123 : decode cL_alike 123 = .ok (.invokestatic 152, 3) := by decide +kernel
theorem dL_alike_126 : decode cL_alike 126 = .ok (.lcmp, 1) := by decide +kernel
theorem dL_alike_127 : decode cL_alike 127 = .ok (.ifCond .ne 59, 3) := by decide +kernel
theorem dL_alike_130 : decode cL_alike 130 = .ok (.aload_n 0, 1) := by decide +kernel
theorem dL_alike_131 : decode cL_alike 131 = .ok (.iload_n 2, 1) := by decide +kernel
theorem dL_alike_132 : decode cL_alike 132 = .ok (.i2l, 1) := by decide +kernel
theorem dL_alike_133 : decode cL_alike 133 = .ok (.iconst 3, 1) := by decide +kernel
theorem dL_alike_134 : decode cL_alike 134 = .ok (.invokestatic 160, 3) := by decide +kernel
theorem dL_alike_137 : decode cL_alike 137 = .ok (.aload_n 1, 1) := by decide +kernel
theorem dL_alike_138 : decode cL_alike 138 = .ok (.iload_n 2, 1) := by decide +kernel
theorem dL_alike_139 : decode cL_alike 139 = .ok (.i2l, 1) := by decide +kernel
theorem dL_alike_140 : decode cL_alike 140 = .ok (.iconst 3, 1) := by decide +kernel
theorem dL_alike_141 : decode cL_alike 141 = .ok (.invokestatic 160, 3) := by decide +kernel
theorem dL_alike_144 : decode cL_alike 144 = .ok (.lcmp, 1) := by decide +kernel
theorem dL_alike_145 : decode cL_alike 145 = .ok (.ifCond .ne 41, 3) := by decide +kernel
theorem dL_alike_148 : decode cL_alike 148 = .ok (.aload_n 0, 1) := by decide +kernel
theorem dL_alike_149 : decode cL_alike 149 = .ok (.iconst 2, 1) := by decide +kernel
theorem dL_alike_150 : decode cL_alike 150 = .ok (.ldc2_w 212, 3) := by decide +kernel
theorem dL_alike_153 : decode cL_alike 153 = .ok (.iload_n 2, 1) := by decide +kernel
theorem dL_alike_154 : decode cL_alike 154 = .ok (.sipush 1000, 3) := by decide +kernel
theorem dL_alike_157 : decode cL_alike 157 = .ok (.irem, 1) := by decide +kernel
theorem dL_alike_158 : decode cL_alike 158 = .ok (.i2l, 1) := by decide +kernel
theorem dL_alike_159 : decode cL_alike 159 = .ok (.ladd, 1) := by decide +kernel
theorem dL_alike_160 : decode cL_alike 160 = .ok (.invokestatic 154, 3) := by decide +kernel
theorem dL_alike_163 : decode cL_alike 163 = .ok (.aload_n 1, 1) := by decide +kernel
theorem dL_alike_164 : decode cL_alike 164 = .ok (.iconst 2, 1) := by decide +kernel
theorem dL_alike_165 : decode cL_alike 165 = .ok (.ldc2_w 212, 3) := by decide +kernel
theorem dL_alike_168 : decode cL_alike 168 = .ok (.iload_n 2, 1) := by decide +kernel
theorem dL_alike_169 : decode cL_alike 169 = .ok (.sipush 1000, 3) := by decide +kernel
theorem dL_alike_172 : decode cL_alike 172 = .ok (.irem, 1) := by decide +kernel
theorem dL_alike_173 : decode cL_alike 173 = .ok (.i2l, 1) := by decide +kernel
theorem dL_alike_174 : decode cL_alike 174 = .ok (.ladd, 1) := by decide +kernel
theorem dL_alike_175 : decode cL_alike 175 = .ok (.invokestatic 154, 3) := by decide +kernel
theorem dL_alike_178 : decode cL_alike 178 = .ok (.lcmp, 1) := by decide +kernel
theorem dL_alike_179 : decode cL_alike 179 = .ok (.ifCond .ne 7, 3) := by decide +kernel
theorem dL_alike_182 : decode cL_alike 182 = .ok (.iconst 1, 1) := by decide +kernel
theorem dL_alike_183 : decode cL_alike 183 = .ok (.goto 4, 3) := by decide +kernel
theorem dL_alike_186 : decode cL_alike 186 = .ok (.iconst 0, 1) := by decide +kernel
theorem dL_alike_187 : decode cL_alike 187 = .ok (.ireturn, 1) := by decide +kernel
theorem dL_types_0 : decode cL_types 0 = .ok (.iconst 1, 1) := by decide +kernel
theorem dL_types_1 : decode cL_types 1 = .ok (.istore_n 3, 1) := by decide +kernel
theorem dL_types_2 : decode cL_types 2 = .ok (.iload_n 2, 1) := by decide +kernel
theorem dL_types_3 : decode cL_types 3 = .ok (.iconst 2, 1) := by decide +kernel
theorem dL_types_4 : decode cL_types 4 = .ok (.if_icmp .ne 8, 3) := by decide +kernel
theorem dL_types_7 : decode cL_types 7 = .ok (.bipush 10, 2) := by decide +kernel
theorem dL_types_9 : decode cL_types 9 = .ok (.goto 4, 3) := by decide +kernel
theorem dL_types_12 : decode cL_types 12 = .ok (.iconst 1, 1) := by decide +kernel
theorem dL_types_13 : decode cL_types 13 = .ok (.istore 4, 2) := by decide +kernel
theorem dL_types_15 : decode cL_types 15 = .ok (.iload 4, 2) := by decide +kernel
theorem dL_types_17 : decode cL_types 17 = .ok (.ifCond .le 42, 3) := by decide +kernel
theorem dL_types_20 : decode cL_types 20 = .ok (.iload_n 3, 1) := by decide +kernel
theorem dL_types_21 : decode cL_types 21 = .ok (.ifCond .eq 38, 3) := by decide +kernel
theorem dL_types_24 : decode cL_types 24 = .ok (.aload_n 0, 1) := by decide +kernel
theorem dL_types_25 : decode cL_types 25 = .ok (.bipush 48, 2) := by decide +kernel
theorem dL_types_27 : decode cL_types 27 = .ok (.iload_n 1, 1) := by decide +kernel
theorem dL_types_28 : decode cL_types 28 = .ok (.iload 4, 2) := by decide +kernel
theorem dL_types_30 : decode cL_types 30 = .ok (.idiv, 1) := by decide +kernel
theorem dL_types_31 : decode cL_types 31 = .ok (.bipush 10, 2) := by decide +kernel
theorem dL_types_33 : decode cL_types 33 = .ok (.irem, 1) := by decide +kernel
theorem dL_types_34 : decode cL_types 34 = .ok (.iadd, 1) := by decide +kernel
theorem dL_types_35 : decode cL_types 35 = .ok (.invokestatic 167, 3) := by decide +kernel
theorem dL_types_38 : decode cL_types 38 = .ok (.lconst 0, 1) := by decide +kernel
theorem dL_types_39 : decode cL_types 39 = .ok (.lcmp, 1) := by decide +kernel
theorem dL_types_40 : decode cL_types 40 = .ok (.ifCond .le 7, 3) := by decide +kernel
theorem dL_types_43 : decode cL_types 43 = .ok (.iconst 1, 1) := by decide +kernel
theorem dL_types_44 : decode cL_types 44 = .ok (.goto 4, 3) := by decide +kernel
theorem dL_types_47 : decode cL_types 47 = .ok (.iconst 0, 1) := by decide +kernel
theorem dL_types_48 : decode cL_types 48 = .ok (.istore_n 3, 1) := by decide +kernel
theorem dL_types_49 : decode cL_types 49 = .ok (.iload 4, 2) := by decide +kernel
theorem dL_types_51 : decode cL_types 51 = .ok (.bipush 10, 2) := by decide +kernel
theorem dL_types_53 : decode cL_types 53 = .ok (.idiv, 1) := by decide +kernel
theorem dL_types_54 : decode cL_types 54 = .ok (.istore 4, 2) := by decide +kernel
theorem dL_types_56 : decode cL_types 56 = .ok (.goto (-41), 3) := by decide +kernel
theorem dL_types_59 : decode cL_types 59 = .ok (.iload_n 3, 1) := by decide +kernel
theorem dL_types_60 : decode cL_types 60 = .ok (.ireturn, 1) := by decide +kernel
theorem dL_tells_0 : decode cL_tells 0 = .ok (.aload_n 0, 1) := by decide +kernel
theorem dL_tells_1 : decode cL_tells 1 = .ok (.invokevirtual 214, 3) := by decide +kernel
theorem dL_tells_4 : decode cL_tells 4 = .ok (.ifCond .lt 62, 3) := by decide +kernel
theorem dL_tells_7 : decode cL_tells 7 = .ok (.aload_n 0, 1) := by decide +kernel
theorem dL_tells_8 : decode cL_tells 8 = .ok (.bipush 77, 2) := by decide +kernel
theorem dL_tells_10 : decode cL_tells 10 = .ok (.invokestatic 167, 3) := by decide +kernel
theorem dL_tells_13 : decode cL_tells 13 = .ok (.lconst 1, 1) := by decide +kernel
theorem dL_tells_14 : decode cL_tells 14 = .ok (.lcmp, 1) := by decide +kernel
theorem dL_tells_15 : decode cL_tells 15 = .ok (.ifCond .ne 51, 3) := by decide +kernel
theorem dL_tells_18 : decode cL_tells 18 = .ok (.aload_n 0, 1) := by decide +kernel
theorem dL_tells_19 : decode cL_tells 19 = .ok (.iload_n 1, 1) := by decide +kernel
theorem dL_tells_20 : decode cL_tells 20 = .ok (.iconst 2, 1) := by decide +kernel
theorem dL_tells_21 : decode cL_tells 21 = .ok (.irem, 1) := by decide +kernel
theorem dL_tells_22 : decode cL_tells 22 = .ok (.iconst 1, 1) := by decide +kernel
theorem dL_tells_23 : decode cL_tells 23 = .ok (.invokestatic 217, 3) := by decide +kernel
theorem dL_tells_26 : decode cL_tells 26 = .ok (.ifCond .eq 40, 3) := by decide +kernel
theorem dL_tells_29 : decode cL_tells 29 = .ok (.aload_n 0, 1) := by decide +kernel
theorem dL_tells_30 : decode cL_tells 30 = .ok (.iload_n 1, 1) := by decide +kernel
theorem dL_tells_31 : decode cL_tells 31 = .ok (.iconst 2, 1) := by decide +kernel
theorem dL_tells_32 : decode cL_tells 32 = .ok (.idiv, 1) := by decide +kernel
theorem dL_tells_33 : decode cL_tells 33 = .ok (.bipush 100, 2) := by decide +kernel
theorem dL_tells_35 : decode cL_tells 35 = .ok (.irem, 1) := by decide +kernel
theorem dL_tells_36 : decode cL_tells 36 = .ok (.iconst 2, 1) := by decide +kernel
theorem dL_tells_37 : decode cL_tells 37 = .ok (.invokestatic 217, 3) := by decide +kernel
theorem dL_tells_40 : decode cL_tells 40 = .ok (.ifCond .eq 26, 3) := by decide +kernel
theorem dL_tells_43 : decode cL_tells 43 = .ok (.aload_n 0, 1) := by decide +kernel
theorem dL_tells_44 : decode cL_tells 44 = .ok (.bipush 30, 2) := by decide +kernel
theorem dL_tells_46 : decode cL_tells 46 = .ok (.iload_n 1, 1) := by decide +kernel
theorem dL_tells_47 : decode cL_tells 47 = .ok (.sipush 200, 3) := by decide +kernel
theorem dL_tells_50 : decode cL_tells 50 = .ok (.idiv, 1) := by decide +kernel
theorem dL_tells_51 : decode cL_tells 51 = .ok (.bipush 51, 2) := by decide +kernel
theorem dL_tells_53 : decode cL_tells 53 = .ok (.irem, 1) := by decide +kernel
theorem dL_tells_54 : decode cL_tells 54 = .ok (.iadd, 1) := by decide +kernel
theorem dL_tells_55 : decode cL_tells 55 = .ok (.iconst 2, 1) := by decide +kernel
theorem dL_tells_56 : decode cL_tells 56 = .ok (.invokestatic 217, 3) := by decide +kernel
theorem dL_tells_59 : decode cL_tells 59 = .ok (.ifCond .eq 7, 3) := by decide +kernel
theorem dL_tells_62 : decode cL_tells 62 = .ok (.iconst 1, 1) := by decide +kernel
theorem dL_tells_63 : decode cL_tells 63 = .ok (.goto 4, 3) := by decide +kernel
theorem dL_tells_66 : decode cL_tells 66 = .ok (.iconst 0, 1) := by decide +kernel
theorem dL_tells_67 : decode cL_tells 67 = .ok (.istore_n 3, 1) := by decide +kernel
theorem dL_tells_68 : decode cL_tells 68 = .ok (.iconst 0, 1) := by decide +kernel
theorem dL_tells_69 : decode cL_tells 69 = .ok (.istore 4, 2) := by decide +kernel
theorem dL_tells_71 : decode cL_tells 71 = .ok (.iload 4, 2) := by decide +kernel
theorem dL_tells_73 : decode cL_tells 73 = .ok (.iload_n 2, 1) := by decide +kernel
theorem dL_tells_74 : decode cL_tells 74 = .ok (.iconst 4, 1) := by decide +kernel
theorem dL_tells_75 : decode cL_tells 75 = .ok (.irem, 1) := by decide +kernel
theorem dL_tells_76 : decode cL_tells 76 = .ok (.if_icmp .ge 112, 3) := by decide +kernel
theorem dL_tells_79 : decode cL_tells 79 = .ok (.iload_n 3, 1) := by decide +kernel
theorem dL_tells_80 : decode cL_tells 80 = .ok (.ifCond .eq 108, 3) := by decide +kernel
theorem dL_tells_83 : decode cL_tells 83 = .ok (.iload_n 1, 1) := by decide +kernel
theorem dL_tells_84 : decode cL_tells 84 = .ok (.iload 4, 2) := by decide +kernel
theorem dL_tells_86 : decode cL_tells 86 = .ok (.ishr, 1) := by decide +kernel
theorem dL_tells_87 : decode cL_tells 87 = .ok (.ldc 221, 2) := by decide +kernel
theorem dL_tells_89 : decode cL_tells 89 = .ok (.iand, 1) := by decide +kernel
theorem dL_tells_90 : decode cL_tells 90 = .ok (.iload_n 2, 1) := by decide +kernel
theorem dL_tells_91 : decode cL_tells 91 = .ok (.iconst 4, 1) := by decide +kernel
theorem dL_tells_92 : decode cL_tells 92 = .ok (.idiv, 1) := by decide +kernel
theorem dL_tells_93 : decode cL_tells 93 = .ok (.bipush 100, 2) := by decide +kernel
theorem dL_tells_95 : decode cL_tells 95 = .ok (.irem, 1) := by decide +kernel
theorem dL_tells_96 : decode cL_tells 96 = .ok (.iadd, 1) := by decide +kernel
theorem dL_tells_97 : decode cL_tells 97 = .ok (.istore 5, 2) := by decide +kernel
theorem dL_tells_99 : decode cL_tells 99 = .ok (.aload_n 0, 1) := by decide +kernel
theorem dL_tells_100 : decode cL_tells 100 = .ok (.bipush 114, 2) := by decide +kernel
theorem dL_tells_102 : decode cL_tells 102 = .ok (.invokestatic 167, 3) := by decide +kernel
theorem dL_tells_105 : decode cL_tells 105 = .ok (.lconst 0, 1) := by decide +kernel
theorem dL_tells_106 : decode cL_tells 106 = .ok (.lcmp, 1) := by decide +kernel
theorem dL_tells_107 : decode cL_tells 107 = .ok (.ifCond .le 73, 3) := by decide +kernel
theorem dL_tells_110 : decode cL_tells 110 = .ok (.aload_n 0, 1) := by decide +kernel
theorem dL_tells_111 : decode cL_tells 111 = .ok (.iconst 1, 1) := by decide +kernel
theorem dL_tells_112 : decode cL_tells 112 = .ok (.iload 5, 2) := by decide +kernel
theorem dL_tells_114 : decode cL_tells 114 = .ok (.bipush 9, 2) := by decide +kernel
theorem dL_tells_116 : decode cL_tells 116 = .ok (.irem, 1) := by decide +kernel
theorem dL_tells_117 : decode cL_tells 117 = .ok (.iadd, 1) := by decide +kernel
theorem dL_tells_118 : decode cL_tells 118 = .ok (.iconst 1, 1) := by decide +kernel
theorem dL_tells_119 : decode cL_tells 119 = .ok (.invokestatic 217, 3) := by decide +kernel
theorem dL_tells_122 : decode cL_tells 122 = .ok (.ifCond .eq 58, 3) := by decide +kernel
theorem dL_tells_125 : decode cL_tells 125 = .ok (.aload_n 0, 1) := by decide +kernel
theorem dL_tells_126 : decode cL_tells 126 = .ok (.bipush 10, 2) := by decide +kernel
theorem dL_tells_128 : decode cL_tells 128 = .ok (.iload 5, 2) := by decide +kernel
theorem dL_tells_130 : decode cL_tells 130 = .ok (.bipush 9, 2) := by decide +kernel
theorem dL_tells_132 : decode cL_tells 132 = .ok (.idiv, 1) := by decide +kernel
theorem dL_tells_133 : decode cL_tells 133 = .ok (.bipush 16, 2) := by decide +kernel
theorem dL_tells_135 : decode cL_tells 135 = .ok (.irem, 1) := by decide +kernel
theorem dL_tells_136 : decode cL_tells 136 = .ok (.iadd, 1) := by decide +kernel
theorem dL_tells_137 : decode cL_tells 137 = .ok (.iconst 2, 1) := by decide +kernel
theorem dL_tells_138 : decode cL_tells 138 = .ok (.invokestatic 217, 3) := by decide +kernel
theorem dL_tells_141 : decode cL_tells 141 = .ok (.ifCond .eq 39, 3) := by decide +kernel
theorem dL_tells_144 : decode cL_tells 144 = .ok (.aload_n 0, 1) := by decide +kernel
theorem dL_tells_145 : decode cL_tells 145 = .ok (.iconst 1, 1) := by decide +kernel
theorem dL_tells_146 : decode cL_tells 146 = .ok (.iload 5, 2) := by decide +kernel
theorem dL_tells_148 : decode cL_tells 148 = .ok (.iconst 5, 1) := by decide +kernel
theorem dL_tells_149 : decode cL_tells 149 = .ok (.idiv, 1) := by decide +kernel
theorem dL_tells_150 : decode cL_tells 150 = .ok (.bipush 9, 2) := by decide +kernel
theorem dL_tells_152 : decode cL_tells 152 = .ok (.irem, 1) := by decide +kernel
theorem dL_tells_153 : decode cL_tells 153 = .ok (.iadd, 1) := by decide +kernel
theorem dL_tells_154 : decode cL_tells 154 = .ok (.iconst 1, 1) := by decide +kernel
theorem dL_tells_155 : decode cL_tells 155 = .ok (.invokestatic 217, 3) := by decide +kernel
theorem dL_tells_158 : decode cL_tells 158 = .ok (.ifCond .eq 22, 3) := by decide +kernel
theorem dL_tells_161 : decode cL_tells 161 = .ok (.aload_n 0, 1) := by decide +kernel
theorem dL_tells_162 : decode cL_tells 162 = .ok (.iload 5, 2) := by decide +kernel
theorem dL_tells_164 : decode cL_tells 164 = .ok (.iconst 3, 1) := by decide +kernel
theorem dL_tells_165 : decode cL_tells 165 = .ok (.idiv, 1) := by decide +kernel
theorem dL_tells_166 : decode cL_tells 166 = .ok (.bipush 10, 2) := by decide +kernel
theorem dL_tells_168 : decode cL_tells 168 = .ok (.irem, 1) := by decide +kernel
theorem dL_tells_169 : decode cL_tells 169 = .ok (.iconst 1, 1) := by decide +kernel
theorem dL_tells_170 : decode cL_tells 170 = .ok (.invokestatic 217, 3) := by decide +kernel
theorem dL_tells_173 : decode cL_tells 173 = .ok (.ifCond .eq 7, 3) := by decide +kernel
theorem dL_tells_176 : decode cL_tells 176 = .ok (.iconst 1, 1) := by decide +kernel
theorem dL_tells_177 : decode cL_tells 177 = .ok (.goto 4, 3) := by decide +kernel
theorem dL_tells_180 : decode cL_tells 180 = .ok (.iconst 0, 1) := by decide +kernel
theorem dL_tells_181 : decode cL_tells 181 = .ok (.istore_n 3, 1) := by decide +kernel
theorem dL_tells_182 : decode cL_tells 182 = .ok (.iinc 4 1, 3) := by decide +kernel
theorem dL_tells_185 : decode cL_tells 185 = .ok (.goto (-114), 3) := by decide +kernel
theorem dL_tells_188 : decode cL_tells 188 = .ok (.iload_n 3, 1) := by decide +kernel
theorem dL_tells_189 : decode cL_tells 189 = .ok (.ifCond .eq 53, 3) := by decide +kernel
theorem dL_tells_192 : decode cL_tells 192 = .ok (.aload_n 0, 1) := by decide +kernel
theorem dL_tells_193 : decode cL_tells 193 = .ok (.bipush 111, 2) := by decide +kernel
theorem dL_tells_195 : decode cL_tells 195 = .ok (.invokestatic 167, 3) := by decide +kernel
theorem dL_tells_198 : decode cL_tells 198 = .ok (.lconst 0, 1) := by decide +kernel
theorem dL_tells_199 : decode cL_tells 199 = .ok (.lcmp, 1) := by decide +kernel
theorem dL_tells_200 : decode cL_tells 200 = .ok (.ifCond .le 42, 3) := by decide +kernel
theorem dL_tells_203 : decode cL_tells 203 = .ok (.aload_n 0, 1) := by decide +kernel
theorem dL_tells_204 : decode cL_tells 204 = .ok (.bipush 43, 2) := by decide +kernel
theorem dL_tells_206 : decode cL_tells 206 = .ok (.invokestatic 167, 3) := by decide +kernel
theorem dL_tells_209 : decode cL_tells 209 = .ok (.lconst 0, 1) := by decide +kernel
theorem dL_tells_210 : decode cL_tells 210 = .ok (.lcmp, 1) := by decide +kernel
theorem dL_tells_211 : decode cL_tells 211 = .ok (.ifCond .le 31, 3) := by decide +kernel
theorem dL_tells_214 : decode cL_tells 214 = .ok (.aload_n 0, 1) := by decide +kernel
theorem dL_tells_215 : decode cL_tells 215 = .ok (.iload_n 2, 1) := by decide +kernel
theorem dL_tells_216 : decode cL_tells 216 = .ok (.bipush 8, 2) := by decide +kernel
theorem dL_tells_218 : decode cL_tells 218 = .ok (.idiv, 1) := by decide +kernel
theorem dL_tells_219 : decode cL_tells 219 = .ok (.bipush 41, 2) := by decide +kernel
theorem dL_tells_221 : decode cL_tells 221 = .ok (.irem, 1) := by decide +kernel
theorem dL_tells_222 : decode cL_tells 222 = .ok (.iconst 2, 1) := by decide +kernel
theorem dL_tells_223 : decode cL_tells 223 = .ok (.invokestatic 217, 3) := by decide +kernel
theorem dL_tells_226 : decode cL_tells 226 = .ok (.ifCond .eq 16, 3) := by decide +kernel
theorem dL_tells_229 : decode cL_tells 229 = .ok (.aload_n 0, 1) := by decide +kernel
theorem dL_tells_230 : decode cL_tells 230 = .ok (.invokevirtual 209, 3) := by decide +kernel
theorem dL_tells_233 : decode cL_tells 233 = .ok (.ldc 222, 2) := by decide +kernel
theorem dL_tells_235 : decode cL_tells 235 = .ok (.if_icmp .ne 7, 3) := by decide +kernel
theorem dL_tells_238 : decode cL_tells 238 = .ok (.iconst 1, 1) := by decide +kernel
theorem dL_tells_239 : decode cL_tells 239 = .ok (.goto 4, 3) := by decide +kernel
theorem dL_tells_242 : decode cL_tells 242 = .ok (.iconst 0, 1) := by decide +kernel
theorem dL_tells_243 : decode cL_tells 243 = .ok (.ireturn, 1) := by decide +kernel
theorem dL_act_0 : decode cL_act 0 = .ok (.iload_n 2, 1) := by decide +kernel
theorem dL_act_1 : decode cL_act 1 = .ok (.bipush 6, 2) := by decide +kernel
theorem dL_act_3 : decode cL_act 3 = .ok (.irem, 1) := by decide +kernel
theorem dL_act_4 : decode cL_act 4 = .ok (.istore_n 3, 1) := by decide +kernel
theorem dL_act_5 : decode cL_act 5 = .ok (.iload_n 1, 1) := by decide +kernel
theorem dL_act_6 : decode cL_act 6 = .ok (.bipush 17, 2) := by decide +kernel
theorem dL_act_8 : decode cL_act 8 = .ok (.irem, 1) := by decide +kernel
theorem dL_act_9 : decode cL_act 9 = .ok (.tableswitch 201 0 15 #[79, 79, 118, 118, 137, 137, 157, 157, 173, 173, 185, 185, 185, 185, 196, 196], 79) := by decide +kernel
theorem dL_act_88 : decode cL_act 88 = .ok (.aload_n 0, 1) := by decide +kernel
theorem dL_act_89 : decode cL_act 89 = .ok (.iconst 1, 1) := by decide +kernel
theorem dL_act_90 : decode cL_act 90 = .ok (.iload_n 2, 1) := by decide +kernel
theorem dL_act_91 : decode cL_act 91 = .ok (.bipush 9, 2) := by decide +kernel
theorem dL_act_93 : decode cL_act 93 = .ok (.irem, 1) := by decide +kernel
theorem dL_act_94 : decode cL_act 94 = .ok (.iadd, 1) := by decide +kernel
theorem dL_act_95 : decode cL_act 95 = .ok (.bipush 10, 2) := by decide +kernel
theorem dL_act_97 : decode cL_act 97 = .ok (.iload_n 2, 1) := by decide +kernel
theorem dL_act_98 : decode cL_act 98 = .ok (.bipush 9, 2) := by decide +kernel
theorem dL_act_100 : decode cL_act 100 = .ok (.idiv, 1) := by decide +kernel
theorem dL_act_101 : decode cL_act 101 = .ok (.bipush 16, 2) := by decide +kernel
theorem dL_act_103 : decode cL_act 103 = .ok (.irem, 1) := by decide +kernel
theorem dL_act_104 : decode cL_act 104 = .ok (.iadd, 1) := by decide +kernel
theorem dL_act_105 : decode cL_act 105 = .ok (.iconst 1, 1) := by decide +kernel
theorem dL_act_106 : decode cL_act 106 = .ok (.iload_n 2, 1) := by decide +kernel
theorem dL_act_107 : decode cL_act 107 = .ok (.sipush 144, 3) := by decide +kernel
theorem dL_act_110 : decode cL_act 110 = .ok (.idiv, 1) := by decide +kernel
theorem dL_act_111 : decode cL_act 111 = .ok (.bipush 9, 2) := by decide +kernel
theorem dL_act_113 : decode cL_act 113 = .ok (.irem, 1) := by decide +kernel
theorem dL_act_114 : decode cL_act 114 = .ok (.iadd, 1) := by decide +kernel
theorem dL_act_115 : decode cL_act 115 = .ok (.iload_n 2, 1) := by decide +kernel
theorem dL_act_116 : decode cL_act 116 = .ok (.sipush 1296, 3) := by decide +kernel
theorem dL_act_119 : decode cL_act 119 = .ok (.idiv, 1) := by decide +kernel
theorem dL_act_120 : decode cL_act 120 = .ok (.bipush 10, 2) := by decide +kernel
theorem dL_act_122 : decode cL_act 122 = .ok (.irem, 1) := by decide +kernel
theorem dL_act_123 : decode cL_act 123 = .ok (.invokestatic 129, 3) := by decide +kernel
theorem dL_act_126 : decode cL_act 126 = .ok (.lreturn, 1) := by decide +kernel
theorem dL_act_127 : decode cL_act 127 = .ok (.aload_n 0, 1) := by decide +kernel
theorem dL_act_128 : decode cL_act 128 = .ok (.iload_n 3, 1) := by decide +kernel
theorem dL_act_129 : decode cL_act 129 = .ok (.iload_n 2, 1) := by decide +kernel
theorem dL_act_130 : decode cL_act 130 = .ok (.bipush 6, 2) := by decide +kernel
theorem dL_act_132 : decode cL_act 132 = .ok (.idiv, 1) := by decide +kernel
theorem dL_act_133 : decode cL_act 133 = .ok (.iconst 3, 1) := by decide +kernel
theorem dL_act_134 : decode cL_act 134 = .ok (.irem, 1) := by decide +kernel
theorem dL_act_135 : decode cL_act 135 = .ok (.iload_n 2, 1) := by decide +kernel
theorem dL_act_136 : decode cL_act 136 = .ok (.bipush 18, 2) := by decide +kernel
theorem dL_act_138 : decode cL_act 138 = .ok (.idiv, 1) := by decide +kernel
theorem dL_act_139 : decode cL_act 139 = .ok (.bipush 26, 2) := by decide +kernel
theorem dL_act_141 : decode cL_act 141 = .ok (.irem, 1) := by decide +kernel
theorem dL_act_142 : decode cL_act 142 = .ok (.invokestatic 132, 3) := by decide +kernel
theorem dL_act_145 : decode cL_act 145 = .ok (.lreturn, 1) := by decide +kernel
theorem dL_act_146 : decode cL_act 146 = .ok (.aload_n 0, 1) := by decide +kernel
theorem dL_act_147 : decode cL_act 147 = .ok (.iload_n 3, 1) := by decide +kernel
theorem dL_act_148 : decode cL_act 148 = .ok (.iload_n 2, 1) := by decide +kernel
theorem dL_act_149 : decode cL_act 149 = .ok (.bipush 6, 2) := by decide +kernel
theorem dL_act_151 : decode cL_act 151 = .ok (.idiv, 1) := by decide +kernel
theorem dL_act_152 : decode cL_act 152 = .ok (.iconst 2, 1) := by decide +kernel
theorem dL_act_153 : decode cL_act 153 = .ok (.irem, 1) := by decide +kernel
theorem dL_act_154 : decode cL_act 154 = .ok (.ifCond .ne 7, 3) := by decide +kernel
theorem dL_act_157 : decode cL_act 157 = .ok (.iconst 1, 1) := by decide +kernel
theorem dL_act_158 : decode cL_act 158 = .ok (.goto 4, 3) := by decide +kernel
theorem dL_act_161 : decode cL_act 161 = .ok (.iconst 0, 1) := by decide +kernel
theorem dL_act_162 : decode cL_act 162 = .ok (.invokestatic 135, 3) := by decide +kernel
theorem dL_act_165 : decode cL_act 165 = .ok (.lreturn, 1) := by decide +kernel
theorem dL_act_166 : decode cL_act 166 = .ok (.aload_n 0, 1) := by decide +kernel
theorem dL_act_167 : decode cL_act 167 = .ok (.iload_n 2, 1) := by decide +kernel
theorem dL_act_168 : decode cL_act 168 = .ok (.bipush 9, 2) := by decide +kernel
theorem dL_act_170 : decode cL_act 170 = .ok (.irem, 1) := by decide +kernel
theorem dL_act_171 : decode cL_act 171 = .ok (.iload_n 2, 1) := by decide +kernel
theorem dL_act_172 : decode cL_act 172 = .ok (.bipush 9, 2) := by decide +kernel
theorem dL_act_174 : decode cL_act 174 = .ok (.idiv, 1) := by decide +kernel
theorem dL_act_175 : decode cL_act 175 = .ok (.bipush 81, 2) := by decide +kernel
theorem dL_act_177 : decode cL_act 177 = .ok (.irem, 1) := by decide +kernel
theorem dL_act_178 : decode cL_act 178 = .ok (.invokestatic 138, 3) := by decide +kernel
theorem dL_act_181 : decode cL_act 181 = .ok (.lreturn, 1) := by decide +kernel
theorem dL_act_182 : decode cL_act 182 = .ok (.aload_n 0, 1) := by decide +kernel
theorem dL_act_183 : decode cL_act 183 = .ok (.iload_n 2, 1) := by decide +kernel
theorem dL_act_184 : decode cL_act 184 = .ok (.bipush 61, 2) := by decide +kernel
theorem dL_act_186 : decode cL_act 186 = .ok (.irem, 1) := by decide +kernel
theorem dL_act_187 : decode cL_act 187 = .ok (.bipush 20, 2) := by decide +kernel
theorem dL_act_189 : decode cL_act 189 = .ok (.isub, 1) := by decide +kernel
theorem dL_act_190 : decode cL_act 190 = .ok (.invokestatic 140, 3) := by decide +kernel
theorem dL_act_193 : decode cL_act 193 = .ok (.lreturn, 1) := by decide +kernel
theorem dL_act_194 : decode cL_act 194 = .ok (.aload_n 0, 1) := by decide +kernel
theorem dL_act_195 : decode cL_act 195 = .ok (.iconst 1, 1) := by decide +kernel
theorem dL_act_196 : decode cL_act 196 = .ok (.iload_n 2, 1) := by decide +kernel
theorem dL_act_197 : decode cL_act 197 = .ok (.bipush 60, 2) := by decide +kernel
theorem dL_act_199 : decode cL_act 199 = .ok (.irem, 1) := by decide +kernel
theorem dL_act_200 : decode cL_act 200 = .ok (.iadd, 1) := by decide +kernel
theorem dL_act_201 : decode cL_act 201 = .ok (.invokestatic 142, 3) := by decide +kernel
theorem dL_act_204 : decode cL_act 204 = .ok (.lreturn, 1) := by decide +kernel
theorem dL_act_205 : decode cL_act 205 = .ok (.aload_n 0, 1) := by decide +kernel
theorem dL_act_206 : decode cL_act 206 = .ok (.invokestatic 193, 3) := by decide +kernel
theorem dL_act_209 : decode cL_act 209 = .ok (.lreturn, 1) := by decide +kernel
theorem dL_act_210 : decode cL_act 210 = .ok (.iload_n 2, 1) := by decide +kernel
theorem dL_act_211 : decode cL_act 211 = .ok (.iconst 2, 1) := by decide +kernel
theorem dL_act_212 : decode cL_act 212 = .ok (.irem, 1) := by decide +kernel
theorem dL_act_213 : decode cL_act 213 = .ok (.ifCond .ne 15, 3) := by decide +kernel
theorem dL_act_216 : decode cL_act 216 = .ok (.aload_n 0, 1) := by decide +kernel
theorem dL_act_217 : decode cL_act 217 = .ok (.iload_n 2, 1) := by decide +kernel
theorem dL_act_218 : decode cL_act 218 = .ok (.iconst 2, 1) := by decide +kernel
theorem dL_act_219 : decode cL_act 219 = .ok (.idiv, 1) := by decide +kernel
theorem dL_act_220 : decode cL_act 220 = .ok (.iconst 1, 1) := by decide +kernel
theorem dL_act_221 : decode cL_act 221 = .ok (.iand, 1) := by decide +kernel
theorem dL_act_222 : decode cL_act 222 = .ok (.invokestatic 163, 3) := by decide +kernel
theorem dL_act_225 : decode cL_act 225 = .ok (.goto 12, 3) := by decide +kernel
theorem dL_act_228 : decode cL_act 228 = .ok (.aload_n 0, 1) := by decide +kernel
theorem dL_act_229 : decode cL_act 229 = .ok (.iload_n 2, 1) := by decide +kernel
theorem dL_act_230 : decode cL_act 230 = .ok (.iconst 2, 1) := by decide +kernel
theorem dL_act_231 : decode cL_act 231 = .ok (.idiv, 1) := by decide +kernel
theorem dL_act_232 : decode cL_act 232 = .ok (.iconst 1, 1) := by decide +kernel
theorem dL_act_233 : decode cL_act 233 = .ok (.iand, 1) := by decide +kernel
theorem dL_act_234 : decode cL_act 234 = .ok (.invokestatic 165, 3) := by decide +kernel
theorem dL_act_237 : decode cL_act 237 = .ok (.lreturn, 1) := by decide +kernel
theorem dL_law_0 : decode cL_law 0 = .ok (.new 10, 3) := by decide +kernel
theorem dL_law_3 : decode cL_law 3 = .ok (.dup, 1) := by decide +kernel
theorem dL_law_4 : decode cL_law 4 = .ok (.invokespecial 223, 3) := by decide +kernel
theorem dL_law_7 : decode cL_law 7 = .ok (.astore_n 1, 1) := by decide +kernel
theorem dL_law_8 : decode cL_law 8 = .ok (.new 10, 3) := by decide +kernel
theorem dL_law_11 : decode cL_law 11 = .ok (.dup, 1) := by decide +kernel
theorem dL_law_12 : decode cL_law 12 = .ok (.invokespecial 223, 3) := by decide +kernel
theorem dL_law_15 : decode cL_law 15 = .ok (.astore_n 2, 1) := by decide +kernel
theorem dL_law_16 : decode cL_law 16 = .ok (.aload_n 1, 1) := by decide +kernel
theorem dL_law_17 : decode cL_law 17 = .ok (.aload_n 2, 1) := by decide +kernel
theorem dL_law_18 : decode cL_law 18 = .ok (.aload_n 0, 1) := by decide +kernel
theorem dL_law_19 : decode cL_law 19 = .ok (.iconst 0, 1) := by decide +kernel
theorem dL_law_20 : decode cL_law 20 = .ok (.invokestatic 224, 3) := by decide +kernel
theorem dL_law_23 : decode cL_law 23 = .ok (.invokestatic 228, 3) := by decide +kernel
theorem dL_law_26 : decode cL_law 26 = .ok (.ifCond .eq 21, 3) := by decide +kernel
theorem dL_law_29 : decode cL_law 29 = .ok (.aload_n 1, 1) := by decide +kernel
theorem dL_law_30 : decode cL_law 30 = .ok (.invokestatic 232, 3) := by decide +kernel
theorem dL_law_33 : decode cL_law 33 = .ok (.ifCond .eq 14, 3) := by decide +kernel
theorem dL_law_36 : decode cL_law 36 = .ok (.aload_n 1, 1) := by decide +kernel
theorem dL_law_37 : decode cL_law 37 = .ok (.invokestatic 236, 3) := by decide +kernel
theorem dL_law_40 : decode cL_law 40 = .ok (.ifCond .eq 7, 3) := by decide +kernel
theorem dL_law_43 : decode cL_law 43 = .ok (.iconst 1, 1) := by decide +kernel
theorem dL_law_44 : decode cL_law 44 = .ok (.goto 4, 3) := by decide +kernel
theorem dL_law_47 : decode cL_law 47 = .ok (.iconst 0, 1) := by decide +kernel
theorem dL_law_48 : decode cL_law 48 = .ok (.istore_n 3, 1) := by decide +kernel
theorem dL_law_49 : decode cL_law 49 = .ok (.iconst 0, 1) := by decide +kernel
theorem dL_law_50 : decode cL_law 50 = .ok (.istore 4, 2) := by decide +kernel
theorem dL_law_52 : decode cL_law 52 = .ok (.iload 4, 2) := by decide +kernel
theorem dL_law_54 : decode cL_law 54 = .ok (.bipush 36, 2) := by decide +kernel
theorem dL_law_56 : decode cL_law 56 = .ok (.if_icmp .ge 220, 3) := by decide +kernel
theorem dL_law_59 : decode cL_law 59 = .ok (.iload_n 3, 1) := by decide +kernel
theorem dL_law_60 : decode cL_law 60 = .ok (.ifCond .eq 216, 3) := by decide +kernel
theorem dL_law_63 : decode cL_law 63 = .ok (.aload_n 0, 1) := by decide +kernel
theorem dL_law_64 : decode cL_law 64 = .ok (.iconst 2, 1) := by decide +kernel
theorem dL_law_65 : decode cL_law 65 = .ok (.iload 4, 2) := by decide +kernel
theorem dL_law_67 : decode cL_law 67 = .ok (.imul, 1) := by decide +kernel
theorem dL_law_68 : decode cL_law 68 = .ok (.invokestatic 224, 3) := by decide +kernel
theorem dL_law_71 : decode cL_law 71 = .ok (.istore 5, 2) := by decide +kernel
theorem dL_law_73 : decode cL_law 73 = .ok (.aload_n 0, 1) := by decide +kernel
theorem dL_law_74 : decode cL_law 74 = .ok (.iconst 2, 1) := by decide +kernel
theorem dL_law_75 : decode cL_law 75 = .ok (.iload 4, 2) := by decide +kernel
theorem dL_law_77 : decode cL_law 77 = .ok (.imul, 1) := by decide +kernel
theorem dL_law_78 : decode cL_law 78 = .ok (.iconst 1, 1) := by decide +kernel
theorem dL_law_79 : decode cL_law 79 = .ok (.iadd, 1) := by decide +kernel
theorem dL_law_80 : decode cL_law 80 = .ok (.invokestatic 224, 3) := by decide +kernel
theorem dL_law_83 : decode cL_law 83 = .ok (.istore 6, 2) := by decide +kernel
theorem dL_law_85 : decode cL_law 85 = .ok (.iload 4, 2) := by decide +kernel
theorem dL_law_87 : decode cL_law 87 = .ok (.bipush 18, 2) := by decide +kernel
theorem dL_law_89 : decode cL_law 89 = .ok (.irem, 1) := by decide +kernel
theorem dL_law_90 : decode cL_law 90 = .ok (.ifCond .ne 46, 3) := by decide +kernel
theorem dL_law_93 : decode cL_law 93 = .ok (.aload_n 1, 1) := by decide +kernel
theorem dL_law_94 : decode cL_law 94 = .ok (.iload 5, 2) := by decide +kernel
theorem dL_law_96 : decode cL_law 96 = .ok (.iload 6, 2) := by decide +kernel
theorem dL_law_98 : decode cL_law 98 = .ok (.invokestatic 239, 3) := by decide +kernel
theorem dL_law_101 : decode cL_law 101 = .ok (.ifCond .eq 30, 3) := by decide +kernel
theorem dL_law_104 : decode cL_law 104 = .ok (.aload_n 2, 1) := by decide +kernel
theorem dL_law_105 : decode cL_law 105 = .ok (.iload 5, 2) := by decide +kernel
theorem dL_law_107 : decode cL_law 107 = .ok (.iload 6, 2) := by decide +kernel
theorem dL_law_109 : decode cL_law 109 = .ok (.invokestatic 239, 3) := by decide +kernel
theorem dL_law_112 : decode cL_law 112 = .ok (.ifCond .eq 19, 3) := by decide +kernel
theorem dL_law_115 : decode cL_law 115 = .ok (.aload_n 1, 1) := by decide +kernel
theorem dL_law_116 : decode cL_law 116 = .ok (.invokestatic 242, 3) := by decide +kernel
theorem dL_law_119 : decode cL_law 119 = .ok (.aload_n 2, 1) := by decide +kernel
theorem dL_law_120 : decode cL_law 120 = .ok (.invokestatic 242, 3) := by decide +kernel
theorem dL_law_123 : decode cL_law 123 = .ok (.lcmp, 1) := by decide +kernel
theorem dL_law_124 : decode cL_law 124 = .ok (.ifCond .ne 7, 3) := by decide +kernel
theorem dL_law_127 : decode cL_law 127 = .ok (.iconst 1, 1) := by decide +kernel
theorem dL_law_128 : decode cL_law 128 = .ok (.goto 4, 3) := by decide +kernel
theorem dL_law_131 : decode cL_law 131 = .ok (.iconst 0, 1) := by decide +kernel
theorem dL_law_132 : decode cL_law 132 = .ok (.istore_n 3, 1) := by decide +kernel
theorem dL_law_133 : decode cL_law 133 = .ok (.goto 137, 3) := by decide +kernel
theorem dL_law_136 : decode cL_law 136 = .ok (.aload_n 1, 1) := by decide +kernel
theorem dL_law_137 : decode cL_law 137 = .ok (.iload 5, 2) := by decide +kernel
theorem dL_law_139 : decode cL_law 139 = .ok (.iload 6, 2) := by decide +kernel
theorem dL_law_141 : decode cL_law 141 = .ok (.invokestatic 244, 3) := by decide +kernel
theorem dL_law_144 : decode cL_law 144 = .ok (.aload_n 2, 1) := by decide +kernel
theorem dL_law_145 : decode cL_law 145 = .ok (.iload 5, 2) := by decide +kernel
theorem dL_law_147 : decode cL_law 147 = .ok (.iload 6, 2) := by decide +kernel
theorem dL_law_149 : decode cL_law 149 = .ok (.invokestatic 244, 3) := by decide +kernel
theorem dL_law_152 : decode cL_law 152 = .ok (.lcmp, 1) := by decide +kernel
theorem dL_law_153 : decode cL_law 153 = .ok (.ifCond .ne 7, 3) := by decide +kernel
theorem dL_law_156 : decode cL_law 156 = .ok (.iconst 1, 1) := by decide +kernel
theorem dL_law_157 : decode cL_law 157 = .ok (.goto 4, 3) := by decide +kernel
theorem dL_law_160 : decode cL_law 160 = .ok (.iconst 0, 1) := by decide +kernel
theorem dL_law_161 : decode cL_law 161 = .ok (.istore_n 3, 1) := by decide +kernel
theorem dL_law_162 : decode cL_law 162 = .ok (.iload 4, 2) := by decide +kernel
theorem dL_law_164 : decode cL_law 164 = .ok (.iconst 4, 1) := by decide +kernel
theorem dL_law_165 : decode cL_law 165 = .ok (.irem, 1) := by decide +kernel
theorem dL_law_166 : decode cL_law 166 = .ok (.ifCond .ne 27, 3) := by decide +kernel
theorem dL_law_169 : decode cL_law 169 = .ok (.iload_n 3, 1) := by decide +kernel
theorem dL_law_170 : decode cL_law 170 = .ok (.ifCond .eq 21, 3) := by decide +kernel
theorem dL_law_173 : decode cL_law 173 = .ok (.aload_n 2, 1) := by decide +kernel
theorem dL_law_174 : decode cL_law 174 = .ok (.invokestatic 232, 3) := by decide +kernel
theorem dL_law_177 : decode cL_law 177 = .ok (.ifCond .eq 14, 3) := by decide +kernel
theorem dL_law_180 : decode cL_law 180 = .ok (.aload_n 2, 1) := by decide +kernel
theorem dL_law_181 : decode cL_law 181 = .ok (.invokestatic 236, 3) := by decide +kernel
theorem dL_law_184 : decode cL_law 184 = .ok (.ifCond .eq 7, 3) := by decide +kernel
theorem dL_law_187 : decode cL_law 187 = .ok (.iconst 1, 1) := by decide +kernel
theorem dL_law_188 : decode cL_law 188 = .ok (.goto 4, 3) := by decide +kernel
theorem dL_law_191 : decode cL_law 191 = .ok (.iconst 0, 1) := by decide +kernel
theorem dL_law_192 : decode cL_law 192 = .ok (.istore_n 3, 1) := by decide +kernel
theorem dL_law_193 : decode cL_law 193 = .ok (.iload 4, 2) := by decide +kernel
theorem dL_law_195 : decode cL_law 195 = .ok (.bipush 18, 2) := by decide +kernel
theorem dL_law_197 : decode cL_law 197 = .ok (.irem, 1) := by decide +kernel
theorem dL_law_198 : decode cL_law 198 = .ok (.bipush 17, 2) := by decide +kernel
theorem dL_law_200 : decode cL_law 200 = .ok (.if_icmp .ne 42, 3) := by decide +kernel
theorem dL_law_203 : decode cL_law 203 = .ok (.iload_n 3, 1) := by decide +kernel
theorem dL_law_204 : decode cL_law 204 = .ok (.ifCond .eq 36, 3) := by decide +kernel
theorem dL_law_207 : decode cL_law 207 = .ok (.aload_n 2, 1) := by decide +kernel
theorem dL_law_208 : decode cL_law 208 = .ok (.iload 6, 2) := by decide +kernel
theorem dL_law_210 : decode cL_law 210 = .ok (.invokestatic 247, 3) := by decide +kernel
theorem dL_law_213 : decode cL_law 213 = .ok (.ifCond .eq 27, 3) := by decide +kernel
theorem dL_law_216 : decode cL_law 216 = .ok (.aload_n 1, 1) := by decide +kernel
theorem dL_law_217 : decode cL_law 217 = .ok (.iconst 1, 1) := by decide +kernel
theorem dL_law_218 : decode cL_law 218 = .ok (.invokestatic 163, 3) := by decide +kernel
theorem dL_law_221 : decode cL_law 221 = .ok (.lconst 0, 1) := by decide +kernel
theorem dL_law_222 : decode cL_law 222 = .ok (.lcmp, 1) := by decide +kernel
theorem dL_law_223 : decode cL_law 223 = .ok (.ifCond .lt 17, 3) := by decide +kernel
theorem dL_law_226 : decode cL_law 226 = .ok (.aload_n 1, 1) := by decide +kernel
theorem dL_law_227 : decode cL_law 227 = .ok (.iconst 1, 1) := by decide +kernel
theorem dL_law_228 : decode cL_law 228 = .ok (.invokestatic 165, 3) := by decide +kernel
theorem dL_law_231 : decode cL_law 231 = .ok (.lconst 0, 1) := by decide +kernel
theorem dL_law_232 : decode cL_law 232 = .ok (.lcmp, 1) := by decide +kernel
theorem dL_law_233 : decode cL_law 233 = .ok (.ifCond .lt 7, 3) := by decide +kernel
theorem dL_law_236 : decode cL_law 236 = .ok (.iconst 1, 1) := by decide +kernel
theorem dL_law_237 : decode cL_law 237 = .ok (.goto 4, 3) := by decide +kernel
theorem dL_law_240 : decode cL_law 240 = .ok (.iconst 0, 1) := by decide +kernel
theorem dL_law_241 : decode cL_law 241 = .ok (.istore_n 3, 1) := by decide +kernel
theorem dL_law_242 : decode cL_law 242 = .ok (.iload_n 3, 1) := by decide +kernel
theorem dL_law_243 : decode cL_law 243 = .ok (.ifCond .eq 25, 3) := by decide +kernel
theorem dL_law_246 : decode cL_law 246 = .ok (.iload 4, 2) := by decide +kernel
theorem dL_law_248 : decode cL_law 248 = .ok (.bipush 6, 2) := by decide +kernel
theorem dL_law_250 : decode cL_law 250 = .ok (.irem, 1) := by decide +kernel
theorem dL_law_251 : decode cL_law 251 = .ok (.ifCond .gt 13, 3) := by decide +kernel
theorem dL_law_254 : decode cL_law 254 = .ok (.aload_n 1, 1) := by decide +kernel
theorem dL_law_255 : decode cL_law 255 = .ok (.aload_n 2, 1) := by decide +kernel
theorem dL_law_256 : decode cL_law 256 = .ok (.iload 6, 2) := by decide +kernel
theorem dL_law_258 : decode cL_law 258 = .ok (.invokestatic 228, 3) := by decide +kernel
theorem dL_law_261 : decode cL_law 261 = .ok (.ifCond .eq 7, 3) := by decide +kernel
theorem dL_law_264 : decode cL_law 264 = .ok (.iconst 1, 1) := by decide +kernel
theorem dL_law_265 : decode cL_law 265 = .ok (.goto 4, 3) := by decide +kernel
theorem dL_law_268 : decode cL_law 268 = .ok (.iconst 0, 1) := by decide +kernel
theorem dL_law_269 : decode cL_law 269 = .ok (.istore_n 3, 1) := by decide +kernel
theorem dL_law_270 : decode cL_law 270 = .ok (.iinc 4 1, 3) := by decide +kernel
theorem dL_law_273 : decode cL_law 273 = .ok (.goto (-221), 3) := by decide +kernel
theorem dL_law_276 : decode cL_law 276 = .ok (.iload_n 3, 1) := by decide +kernel
theorem dL_law_277 : decode cL_law 277 = .ok (.ifCond .eq 17, 3) := by decide +kernel
theorem dL_law_280 : decode cL_law 280 = .ok (.aload_n 1, 1) := by decide +kernel
theorem dL_law_281 : decode cL_law 281 = .ok (.aload_n 2, 1) := by decide +kernel
theorem dL_law_282 : decode cL_law 282 = .ok (.ldc 251, 2) := by decide +kernel
theorem dL_law_284 : decode cL_law 284 = .ok (.invokestatic 228, 3) := by decide +kernel
theorem dL_law_287 : decode cL_law 287 = .ok (.ifCond .eq 7, 3) := by decide +kernel
theorem dL_law_290 : decode cL_law 290 = .ok (.iconst 1, 1) := by decide +kernel
theorem dL_law_291 : decode cL_law 291 = .ok (.goto 4, 3) := by decide +kernel
theorem dL_law_294 : decode cL_law 294 = .ok (.iconst 0, 1) := by decide +kernel
theorem dL_law_295 : decode cL_law 295 = .ok (.ireturn, 1) := by decide +kernel
